/-! events as lists: what lies in the class's arrays 11 .. 16 (begin, length, word, number, numbered, mark) -/
abbrev Vl : Type := Int × Int × Int × Int
abbrev Evt : Type := Int × Int × Vl
def At {α : Type} (Q : Int → α → Prop) : Int → List α → Prop
  | _, [] => True
  | a, e :: l => Q a e ∧ At Q (a + 1) l
theorem At.app {α : Type} {Q : Int → α → Prop} : ∀ {l m : List α} {a : Int}, At Q a l → At Q (a + l.length) m → At Q a (l ++ m)
  | [], m, a, _, h => by simpa using h
  | e :: l, m, a, h, k => by
    refine ⟨h.1, At.app h.2 ?_⟩
    have : a + 1 + (l.length : Int) = a + ((e :: l).length : Int) := by simp only [List.length_cons]; omega
    rw [this]
    exact k
theorem At.l {α : Type} {Q : Int → α → Prop} : ∀ {l m : List α} {a : Int}, At Q a (l ++ m) → At Q a l
  | [], _, _, _ => trivial
  | _ :: _, _, _, h => ⟨h.1, At.l h.2⟩
theorem At.rt {α : Type} {Q : Int → α → Prop} : ∀ {l m : List α} {a : Int}, At Q a (l ++ m) → At Q (a + l.length) m
  | [], m, a, h => by simpa using h
  | e :: l, m, a, h => by
    have := At.rt h.2
    have e1 : a + 1 + (l.length : Int) = a + ((e :: l).length : Int) := by simp only [List.length_cons]; omega
    rw [e1] at this
    exact this
theorem At.mono {α : Type} {Q Q' : Int → α → Prop} : ∀ {l : List α} {a : Int}, (∀ i e, a ≤ i → i < a + l.length → e ∈ l → Q i e → Q' i e) → At Q a l → At Q' a l
  | [], _, _, _ => trivial
  | e :: l, a, hq, h => by
    refine ⟨hq a e (Int.le_refl _) (by simp only [List.length_cons]; omega) (by simp) h.1, At.mono (fun i e' h1 h2 h3 h4 => hq i e' (by omega) (by simp only [List.length_cons]; omega) (by simp [h3]) h4) h.2⟩
theorem At.snoc {α : Type} {Q : Int → α → Prop} {l : List α} {a : Int} {e : α} (h : At Q a l) (k : Q (a + l.length) e) : At Q a (l ++ [e]) := At.app h ⟨k, trivial⟩
theorem At.all {α : Type} {Q : Int → α → Prop} {P : α → Prop} (hq : ∀ i e, Q i e → P e) : ∀ {l : List α} {a : Int}, At Q a l → ∀ e ∈ l, P e
  | [], _, _, _, h => by cases h
  | e :: l, a, h, e', he => by
    rcases List.mem_cons.1 he with rfl | he
    · exact hq _ _ h.1
    · exact At.all hq h.2 e' he
theorem At.map {α β : Type} {Q : Int → α → Prop} {Q' : Int → β → Prop} {f : α → β} : ∀ {l : List α} {a : Int}, (∀ i e, a ≤ i → i < a + l.length → Q i e → Q' i (f e)) → At Q a l → At Q' a (l.map f)
  | [], _, _, _ => trivial
  | e :: l, a, hq, h => ⟨hq a e (Int.le_refl _) (by simp only [List.length_cons]; omega) h.1, At.map (fun i e' h1 h2 h4 => hq i e' (by omega) (by simp only [List.length_cons]; omega) h4) h.2⟩
/-- a value of the class (word, number, numbered) and of the reference (wordA, wordB, amount, has) -/
def RV (w n b : Int) (v : Vl) : Prop := RWd w v.1 v.2.1 ∧ i64 w ∧ (w = 0 ↔ v.2.2.2 = 2) ∧ n = v.2.2.1 ∧ i32 n ∧ b = v.2.2.2 / 2 ∧ 1 ≤ v.2.2.2 ∧ v.2.2.2 ≤ 3 ∧ (v.2.2.2 = 1 → n = 0)
theorem RV.z {w n b : Int} {v : Vl} (h : RV w n b v) : isZ b := by
  obtain ⟨-, -, -, -, -, h, h1, h2, -⟩ := h
  unfold isZ
  omega
def CE (σ : St) (a : Int) (e : Evt) : Prop := el σ 11 a = e.1 ∧ el σ 12 a = e.2.1 ∧ RV (el σ 13 a) (el σ 14 a) (el σ 15 a) e.2.2
/-- what working on events leaves alone: all but arrays 11 .. 23, the top, the keys; of 11 .. 16 what lies below m -/
def EF (m : Int) (σ σ' : St) : Prop := (∀ f i, f ≠ 46 → f ≠ 52 → f ≠ 53 → fl σ' f i = fl σ f i) ∧ (KY σ → KY σ') ∧ (∀ a j, a < 11 ∨ 23 < a → el σ' a j = el σ a j) ∧ ∀ a j, 11 ≤ a → a ≤ 16 → j < m → el σ' a j = el σ a j
theorem EF.rf (m : Int) (σ : St) : EF m σ σ := ⟨fun _ _ _ _ _ => rfl, id, fun _ _ _ => rfl, fun _ _ _ _ _ => rfl⟩
theorem EF.tr {m m' : Int} {σ σ1 σ2 : St} (h : EF m σ σ1) (k : EF m' σ1 σ2) (hm : m ≤ m') : EF m σ σ2 :=
  ⟨fun f i a b c => (k.1 f i a b c).trans (h.1 f i a b c), fun x => k.2.1 (h.2.1 x), fun a j x => (k.2.2.1 a j x).trans (h.2.2.1 a j x), fun a j x y z => (k.2.2.2 a j x y (by omega)).trans (h.2.2.2 a j x y z)⟩
theorem EF.at {m : Int} {σ σ' : St} (h : EF m σ σ') {l : List Evt} {a : Int} (k : At (CE σ) a l) (hm : a + l.length ≤ m) : At (CE σ') a l := by
  refine k.mono (fun i e a1 a2 _ h1 => ?_)
  unfold CE at h1 ⊢
  rw [h.2.2.2 11 i (by decide) (by decide) (by omega), h.2.2.2 12 i (by decide) (by decide) (by omega), h.2.2.2 13 i (by decide) (by decide) (by omega), h.2.2.2 14 i (by decide) (by decide) (by omega), h.2.2.2 15 i (by decide) (by decide) (by omega)]
  exact h1
/-- a change of elements alone -/
theorem EF.mk {m : Int} {σ σ' : St} (h1 : ∀ f i, f ≠ 46 → fl σ' f i = fl σ f i) (h3 : ∀ a j, a < 11 ∨ 23 < a → el σ' a j = el σ a j) (h4 : ∀ a j, 11 ≤ a → a ≤ 16 → j < m → el σ' a j = el σ a j) : EF m σ σ' :=
  ⟨fun f i a _ _ => h1 f i a, fun x => by unfold KY; rw [h1 52 10 (by decide), h1 53 10 (by decide)]; exact x, h3, h4⟩
def mv (k b : Int) (l : List Evt) : List Evt := l.map (fun e => (e.1 * k + b, e.2.1 * k, e.2.2))
section EV
variable {N : Nat} {π : Sh}
theorem c_push {σ : St} {x1 x3 x5 x7 x8 : Int} (h0 : 0 ≤ fl σ 46 10) (h1 : fl σ 46 10 < 6000) {v : Vl} (hv : RV x5 x7 x8 v) : ∃ σ', Es_push N π σ x1 x3 x5 x7 x8 = some σ' ∧ EF (fl σ 46 10) σ σ' ∧ fl σ' 46 10 = fl σ 46 10 + 1 ∧ CE σ' (fl σ 46 10) (x1, x3, v) ∧ (∀ f i, f ≠ 46 → fl σ' f i = fl σ f i) ∧ ∀ a j, j ≠ fl σ 46 10 ∨ a = 16 → el σ' a j = el σ a j := by
  refine ⟨sf (se (se (se (se (se σ 11 (fl σ 46 10) x1) 12 (fl σ 46 10) x3) 13 (fl σ 46 10) x5) 14 (fl σ 46 10) x7) 15 (fl σ 46 10) x8) 46 10 ((fl σ 46 10) + 1), ?_, ?_, fl_sfs _ _ _ _, ?_, ?_, ?_⟩
  · rw [Es_push, grd_t (by exact ⟨by omega, by omega⟩), if_pos h1, grd_t (by exact ⟨by omega, by omega⟩), grd_t hv.z]
  · refine EF.mk (fun f i hf => fl_sfn _ _ _ _ hf) (fun a j ha => ?_) (fun a j _ _ hj => ?_)
    · rw [el_sf, el_sen _ _ _ _ (by omega), el_sen _ _ _ _ (by omega), el_sen _ _ _ _ (by omega), el_sen _ _ _ _ (by omega), el_sen _ _ _ _ (by omega)]
    · simp only [el_sf, el_se]
      rw [if_neg (by omega), if_neg (by omega), if_neg (by omega), if_neg (by omega), if_neg (by omega)]
  · refine ⟨?_, ?_, ?_⟩
    · simp only [el_sf, el_se]; rfl
    · simp only [el_sf, el_se]; rfl
    · simp only [el_sf, el_se]; exact hv
  · exact fun f i hf => fl_sfn _ _ _ _ hf
  · intro a j hj
    simp only [el_sf, el_se]
    rw [if_neg (by omega), if_neg (by omega), if_neg (by omega), if_neg (by omega), if_neg (by omega)]
theorem c_move {σ : St} {x1 x2 : Int} (h1 : 0 ≤ x1 ∧ x1 < 6000) (h2 : 0 ≤ x2 ∧ x2 < 6000) (hz : isZ (el σ 15 x1)) : ∃ σ', Es_move N π σ x1 x2 = some σ' ∧ (∀ f i, fl σ' f i = fl σ f i) ∧ ∀ a j, el σ' a j = if (11 ≤ a ∧ a ≤ 16) ∧ j = x2 then el σ a x1 else el σ a j := by
  by_cases h : x1 = x2
  · refine ⟨σ, ?_, fun _ _ => rfl, fun a j => ?_⟩
    · rw [Es_move, grd_t (by exact ⟨by omega, by omega⟩), grd_t (by exact ⟨by omega, by omega⟩), if_pos h]
    · split
      · rename_i h3; rw [h3.2, h]
      · rfl
  · refine ⟨se (se (se (se (se (se σ 11 x2 (el σ 11 x1)) 12 x2 (el σ 12 x1)) 13 x2 (el σ 13 x1)) 14 x2 (el σ 14 x1)) 15 x2 (el σ 15 x1)) 16 x2 (el σ 16 x1), ?_, fun _ _ => rfl, fun a j => ?_⟩
    · rw [Es_move, grd_t (by exact ⟨by omega, by omega⟩), grd_t (by exact ⟨by omega, by omega⟩), if_neg h, grd_t (by exact ⟨by omega, by omega⟩), grd_t (by exact ⟨by omega, by omega⟩), grd_t hz]
    · simp only [el_se]
      by_cases hj : j = x2
      · by_cases ha : 11 ≤ a ∧ a ≤ 16
        · have : a = 11 ∨ a = 12 ∨ a = 13 ∨ a = 14 ∨ a = 15 ∨ a = 16 := by omega
          rcases this with rfl | rfl | rfl | rfl | rfl | rfl <;> simp [hj]
        · rw [if_neg (by omega), if_neg (by omega), if_neg (by omega), if_neg (by omega), if_neg (by omega), if_neg (by omega), if_neg (by omega)]
      · rw [if_neg (by omega), if_neg (by omega), if_neg (by omega), if_neg (by omega), if_neg (by omega), if_neg (by omega), if_neg (by omega)]
theorem c_pushAgain {k b to : Int} : ∀ (l : List Evt) (n : Nat) (σ : St) (i : Int), l.length < n → At (CE σ) i l → 0 ≤ i → i + l.length = to → to ≤ fl σ 46 10 → fl σ 46 10 + l.length ≤ 6000 → ∃ σ', Es_pushAgain_3 N π n σ to k b i = some σ' ∧ EF (fl σ 46 10) σ σ' ∧ fl σ' 46 10 = fl σ 46 10 + l.length ∧ At (CE σ') (fl σ 46 10) (mv k b l)
  | [], n + 1, σ, i, _, _, h0, h1, h2, h3 => by
    simp only [List.length_nil] at h1 h3
    refine ⟨σ, ?_, EF.rf _ _, by simp, trivial⟩
    rw [Es_pushAgain_3, grd_t (by exact ⟨by omega, by omega⟩), grd_t (by exact ⟨by omega, by omega⟩), if_neg (by omega)]
  | e :: l, n + 1, σ, i, hn, ha, h0, h1, h2, h3 => by
    simp only [List.length_cons] at h1 h3 hn
    obtain ⟨⟨e1, e2, e3⟩, ha⟩ := ha
    obtain ⟨σ1, p1, p2, p3, p4, p5, p6⟩ := c_push (N := N) (π := π) (σ := σ) (x1 := e.1 * k + b) (x3 := e.2.1 * k) (by omega) (by omega) e3
    obtain ⟨σ2, q1, q2, q3, q4⟩ := c_pushAgain (k := k) (b := b) (to := to) l n σ1 (i + 1) (by omega) (p2.at ha (by omega)) (by omega) (by omega) (by omega) (by omega)
    refine ⟨σ2, ?_, p2.tr q2 (by omega), by rw [q3, p3]; simp only [List.length_cons]; omega, ?_⟩
    · rw [Es_pushAgain_3, grd_t (by exact ⟨by omega, by omega⟩), grd_t (by exact ⟨by omega, by omega⟩), if_pos (by omega), grd_t (by exact ⟨by omega, by omega⟩), e1, e2, p1, Option.bind_some]
      exact q1
    · rw [p3] at q4 q2
      refine ⟨?_, q4⟩
      have : At (CE σ1) (fl σ 46 10) [(e.1 * k + b, e.2.1 * k, e.2.2)] := ⟨p4, trivial⟩
      exact (q2.at this (by simp)).1
theorem c_scale_lp {k b m : Int} : ∀ (l : List Evt) (n : Nat) (σ : St) (i : Int), l.length < n → At (CE σ) i l → m ≤ i → 0 ≤ i → i + l.length = fl σ 46 10 → fl σ 46 10 ≤ 6000 → ∃ σ', Es_scale_17 N π n σ k b i = some σ' ∧ EF i σ σ' ∧ (∀ f j, fl σ' f j = fl σ f j) ∧ At (CE σ') i (mv k b l)
  | [], n + 1, σ, i, _, _, hm, h0, h1, h2 => by
    simp only [List.length_nil] at h1
    refine ⟨σ, ?_, EF.rf _ _, fun _ _ => rfl, trivial⟩
    rw [Es_scale_17, grd_t (by exact ⟨by omega, by omega⟩), grd_t (by exact ⟨by omega, by omega⟩), if_neg (by omega)]
  | e :: l, n + 1, σ, i, hn, ha, hm, h0, h1, h2 => by
    simp only [List.length_cons] at h1 hn
    obtain ⟨⟨e1, e2, e3⟩, ha⟩ := ha
    have f1 : EF i σ (se (se σ 11 i (e.1 * k + b)) 12 i (e.2.1 * k)) := EF.mk (fun _ _ _ => rfl) (fun a j ha => by rw [el_sen _ _ _ _ (by omega), el_sen _ _ _ _ (by omega)]) (fun a j _ _ hj => by
      simp only [el_se]
      rw [if_neg (by omega), if_neg (by omega)])
    have a1 : At (CE (se (se σ 11 i (e.1 * k + b)) 12 i (e.2.1 * k))) (i + 1) l := ha.mono (fun j e' j1 j2 _ h => by
      unfold CE at h ⊢
      simp only [el_se]
      rw [if_neg (by omega), if_neg (by omega), if_neg (by omega), if_neg (by omega), if_neg (by omega), if_neg (by omega), if_neg (by omega), if_neg (by omega), if_neg (by omega), if_neg (by omega)]
      exact h)
    have c1 : CE (se (se σ 11 i (e.1 * k + b)) 12 i (e.2.1 * k)) i (e.1 * k + b, e.2.1 * k, e.2.2) := by
      unfold CE
      simp only [el_se]
      exact ⟨rfl, rfl, e3⟩
    obtain ⟨σ2, q1, q2, q3, q4⟩ := c_scale_lp (k := k) (b := b) (m := i) l n (se (se σ 11 i (e.1 * k + b)) 12 i (e.2.1 * k)) (i + 1) (by omega) a1 (by omega) (by omega) (by show i + 1 + (l.length : Int) = fl σ 46 10; omega) h2
    refine ⟨σ2, ?_, f1.tr q2 (by omega), q3, ?_, q4⟩
    · rw [Es_scale_17, grd_t (by exact ⟨by omega, by omega⟩), grd_t (by exact ⟨by omega, by omega⟩), if_pos (by omega), grd_t (by exact ⟨by omega, by omega⟩), e1, e2]
      exact q1
    · have : At (CE (se (se σ 11 i (e.1 * k + b)) 12 i (e.2.1 * k))) i [(e.1 * k + b, e.2.1 * k, e.2.2)] := ⟨c1, trivial⟩
      exact (q2.at this (by simp)).1
theorem mv_one (l : List Evt) : mv 1 0 l = l := by
  unfold mv
  rw [show (fun e : Evt => (e.1 * 1 + 0, e.2.1 * 1, e.2.2)) = id from funext (fun e => by simp)]
  exact List.map_id _
theorem c_scale {k b : Int} {l : List Evt} {σ : St} {i : Int} (hN : 6001 ≤ N) (ha : At (CE σ) i l) (h0 : 0 ≤ i) (h1 : i + l.length = fl σ 46 10) (h2 : fl σ 46 10 ≤ 6000) (hk : i64 k) (hb : i64 b) : ∃ σ', Es_scale N π σ i k b = some σ' ∧ EF i σ σ' ∧ (∀ f j, fl σ' f j = fl σ f j) ∧ At (CE σ') i (mv k b l) := by
  obtain ⟨σ2, q1, q2, q3, q4⟩ := c_scale_lp (N := N) (π := π) (k := k) (b := b) (m := i) l N σ i (by omega) ha (Int.le_refl _) h0 h1 h2
  by_cases c1 : k = 1
  · by_cases c2 : b = 0
    · refine ⟨σ, ?_, EF.rf _ _, fun _ _ => rfl, by rw [c1, c2, mv_one]; exact ha⟩
      rw [Es_scale, grd_t hk, if_pos c1, grd_t hb, if_pos c2]
    · exact ⟨σ2, by rw [Es_scale, grd_t hk, if_pos c1, grd_t hb, if_neg c2]; exact q1, q2, q3, q4⟩
  · exact ⟨σ2, by rw [Es_scale, grd_t hk, if_neg c1]; exact q1, q2, q3, q4⟩
end EV
