/-! new steps with their operands, added to a body -/
section NW
variable {N : Nat} {Xo : Int → Prop}
theorem c_give1 {π1 : Sh} {σ1 : St} {n0 s p kd place A B C E us : Int} {ops : List Kid} (ho : OPs π1 σ1 n0 s ops) (hf : FSp σ1 s kd place A B C E 0 0 us) (h7 : fl σ1 211 s = -1 ∧ fl σ1 212 s = -1 ∧ fl σ1 213 s = -1) (hn : n0 ≤ nn π1) (hl : ops.length ≤ 3) : ∃ π2 σ2, Sp_give N π1 σ1 s p = some (π2, σ2, s) ∧ FRn n0 π1 σ1 π2 σ2 ∧ OPs π2 σ2 n0 s (ops ++ [(p, 1, 1)]) ∧ FSp σ2 s kd place A B C E 0 0 us ∧ (fl σ2 211 s = -1 ∧ fl σ2 212 s = -1 ∧ fl σ2 213 s = -1) ∧ n0 ≤ nn π2 ∧ (ops.length < 2 → 2 ≤ ln π1 (fl σ1 210 s) → nn π2 = nn π1 ∧ sw π2 = sw π1 ∧ ln π2 (fl σ2 210 s) = ln π1 (fl σ1 210 s)) ∧ (nn π2 ≤ nn π1 + 1 ∧ (sw π2 : Int) ≤ sw π1 + 2 * (2 * ops.length + 4)) := by
  obtain ⟨π2, σ2, g1, g2, g3, g4, g5, g6, g7, g8⟩ := c_give (N := N) (o := p) ho hn (by omega) (1, 1)
  have k : ∀ f : Nat, f ≠ 209 → f ≠ 210 → fl σ2 f s = fl σ1 f s := fun f a b => g6 f s (by omega)
  obtain ⟨f0, f1, f2, f3, f4, f5, f6, f7, f8⟩ := hf
  have nge := g2.1.1
  refine ⟨π2, σ2, g1, g2, g5, ⟨by rw [k 200 (by omega) (by omega)]; exact f0, by rw [k 201 (by omega) (by omega)]; exact f1, by rw [k 202 (by omega) (by omega)]; exact f2, by rw [k 203 (by omega) (by omega)]; exact f3, by rw [k 204 (by omega) (by omega)]; exact f4, by rw [k 205 (by omega) (by omega)]; exact f5, by rw [k 206 (by omega) (by omega)]; exact f6, by rw [k 207 (by omega) (by omega)]; exact f7, by rw [k 208 (by omega) (by omega)]; exact f8⟩, ⟨by rw [k 211 (by omega) (by omega)]; exact h7.1, by rw [k 212 (by omega) (by omega)]; exact h7.2.1, by rw [k 213 (by omega) (by omega)]; exact h7.2.2⟩, by omega, fun a b => ?_, g3, ?_⟩
  · have c : (ops.length : Int) < ln π1 (fl σ1 210 s) := by omega
    obtain ⟨h1, h2, h3, h4, h5, h6, h7', h8⟩ := id ho
    have e : Sp_give N π1 σ1 s p = some (π1, sf (se σ1 (fl σ1 210 s) ops.length p) 209 s (ops.length + 1), s) := by
      rw [Sp_give, grd_t h1, grd_t h4, grd_t (by omega), h3, grd_t (by exact ⟨by omega, by omega⟩), grd_t (by exact ⟨by omega, by omega⟩), if_pos c, Sp_give_31, grd_t h1, grd_t h4, h3, grd_t (by exact ⟨by omega, by omega, by omega⟩)]
    rw [e] at g1
    have e' := Option.some.inj g1
    have e1 : π1 = π2 := congrArg (fun x => x.1) e'
    have q := g4.2
    rw [if_pos c] at q
    rw [e1] at q ⊢
    exact ⟨rfl, rfl, q⟩
  · have := g5.2.2.2.2.2.2.1
    have h0 := ho.2.2.2.2.2.1
    have g41 := g4.1
    rw [List.length_append] at this
    simp at this
    omega
/-- as XFt, and the scanner and the reader stay -/
def XGt (x : Int) (π : Sh) (σ : St) (π' : Sh) (σ' : St) : Prop := XFt x π σ π' σ' ∧ (∀ (f : Nat) (i : Int), i < 56 → fl σ' f i = fl σ f i) ∧ ∀ j, el σ' 2 j = el σ 2 j
theorem XGt.rf (x : Int) (π : Sh) (σ : St) : XGt x π σ π σ := ⟨XFt.rf x π σ, fun _ _ _ => rfl, fun _ => rfl⟩
theorem XGt.tr {x : Int} {π π1 π2 : Sh} {σ σ1 σ2 : St} (h : XGt x π σ π1 σ1) (k : XGt x π1 σ1 π2 σ2) : XGt x π σ π2 σ2 := ⟨h.1.tr k.1, fun f i hi => (k.2.1 f i hi).trans (h.2.1 f i hi), fun j => (k.2.2 j).trans (h.2.2 j)⟩
theorem XGt.d23 {π π' : Sh} {σ σ' τ : St} {D P : Int} {L : List Stq} {Kn : List Int} (h : XGt (fl σ 23 D) π σ π' σ') (b : BDy Xo π σ τ D P L Kn) : fl σ' 23 D = fl σ 23 D := h.1.d23 b
/-- a step that stands made is added -/
theorem c_addSt {π π1 : Sh} {σ σ1 τ : St} {D P s K place A B C E a b c d : Int} {L : List Stq} {Kn : List Int} {ops : List Kid} (hS : SHs π) (h : BDy Xo π σ τ D P L Kn) (hL : L.length ≤ 20000) (hf : FRn (nn π) π σ π1 σ1) (ho : OPs π1 σ1 (nn π) s ops) (hl : ops.length ≤ 2000) (hF : FSp σ1 s (kcO K) place A B C E 0 0 (-1)) (h7 : fl σ1 211 s = -1 ∧ fl σ1 212 s = -1 ∧ fl σ1 213 s = -1) (hK : (5 ≤ K ∧ K ≤ 25) ∧ K ≠ 6 ∧ K ≠ 7) (h2 : K ≠ 5 → A = if K = 11 then -a else a) (h3 : 7 ≤ K → B = if K = 21 ∨ K = 22 then 1000003 * b else b) (h4 : K = 8 ∨ K = 16 ∨ K = 20 → C = c) (h5 : K = 16 ∨ K = 20 → E = d) (hr : (nn π1 : Int) ≤ nn π + 5 ∧ (sw π1 : Int) ≤ sw π + 60) : ∃ π2 σ2, Df_add N π1 σ1 D s = some (π2, σ2, P + L.length) ∧ ob π1 D 1 ∧ XGt (fl σ 23 D) π σ π2 σ2 ∧ BDy Xo π2 σ2 τ D P (L ++ [(K, place, a, b, c, d, 0, ops)]) Kn ∧ RmX (fl σ 23 D) π σ π2 σ2 6 60 ∧ SHs π2 := by
  have n56 := hS.1
  have sq : SQ π1 σ1 s (K, place, a, b, c, d, 0, ops) := Or.inr ⟨(show K ≠ 99 by omega), mkSR ho (by omega) hl (mkCK hF (by rw [h7.2.1]; decide) (by omega) (fun h => absurd h (show ¬ K = 1 by omega)) (fun _ _ h => h2 h) h3 h4 h5) hF.2.1 ⟨hF.2.2.2.2.2.2.1, Or.inl rfl⟩⟩
  obtain ⟨π2, σ2, q1, q2, q3, q4, q5, q6, q7, q8, q9⟩ := c_addNew (N := N) hS h hL hf sq (own_new ho h7)
  exact ⟨π2, σ2, q1, q2, ⟨q4, q8, q9⟩, q5, q6.mono (by omega) (by omega), q7⟩
def mk1 (N : Nat) (π : Sh) (σ : St) (D kd place A B p : Int) (kont : Sh → St → Int → Option (Sh × St × Int)) : Option (Sh × St × Int) := Option.bind (Sp_initB N (nO π 10 14) (zO σ (nn π) dfl) (nn π) kd place A B) (fun r => grd (ob (nO π 10 14) (nn π) 10) (Option.bind (Sp_give N r.1 r.2 (nn π) p) (fun r2 => grd (ob r.1 (nn π) 10) (Option.bind (Df_add N r2.1 r2.2.1 D r2.2.2) (fun r3 => grd (ob r2.1 D 1) (kont r3.1 r3.2.1 r3.2.2))))))
def mk2 (N : Nat) (π : Sh) (σ : St) (D kd place A B p q : Int) (kont : Sh → St → Int → Option (Sh × St × Int)) : Option (Sh × St × Int) := Option.bind (Sp_initB N (nO π 10 14) (zO σ (nn π) dfl) (nn π) kd place A B) (fun r => grd (ob (nO π 10 14) (nn π) 10) (Option.bind (Sp_give N r.1 r.2 (nn π) p) (fun r2 => grd (ob r.1 (nn π) 10) (Option.bind (Sp_give N r2.1 r2.2.1 r2.2.2 q) (fun r4 => grd (ob r2.1 r2.2.2 10) (Option.bind (Df_add N r4.1 r4.2.1 D r4.2.2) (fun r3 => grd (ob r4.1 D 1) (kont r3.1 r3.2.1 r3.2.2))))))))
/-- with no numbers -/
def mk1i (N : Nat) (π : Sh) (σ : St) (D kd place p : Int) (kont : Sh → St → Int → Option (Sh × St × Int)) : Option (Sh × St × Int) := Option.bind (Sp_init N (nO π 10 14) (zO σ (nn π) dfl) (nn π) kd place) (fun r => grd (ob (nO π 10 14) (nn π) 10) (Option.bind (Sp_give N r.1 r.2 (nn π) p) (fun r2 => grd (ob r.1 (nn π) 10) (Option.bind (Df_add N r2.1 r2.2.1 D r2.2.2) (fun r3 => grd (ob r2.1 D 1) (kont r3.1 r3.2.1 r3.2.2))))))
def mk2i (N : Nat) (π : Sh) (σ : St) (D kd place p q : Int) (kont : Sh → St → Int → Option (Sh × St × Int)) : Option (Sh × St × Int) := Option.bind (Sp_init N (nO π 10 14) (zO σ (nn π) dfl) (nn π) kd place) (fun r => grd (ob (nO π 10 14) (nn π) 10) (Option.bind (Sp_give N r.1 r.2 (nn π) p) (fun r2 => grd (ob r.1 (nn π) 10) (Option.bind (Sp_give N r2.1 r2.2.1 r2.2.2 q) (fun r4 => grd (ob r2.1 r2.2.2 10) (Option.bind (Df_add N r4.1 r4.2.1 D r4.2.2) (fun r3 => grd (ob r4.1 D 1) (kont r3.1 r3.2.1 r3.2.2))))))))
/-- what they come to -/
def ADo (Xo : Int → Prop) (D P : Int) (L : List Stq) (Kn : List Int) (π : Sh) (σ τ : St) (seg : List Stq) (π' : Sh) (σ' : St) (A B : Int) : Prop := XGt (fl σ 23 D) π σ π' σ' ∧ BDy Xo π' σ' τ D P (L ++ seg) Kn ∧ RmX (fl σ 23 D) π σ π' σ' A B ∧ SHs π'
theorem ADo.tr {D P A B A' B' : Int} {L : List Stq} {Kn : List Int} {π π1 π2 : Sh} {σ σ1 σ2 τ : St} {s1 s2 : List Stq} (h : ADo Xo D P L Kn π σ τ s1 π1 σ1 A B) (hb : BDy Xo π σ τ D P L Kn) (k : ADo Xo D P (L ++ s1) Kn π1 σ1 τ s2 π2 σ2 A' B') : ADo Xo D P L Kn π σ τ (s1 ++ s2) π2 σ2 (A + A') (B + B') := by
  obtain ⟨h1, h2, h3, h4⟩ := h
  obtain ⟨k1, k2, k3, k4⟩ := k
  rw [h1.d23 hb] at k1 k3
  exact ⟨h1.tr k1, by rw [← List.append_assoc]; exact k2, h3.tr k3, k4⟩
theorem ADo.mono {D P A B A' B' : Int} {L : List Stq} {Kn : List Int} {π π1 : Sh} {σ σ1 τ : St} {s1 : List Stq} (h : ADo Xo D P L Kn π σ τ s1 π1 σ1 A B) (h1 : A ≤ A') (h2 : B ≤ B') : ADo Xo D P L Kn π σ τ s1 π1 σ1 A' B' := ⟨h.1, h.2.1, h.2.2.1.mono h1 h2, h.2.2.2⟩
theorem mk1_ok {π : Sh} {σ τ : St} {D P K place A B a b p : Int} {L : List Stq} {Kn : List Int} (hS : SHs π) (h : BDy Xo π σ τ D P L Kn) (hL : L.length ≤ 20000) (hK : (5 ≤ K ∧ K ≤ 25) ∧ K ≠ 6 ∧ K ≠ 7 ∧ K ≠ 8 ∧ K ≠ 16 ∧ K ≠ 20) (h2 : K ≠ 5 → A = if K = 11 then -a else a) (h3 : 7 ≤ K → B = if K = 21 ∨ K = 22 then 1000003 * b else b) : ∃ π' σ', (∀ kont, mk1 N π σ D (kcO K) place A B p kont = kont π' σ' (P + L.length)) ∧ ADo Xo D P L Kn π σ τ [(K, place, a, b, 0, 0, 0, [(p, 1, 1)])] π' σ' 6 60 := by
  obtain ⟨π1, σ1, s1, s2, s3, s4, s5, s6, s7, s8⟩ := c_spInitB (N := N) (π := π) (σ := σ) (kd := kcO K) (place := place) (a := A) (b := B)
  obtain ⟨π2, σ2, g1, g2, g3, g4, g5, g6, g7, g8⟩ := c_give1 (N := N) (p := p) s6 s5 s7 (by omega) (by simp)
  have g7' := g7 (by simp) (by omega)
  obtain ⟨π3, σ3, u1, u2, u3, u4, u5, u6⟩ := c_addSt (N := N) (K := K) (a := a) (b := b) (c := 0) (d := 0) hS h hL (s2.tr g2 (Int.le_refl _)) g3 (by simp) g4 g5 (by omega) h2 h3 (fun e => by omega) (fun e => by omega) (by omega)
  refine ⟨π3, σ3, ?_, u3, u4, u5, u6⟩
  intro kont
  rw [mk1, s1, Option.bind_some, grd_t (ob_nO π 10 14), g1, Option.bind_some, grd_t s6.1, u1, Option.bind_some, grd_t u2]
theorem mk2_ok {π : Sh} {σ τ : St} {D P K place A B a b p q : Int} {L : List Stq} {Kn : List Int} (hS : SHs π) (h : BDy Xo π σ τ D P L Kn) (hL : L.length ≤ 20000) (hK : (5 ≤ K ∧ K ≤ 25) ∧ K ≠ 6 ∧ K ≠ 7 ∧ K ≠ 8 ∧ K ≠ 16 ∧ K ≠ 20) (h2 : K ≠ 5 → A = if K = 11 then -a else a) (h3 : 7 ≤ K → B = if K = 21 ∨ K = 22 then 1000003 * b else b) : ∃ π' σ', (∀ kont, mk2 N π σ D (kcO K) place A B p q kont = kont π' σ' (P + L.length)) ∧ ADo Xo D P L Kn π σ τ [(K, place, a, b, 0, 0, 0, [(p, 1, 1), (q, 1, 1)])] π' σ' 6 60 := by
  obtain ⟨π1, σ1, s1, s2, s3, s4, s5, s6, s7, s8⟩ := c_spInitB (N := N) (π := π) (σ := σ) (kd := kcO K) (place := place) (a := A) (b := B)
  obtain ⟨π2, σ2, g1, g2, g3, g4, g5, g6, g7, g8⟩ := c_give1 (N := N) (p := p) s6 s5 s7 (by omega) (by simp)
  have g7' := g7 (by simp) (by omega)
  obtain ⟨π3, σ3, v1, v2, v3, v4, v5, v6, v7, v8⟩ := c_give1 (N := N) (p := q) g3 g4 g5 g6 (by simp)
  have v7' := v7 (by simp) (by omega)
  obtain ⟨π4, σ4, u1, u2, u3, u4, u5, u6⟩ := c_addSt (N := N) (K := K) (a := a) (b := b) (c := 0) (d := 0) hS h hL ((s2.tr g2 (Int.le_refl _)).tr v2 (Int.le_refl _)) v3 (by simp) v4 v5 (by omega) h2 h3 (fun e => by omega) (fun e => by omega) (by omega)
  refine ⟨π4, σ4, ?_, u3, u4, u5, u6⟩
  intro kont
  rw [mk2, s1, Option.bind_some, grd_t (ob_nO π 10 14), g1, Option.bind_some, grd_t s6.1]
  simp only
  rw [v1, Option.bind_some, grd_t g3.1, u1, Option.bind_some, grd_t u2]
theorem mk1i_ok {π : Sh} {σ τ : St} {D P K place p : Int} {L : List Stq} {Kn : List Int} (hS : SHs π) (h : BDy Xo π σ τ D P L Kn) (hL : L.length ≤ 20000) (hK : (5 ≤ K ∧ K ≤ 25) ∧ K ≠ 6 ∧ K ≠ 7 ∧ K ≠ 8 ∧ K ≠ 16 ∧ K ≠ 20) : ∃ π' σ', (∀ kont, mk1i N π σ D (kcO K) place p kont = kont π' σ' (P + L.length)) ∧ ADo Xo D P L Kn π σ τ [(K, place, 0, 0, 0, 0, 0, [(p, 1, 1)])] π' σ' 6 60 := by
  obtain ⟨π1, σ1, s1, s2, s3, s4, s5, s6, s7, s8⟩ := c_spInit (N := N) (π := π) (σ := σ) (kd := kcO K) (place := place)
  obtain ⟨π2, σ2, g1, g2, g3, g4, g5, g6, g7, g8⟩ := c_give1 (N := N) (p := p) s6 s5 s7 (by omega) (by simp)
  have g7' := g7 (by simp) (by omega)
  obtain ⟨π3, σ3, u1, u2, u3, u4, u5, u6⟩ := c_addSt (N := N) (K := K) (a := 0) (b := 0) (c := 0) (d := 0) hS h hL (s2.tr g2 (Int.le_refl _)) g3 (by simp) g4 g5 (by omega) (fun _ => by split <;> rfl) (fun _ => by split <;> rfl) (fun e => by omega) (fun e => by omega) (by omega)
  refine ⟨π3, σ3, ?_, u3, u4, u5, u6⟩
  intro kont
  rw [mk1i, s1, Option.bind_some, grd_t (ob_nO π 10 14), g1, Option.bind_some, grd_t s6.1, u1, Option.bind_some, grd_t u2]
theorem mk2i_ok {π : Sh} {σ τ : St} {D P K place p q : Int} {L : List Stq} {Kn : List Int} (hS : SHs π) (h : BDy Xo π σ τ D P L Kn) (hL : L.length ≤ 20000) (hK : (5 ≤ K ∧ K ≤ 25) ∧ K ≠ 6 ∧ K ≠ 7 ∧ K ≠ 8 ∧ K ≠ 16 ∧ K ≠ 20) : ∃ π' σ', (∀ kont, mk2i N π σ D (kcO K) place p q kont = kont π' σ' (P + L.length)) ∧ ADo Xo D P L Kn π σ τ [(K, place, 0, 0, 0, 0, 0, [(p, 1, 1), (q, 1, 1)])] π' σ' 6 60 := by
  obtain ⟨π1, σ1, s1, s2, s3, s4, s5, s6, s7, s8⟩ := c_spInit (N := N) (π := π) (σ := σ) (kd := kcO K) (place := place)
  obtain ⟨π2, σ2, g1, g2, g3, g4, g5, g6, g7, g8⟩ := c_give1 (N := N) (p := p) s6 s5 s7 (by omega) (by simp)
  have g7' := g7 (by simp) (by omega)
  obtain ⟨π3, σ3, v1, v2, v3, v4, v5, v6, v7, v8⟩ := c_give1 (N := N) (p := q) g3 g4 g5 g6 (by simp)
  have v7' := v7 (by simp) (by omega)
  obtain ⟨π4, σ4, u1, u2, u3, u4, u5, u6⟩ := c_addSt (N := N) (K := K) (a := 0) (b := 0) (c := 0) (d := 0) hS h hL ((s2.tr g2 (Int.le_refl _)).tr v2 (Int.le_refl _)) v3 (by simp) v4 v5 (by omega) (fun _ => by split <;> rfl) (fun _ => by split <;> rfl) (fun e => by omega) (fun e => by omega) (by omega)
  refine ⟨π4, σ4, ?_, u3, u4, u5, u6⟩
  intro kont
  rw [mk2i, s1, Option.bind_some, grd_t (ob_nO π 10 14), g1, Option.bind_some, grd_t s6.1]
  simp only
  rw [v1, Option.bind_some, grd_t g3.1, u1, Option.bind_some, grd_t u2]
end NW
