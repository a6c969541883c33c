/-! the parts of a row: what making makes of them -/
/-- a part of a row: its node, the node that is made, its operand, weight and repeat, its steps, its nodes from .. to, heights and tasks -/
abbrev Kdr : Type := Int × Int × Int × (Int × Int) × List Stq × (Int × Int) × (Int × Int) × Nat
def qC (x : Kdr) : Int := x.1
def qM (x : Kdr) : Int := x.2.1
def qO (x : Kdr) : Int := x.2.2.1
def qW (x : Kdr) : Int × Int := x.2.2.2.1
def qS (x : Kdr) : List Stq := x.2.2.2.2.1
def qL (x : Kdr) : Int := x.2.2.2.2.2.1.1
def qH (x : Kdr) : Int := x.2.2.2.2.2.1.2
def qU (x : Kdr) : Int := x.2.2.2.2.2.2.1.1
def qV (x : Kdr) : Int := x.2.2.2.2.2.2.1.2
def qK (x : Kdr) : Nat := x.2.2.2.2.2.2.2
def KD1 (N : Nat) (τ : St) (lo hi P j : Int) (x : Kdr) : Prop := ND lo hi (qC x) ∧ (0 ≤ el τ 94 (qC x) ∧ el τ 94 (qC x) < 100) ∧ qM x = (if el τ 94 (qC x) = 24 then el τ 87 (qC x) else qC x) ∧ qW x = wtn τ (qC x) ∧ (lo ≤ qL x ∧ qH x ≤ hi) ∧ (qL x ≤ qM x ∧ qM x < qH x) ∧ (qC x = qM x ∨ ¬ (qL x ≤ qC x ∧ qC x < qH x)) ∧ TXq N τ (qL x) (qH x) P j (qS x) (qM x) (qO x) (qU x) (qV x) (qK x)
def KDs (N : Nat) (τ : St) (lo hi P : Int) : Int → List Kdr → Prop
  | _, [] => True
  | j, x :: xs => KD1 N τ lo hi P j x ∧ KDs N τ lo hi P (j + (qS x).length) xs
def sgs : List Kdr → List Stq
  | [] => []
  | x :: xs => qS x ++ sgs xs
def kss : List Kdr → Nat
  | [] => 0
  | x :: xs => qK x + 1 + kss xs
def KDb (u : Int) : Int → List Kdr → Prop
  | _, [] => True
  | v, x :: xs => (qU x + 1 ≤ u ∧ qV x ≤ v) ∧ KDb u (v - 1) xs
def opz (l : List Kdr) : List Kid := l.map (fun x => (qO x, qW x))
theorem sgs_app : ∀ (a b : List Kdr), sgs (a ++ b) = sgs a ++ sgs b
  | [], _ => rfl
  | x :: xs, b => by show qS x ++ sgs (xs ++ b) = (qS x ++ sgs xs) ++ sgs b; rw [sgs_app xs b, List.append_assoc]
theorem kss_app : ∀ (a b : List Kdr), kss (a ++ b) = kss a + kss b
  | [], b => by show kss b = 0 + kss b; omega
  | x :: xs, b => by show qK x + 1 + kss (xs ++ b) = qK x + 1 + kss xs + kss b; rw [kss_app xs b]; omega
theorem KDb.app {u : Int} : ∀ {a : List Kdr} {v : Int} {x : Kdr}, KDb u v a → qU x + 1 ≤ u → qV x + a.length ≤ v → KDb u v (a ++ [x])
  | [], v, x, _, h1, h2 => ⟨⟨h1, by simp at h2; exact h2⟩, trivial⟩
  | y :: ys, v, x, h, h1, h2 => ⟨h.1, KDb.app h.2 h1 (by simp at h2; omega)⟩
theorem KDb.mono {u u' : Int} (hu : u ≤ u') : ∀ {a : List Kdr} {v v' : Int}, v ≤ v' → KDb u v a → KDb u' v' a
  | [], _, _, _, _ => trivial
  | _ :: _, v, v', hv, h => ⟨⟨by have := h.1.1; omega, by have := h.1.2; omega⟩, KDb.mono hu (by omega) h.2⟩
theorem KDs.app {N : Nat} {τ : St} {lo hi P : Int} : ∀ {a : List Kdr} {j : Int} {x : Kdr}, KDs N τ lo hi P j a → KD1 N τ lo hi P (j + (sgs a).length) x → KDs N τ lo hi P j (a ++ [x])
  | [], j, x, _, h => ⟨by simp [sgs] at h; exact h, trivial⟩
  | y :: ys, j, x, h, k => ⟨h.1, KDs.app h.2 (by
      have e : j + ((qS y).length : Int) + ((sgs ys).length : Int) = j + ((sgs (y :: ys)).length : Int) := by show _ = j + ((qS y ++ sgs ys).length : Int); rw [List.length_append]; omega
      rw [e]; exact k)⟩
/-- tables that are the same but for next of such nodes -/
theorem KD1.cg {N : Nat} {τ τ' : St} {lo hi lo' hi' P j : Int} {x : Kdr} (h : KD1 N τ lo hi P j x) (ht : ∀ a i : Int, 85 ≤ a → a ≤ 94 → lo ≤ i → i < hi → ¬ (a = 85 ∧ i = qC x) → ¬ (a = 85 ∧ ¬ (qL x ≤ i ∧ i < qH x)) → el τ' a i = el τ a i) (hl : 0 ≤ lo' ∧ lo' ≤ lo ∧ hi ≤ hi' ∧ hi' ≤ 32768) : KD1 N τ' lo' hi' P j x := by
  obtain ⟨h1, h2, h3, h4, h5, h6, h7, h8⟩ := h
  obtain ⟨n1, n2, n3⟩ := id h1
  have e94 := ht 94 (qC x) (by omega) (by omega) n2 n3 (by omega) (by omega)
  have e87 := ht 87 (qC x) (by omega) (by omega) n2 n3 (by omega) (by omega)
  have e92 := ht 92 (qC x) (by omega) (by omega) n2 n3 (by omega) (by omega)
  have e91 := ht 91 (qC x) (by omega) (by omega) n2 n3 (by omega) (by omega)
  refine ⟨⟨n1, by omega, by omega⟩, by rw [e94]; exact h2, by rw [e94, e87]; exact h3, by rw [h4]; unfold wtn; rw [e94, e92, e91], ⟨by omega, by omega⟩, h6, h7, h8.cg (fun a i x1 x2 x3 x4 x5 => ht a i x1 x2 (by omega) (by omega) ?_ (by omega)) ⟨Int.le_refl _, Int.le_refl _⟩ ⟨Int.le_refl _, Int.le_refl _, Nat.le_refl _⟩⟩
  rintro ⟨rfl, rfl⟩
  rcases h7 with q | q
  · exact x5 ⟨rfl, q⟩
  · exact q ⟨x3, x4⟩
theorem KDs.cg {N : Nat} {τ τ' : St} {lo hi lo' hi' P : Int} (hl : 0 ≤ lo' ∧ lo' ≤ lo ∧ hi ≤ hi' ∧ hi' ≤ 32768) : ∀ {l : List Kdr} {j : Int}, (∀ x ∈ l, ∀ a i : Int, 85 ≤ a → a ≤ 94 → lo ≤ i → i < hi → ¬ (a = 85 ∧ i = qC x) → ¬ (a = 85 ∧ ¬ (qL x ≤ i ∧ i < qH x)) → el τ' a i = el τ a i) → KDs N τ lo hi P j l → KDs N τ' lo' hi' P j l
  | [], _, _, _ => trivial
  | x :: xs, j, ht, h => ⟨h.1.cg (ht x (List.mem_cons_self ..)) hl, KDs.cg hl (fun y hy => ht y (List.mem_cons_of_mem _ hy)) h.2⟩
theorem CHn.mono {τ : St} {lo lo' hi hi' : Int} (h1 : lo' ≤ lo) (h2 : hi ≤ hi') : ∀ {cs : List Int} {c : Int}, CHn τ lo hi cs c → CHn τ lo' hi' cs c
  | [], _, h => h
  | _ :: _, _, ⟨⟨a, ⟨b1, b2, b3⟩, d⟩, e⟩ => ⟨⟨a, ⟨b1, by omega, by omega⟩, d⟩, CHn.mono h1 h2 e⟩
theorem KDs.n99 {N : Nat} {τ : St} {lo hi P : Int} : ∀ {l : List Kdr} {j : Int}, KDs N τ lo hi P j l → ∀ x ∈ sgs l, x.1 ≠ 99
  | [], _, _, x, hx => absurd hx (by simp [sgs])
  | y :: ys, j, h, x, hx => by
    rcases List.mem_append.1 (show x ∈ qS y ++ sgs ys from hx) with q | q
    · exact h.1.2.2.2.2.2.2.2.1 x q
    · exact KDs.n99 h.2 x q
section KF
variable {N : Nat}
/-- all the parts, one after another -/
theorem kids_all {U : Gl → Int → Stq → Prop} {ℓ vlo lo hi P u : Int} {τ : St} {Kn : List Int} (hN : 30000001 ≤ N) (hP : P ≤ 4) (hu : 2 ≤ u) : ∀ {l : List Kdr} {j v c : Int} {k : Nat}, KDs N τ lo hi P j l → CHn τ lo hi (l.map qC) c → KDb u v l → kss l + 1 ≤ k → TKS N U ℓ τ vlo lo hi P Kn j (sgs l) u v k l.length 0 [(4, c)] [] (l.map qO) [] []
  | [], j, v, c, k, _, hc, _, hk => by
    have e : c = -1 := hc
    rw [e]
    exact kids_nil hN (by omega) (by simp [kss] at hk; omega)
  | x :: xs, j, v, c, k, h, hc, hb, hk => by
    obtain ⟨⟨h1, h2, h3, h4, h5, h6, h7, h8⟩, hs⟩ := h
    obtain ⟨⟨c1, c2, c3⟩, c4⟩ := hc
    obtain ⟨⟨b1, b2⟩, b3⟩ := hb
    have hk' : qK x + 1 + kss xs + 1 ≤ k := hk
    have ih := kids_all (U := U) (ℓ := ℓ) (vlo := vlo) (Kn := Kn) hN hP hu (k := kss xs + 1) hs c4 b3 (Nat.le_refl _)
    have ch : c = qC x := c1
    rw [ch]
    exact kids_cons hN hP h1 ⟨by omega, by omega⟩ h3 rfl (h8.use U ℓ vlo Kn) ih h5 ⟨Int.le_refl _, Int.le_refl _⟩ ⟨b1, Int.le_refl _, hu⟩ ⟨b2, by omega⟩ (by omega) (by simp; omega) ⟨Int.le_refl _, by omega⟩
theorem opz_1 (l : List Kdr) : (opz l).map (fun k => k.1) = l.map qO := by unfold opz; rw [List.map_map]; rfl
theorem opz_2 {τ : St} {lo hi P : Int} : ∀ {l : List Kdr} {j : Int}, KDs N τ lo hi P j l → (opz l).map (fun k => k.2) = (l.map qC).map (wtn τ)
  | [], _, _ => rfl
  | x :: xs, j, h => by
    show qW x :: (opz xs).map (fun k => k.2) = wtn τ (qC x) :: (xs.map qC).map (wtn τ)
    rw [opz_2 h.2, h.1.2.2.2.1]
theorem opz_len (l : List Kdr) : (opz l).length = l.length := by unfold opz; rw [List.length_map]
/-- a whole row -/
theorem tx_row {τ : St} {lo hi P j n K place a u v : Int} {l : List Kdr} {k : Nat} (hN : 30000001 ≤ N) (hP : P ≤ 4) (hn : 0 ≤ lo ∧ lo ≤ n ∧ n < hi ∧ hi ≤ 32768) (hk : RKd (el τ 94 n) K 0) (h93 : el τ 93 n = place) (h92 : el τ 92 n = a) (hs : KDs N τ (n + 1) hi P j l) (hch : CHn τ (n + 1) hi (l.map qC) (el τ 87 n)) (hb : KDb (u - 1) v l) (hv : IV K a 0 0 0 (opz l)) (hw : ∀ o ∈ opz l, (1 ≤ o.2.1 ∧ o.2.1 ≤ 16) ∧ 1 ≤ o.2.2 ∧ o.2.2 ≤ 16) (hl : l.length ≤ 2000) (hu : 3 ≤ u) (hv' : (l.length : Int) ≤ v ∧ 1 ≤ v) (hk' : kss l + 3 ≤ k) : TXq N τ lo hi P j (sgs l ++ [(K, place, a, 0, 0, 0, 0, opz l)]) n (P + (j + (sgs l).length)) u v k := And.intro (fun x hx => by
  rcases List.mem_append.1 hx with q | q
  · exact hs.n99 x q
  · have e : x = (K, place, a, 0, 0, 0, 0, opz l) := by simpa using q
    rw [e]; show K ≠ 99; unfold RKd at hk; omega) fun U ℓ vlo Kn y => by
  have e : ∀ x i, ¬ (x = 85 ∧ i = n) → el (se τ 85 n y) x i = el τ x i := fun x i hx => by rw [el_se, if_neg hx]
  have ks : KDs N (se τ 85 n y) (n + 1) hi P j l := hs.cg ⟨by omega, Int.le_refl _, Int.le_refl _, hn.2.2.2⟩ (fun x _ a i _ _ x3 _ _ _ => e a i (by omega))
  have kc : CHn (se τ 85 n y) (n + 1) hi (l.map qC) (el τ 87 n) := hch.cg (fun a i _ _ x3 _ => e a i (by omega))
  have t1 := kids_all (N := N) (U := U) (ℓ := ℓ) (vlo := vlo) (Kn := Kn) (u := u - 1) hN hP (by omega) (k := kss l + 1) ks kc hb (Nat.le_refl _)
  have nd : ND lo hi n := ⟨⟨by omega, by omega⟩, hn.2.1, hn.2.2.1⟩
  have len := opz_len l
  have kc' : CHn (se τ 85 n y) lo hi (l.map qC) (el (se τ 85 n y) 87 n) := by
    rw [e 87 n (by omega)]
    exact CHn.mono (by omega) (Int.le_refl _) kc
  have t2 := tk_row (N := N) (U := U) (ℓ := ℓ) (vlo := vlo) (Kn := Kn) (P := P) (j := j + (sgs l).length) (avq := []) (u := 1) (v := v) (k := 1) (e := 2 - l.length) (δ := l.length) (cs := l.map qC) (ops := opz l) (n := n) (K := K) (place := place) (a := a) (cnt := 0) (τp := se τ 85 n y) (lo := lo) (hi := hi) hN nd (by rw [e 94 n (by omega)]; exact hk) kc' (by rw [e 93 n (by omega)]; exact h93) (by rw [e 92 n (by omega)]; exact h92) (opz_2 ks) hv hw (by omega) (fun h => absurd h (by decide)) (by omega) (by omega) (by omega) (by rw [len]; unfold bsd; rw [if_pos rfl]; omega) (by rw [len]; unfold bsd; rw [if_pos rfl]; omega)
  rw [opz_1] at t2
  refine mk_row hN hP nd (by rw [e 94 n (by omega)]; unfold RKd at hk; omega) rfl (by rw [e 87 n (by omega)]; exact t1) t2 ⟨by omega, Int.le_refl _⟩ ⟨Int.le_refl _, Int.le_refl _⟩ ⟨by omega, by omega, by omega⟩ ⟨Int.le_refl _, Int.le_refl _⟩ (by omega) (by omega) ⟨Int.le_refl _, by omega⟩
end KF
