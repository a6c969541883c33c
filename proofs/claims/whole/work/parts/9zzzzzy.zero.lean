/-! the beginning, and the claim -/
def atB {α : Type} (q : Int → α → Bool) : Int → List α → Bool
  | _, [] => true
  | a, x :: l => q a x && atB q (a + 1) l
theorem atB_at {α : Type} {q : Int → α → Bool} {Q : Int → α → Prop} (h : ∀ i e, q i e = true → Q i e) : ∀ (l : List α) (a : Int), atB q a l = true → At Q a l
  | [], _, _ => trivial
  | x :: l, a, k => by
    unfold atB at k
    rw [Bool.and_eq_true] at k
    exact ⟨h _ _ k.1, atB_at h l (a + 1) k.2⟩
set_option maxRecDepth 100000 in
set_option maxHeartbeats 8000000 in
theorem fnc_0 : FNc σ0 := by
  unfold FNc
  exact atB_at (q := fun i (w : List Int) => decide (el σ0 45 i = n37 (w.map ncd).reverse)) (fun i e h => of_decide_eq_true h) _ _ (by decide +kernel)
set_option maxRecDepth 100000 in
set_option maxHeartbeats 8000000 in
theorem fnr_0 : FNr τ0 := by
  unfold FNr
  exact atB_at (q := fun i (b : Int) => decide (el τ0 96 i = b)) (fun i e h => of_decide_eq_true h) _ _ (by decide +kernel)
set_option maxRecDepth 100000 in
theorem wtr_0 : WTr τ0 := by
  have k : ∀ n : Nat, n < 21 → el τ0 95 (n : Int) = nuw (prg (n : Int) ++ [4]) := by decide +kernel
  intro f h0 h1
  have e : f = (f.toNat : Int) := by omega
  rw [e]
  exact k f.toNat (by omega)
set_option maxRecDepth 100000 in
theorem ro_start {N : Nat} : RO PRn (DRn N) RWd 0 π0 σ0 τ0 := by
  have k27 : ∀ n : Nat, n < 8 → el τ0 27 (n : Int) = -2 := by decide +kernel
  have k28 : ∀ n : Nat, n < 8 → el τ0 28 (n : Int) = -1 := by decide +kernel
  refine ro_0 cl_0 rfl (by decide) (fun f hf => ?_) ⟨rfl, rfl, rfl⟩ (fun f hf => ?_) rfl rfl ⟨rfl, rfl⟩ ⟨rfl, rfl⟩ ⟨rfl, rfl, rfl, rfl⟩ (fun t _ _ => ⟨rfl, rfl, rfl, rfl⟩) (fun t t0 t8 => ⟨?_, ?_, rfl, rfl⟩) ⟨fnc_0, fnr_0, wtr_0⟩
  · show (if (f = 118 ∨ f = 119 ∨ f = 120) ∧ (0 : Int) = 0 then (-1 : Int) else 0) = 0
    rw [if_neg (by omega)]
  · rcases hf with rfl | rfl | rfl <;> rfl
  · have e : t = (t.toNat : Int) := by omega
    rw [e]
    exact k28 t.toNat (by omega)
  · have e : t = (t.toNat : Int) := by omega
    rw [e]
    exact k27 t.toNat (by omega)
theorem i_vc : Claimed_1_1 ∧ Claimed_1_2 := whole_from (N := sbd 64 + 30300001) (rls_all (by unfold Big; omega) (by omega)) ro_start
