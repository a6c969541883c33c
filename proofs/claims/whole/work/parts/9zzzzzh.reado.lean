/-! the class's reading comes round -/
section AR9
variable {N : Nat} {b : Bse} {dl : List (Int × Int)}
theorem read_all (hN : 30000001 ≤ N) (hc : CTX b dl) (hW : WTr b.2.2.1) : ∀ (q : Nat) (op : Int), 0 ≤ op → op ≤ 20 → 20 - op < q → ARH N b dl 5 1 0 11 (Rd_argC N q) op ∧ FUH N b dl (Rd_funC N q) op := by
  intro q
  induction q with
  | zero => intro op h0 h1 h2; omega
  | succ q ih =>
    intro op h0 h1 h2
    have nx : op < 20 → ARH N b dl 5 1 0 11 (Rd_argC N q) (op + 1) ∧ FUH N b dl (Rd_funC N q) (op + 1) := fun h => ih (op + 1) (by omega) (by omega) (by omega)
    constructor
    · show ARH N b dl 5 1 0 11 (Rd_arg N (Rd_argC N q) (Rd_funC N q)) op
      exact arg_all hN hc (fun h => exp_of hN hc (sum_all hN hc (app_all hN hc hW (nx h).1 (nx h).2)))
    · show FUH N b dl (Rd_fun N (Rd_argC N q) (Rd_funC N q)) op
      exact fun_all hN hc hW (fun h => (nx h).1) (fun h => (nx h).2)
/-- an expression is read -/
theorem exp_all (hN : 30000001 ≤ N) (hc : CTX b dl) (hW : WTr b.2.2.1) : ARH N b dl 1 14 4 2 (Rd_exp N (Rd_argC N 24) (Rd_funC N 24)) 0 := by
  obtain ⟨h1, h2⟩ := read_all hN hc hW 24 0 (by decide) (by decide) (by decide)
  exact exp_of hN hc (sum_all hN hc (app_all hN hc hW h1 h2))
end AR9
