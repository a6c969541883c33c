/-! rows of the reference: events joined with what sounds there -/
/-- an event joined with what sounds -/
def endE (K a : Int) (x : Evt × Option Vl) : List Evt := match x.2 with
  | some s => if K = 24 ∧ louE s = false then [] else [(x.1.1, x.1.2.1, joiV K a x.1.2.2 s)]
  | none => if K = 25 then [x.1] else []
def endL (K a : Int) : List (Evt × Option Vl) → List Evt
  | [] => []
  | x :: l => endE K a x ++ endL K a l
theorem endL_ab (K a o : Int) (f : Int → Option Vl) : ∀ M : List Evt, endL K a (M.map (fun x => ((x.1 + o, x.1 + x.2.1 + o, x.2.2), f x.1))) = ab o (meeL K a f M)
  | [] => rfl
  | e :: l => by
    rw [List.map_cons, endL, endL_ab K a o f l, meeL, ab_app]
    congr 1
    unfold endE
    simp only
    cases f e.1 with
    | none => by_cases c : K = 25 <;> simp [c, ab]
    | some s =>
      by_cases c : K = 24 ∧ louE s = false
      · simp only [if_pos c]; rfl
      · simp only [if_neg c]; rfl
section RT
variable {N : Nat} {τ0 : St} {d : Nat} {k p c e : Int}
/-- the value of what sounds, taken whole -/
theorem r_take1 {τ : St} {i : Int} {s : Vl} (hi : inb i 30000) (hs : VO s) (h45 : el τ 45 i = s.1) (h44 : el τ 44 i = s.2.1) (h43 : el τ 43 i = s.2.2.1) (h46 : el τ 46 i = s.2.2.2) : ∃ τ', r_takes N τ i 1 = some τ' ∧ (∀ f j, fl τ' f j = fl τ f j) ∧ (∀ a j, a < 47 ∨ 50 < a ∨ j ≠ i → el τ' a j = el τ a j) ∧ el τ' 50 i = s.1 ∧ el τ' 49 i = s.2.1 ∧ el τ' 48 i = s.2.2.1 ∧ el τ' 47 i = s.2.2.2 := by
  have i11 : iand 1 1 = 1 := by decide
  have i21 : iand 2 1 = 0 := by decide
  have i31 : iand 3 1 = 1 := by decide
  have i12 : iand 1 2 = 0 := by decide
  have i22 : iand 2 2 = 2 := by decide
  have i32' : iand 3 2 = 2 := by decide
  refine ⟨se (se (se (se τ 50 i s.1) 49 i s.2.1) 48 i s.2.2.1) 47 i s.2.2.2, ?_, fun _ _ => rfl, fun a j hj => ?_, ?_⟩
  · rcases hs.has with ⟨u, v⟩ | ⟨u, v, w⟩ | u
    · simp [r_takes, r_takes_16, r_takes_43, r_takes_71, r_takes_72, r_takes_88, r_takes_115, r_takes_116, r_takes_147, grd_t hi, el_se, h46, h45, h44, h43, i11, i21, i31, i12, i22, i32', grd_t (show i32 0 by decide), grd_t (show i32 1 by decide), grd_t (show i32 2 by decide), u, v]
    · simp [r_takes, r_takes_16, r_takes_43, r_takes_71, r_takes_72, r_takes_88, r_takes_115, r_takes_116, r_takes_147, grd_t hi, el_se, h46, h45, h44, h43, i11, i21, i31, i12, i22, i32', grd_t (show i32 0 by decide), grd_t (show i32 1 by decide), grd_t (show i32 2 by decide), u, v, w]
    · simp [r_takes, r_takes_16, r_takes_43, r_takes_71, r_takes_72, r_takes_88, r_takes_115, r_takes_116, r_takes_147, grd_t hi, el_se, h46, h45, h44, h43, i11, i21, i31, i12, i22, i32', grd_t (show i32 0 by decide), grd_t (show i32 1 by decide), grd_t (show i32 2 by decide), u]
  · simp only [el_se]
    rw [if_neg (by omega), if_neg (by omega), if_neg (by omega), if_neg (by omega)]
  · simp only [el_se]
    exact ⟨rfl, rfl, rfl, rfl⟩
/-- what sounds, taken over what is there -/
theorem r_take0 {τ : St} {i : Int} {v s : Vl} (hi : inb i 30000) (hv : VO v) (hs : VO s) (h50 : el τ 50 i = v.1) (h49 : el τ 49 i = v.2.1) (h48 : el τ 48 i = v.2.2.1) (h47 : el τ 47 i = v.2.2.2) (h45 : el τ 45 i = s.1) (h44 : el τ 44 i = s.2.1) (h43 : el τ 43 i = s.2.2.1) (h46 : el τ 46 i = s.2.2.2) : ∃ τ', r_takes N τ i 0 = some τ' ∧ (∀ f j, fl τ' f j = fl τ f j) ∧ (∀ a j, a < 47 ∨ 50 < a ∨ j ≠ i → el τ' a j = el τ a j) ∧ (el τ' 50 i, el τ' 49 i, el τ' 48 i, el τ' 47 i) = joiV 25 35 v s := by
  have i11 : iand 1 1 = 1 := by decide
  have i21 : iand 2 1 = 0 := by decide
  have i31 : iand 3 1 = 1 := by decide
  have i12 : iand 1 2 = 0 := by decide
  have i22 : iand 2 2 = 2 := by decide
  have i32' : iand 3 2 = 2 := by decide
  have hv3 : v.2.2.2 = 1 ∨ v.2.2.2 = 2 ∨ v.2.2.2 = 3 := by
    rcases hv.has with ⟨u, -⟩ | ⟨u, -⟩ | u
    · exact Or.inl u
    · exact Or.inr (Or.inl u)
    · exact Or.inr (Or.inr u)
  have o1 : ior v.2.2.2 1 = if v.2.2.2 = 1 then v.2.2.2 else 3 := by rcases hv3 with u | u | u <;> rw [u] <;> decide
  have o2 : ior v.2.2.2 2 = if v.2.2.2 = 2 then v.2.2.2 else 3 := by rcases hv3 with u | u | u <;> rw [u] <;> decide
  have o3 : ior v.2.2.2 3 = if v.2.2.2 = 3 then v.2.2.2 else 3 := by rcases hv3 with u | u | u <;> rw [u] <;> decide
  have jo : joiV 25 35 v s = (if s.2.2.2 = 2 then v.1 else s.1, if s.2.2.2 = 2 then v.2.1 else s.2.1, if s.2.2.2 = 1 then v.2.2.1 else s.2.2.1, if v.2.2.2 = s.2.2.2 then v.2.2.2 else 3) := rfl
  rw [jo]
  rcases hs.has with ⟨u, w⟩ | ⟨u, w⟩ | u
  · refine ⟨se (se (se τ 50 i s.1) 49 i s.2.1) 47 i (ior v.2.2.2 1), ?_, fun _ _ => rfl, fun a j hj => ?_, ?_⟩
    · simp [r_takes, r_takes_16, r_takes_43, r_takes_71, r_takes_72, r_takes_88, r_takes_115, r_takes_116, r_takes_147, grd_t hi, el_se, h46, h45, h44, h43, i11, i21, i31, i12, i22, i32', grd_t (show i32 0 by decide), grd_t (show i32 1 by decide), grd_t (show i32 2 by decide), u, h47]
    · simp only [el_se]
      rw [if_neg (by omega), if_neg (by omega), if_neg (by omega)]
    · simp only [el_se]
      rw [u, o1, if_neg (by decide), if_neg (by decide), if_pos rfl]
      simp
      exact h48
  · refine ⟨se (se τ 48 i s.2.2.1) 47 i (ior v.2.2.2 2), ?_, fun _ _ => rfl, fun a j hj => ?_, ?_⟩
    · simp [r_takes, r_takes_16, r_takes_43, r_takes_71, r_takes_72, r_takes_88, r_takes_115, r_takes_116, r_takes_147, grd_t hi, el_se, h46, h45, h44, h43, i11, i21, i31, i12, i22, i32', grd_t (show i32 0 by decide), grd_t (show i32 1 by decide), grd_t (show i32 2 by decide), u, h47]
    · simp only [el_se]
      rw [if_neg (by omega), if_neg (by omega)]
    · simp only [el_se]
      rw [u, o2]
      simp
      exact ⟨h50, h49⟩
  · refine ⟨se (se (se (se τ 50 i s.1) 49 i s.2.1) 48 i s.2.2.1) 47 i (ior v.2.2.2 3), ?_, fun _ _ => rfl, fun a j hj => ?_, ?_⟩
    · simp [r_takes, r_takes_16, r_takes_43, r_takes_71, r_takes_72, r_takes_88, r_takes_115, r_takes_116, r_takes_147, grd_t hi, el_se, h46, h45, h44, h43, i11, i21, i31, i12, i22, i32', grd_t (show i32 0 by decide), grd_t (show i32 1 by decide), grd_t (show i32 2 by decide), u, h47]
    · simp only [el_se]
      rw [if_neg (by omega), if_neg (by omega), if_neg (by omega), if_neg (by omega)]
    · simp only [el_se]
      rw [u, o3]
      simp
end RT
