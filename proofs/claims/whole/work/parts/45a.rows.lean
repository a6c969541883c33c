/-! two worlds side by side -/
theorem tw_l {α : Type} (a b : List α) : (List.range a.length).map (fun i => (a ++ b)[i]?) = a.map some := by
  apply List.ext_getElem?
  intro i
  by_cases h : i < a.length
  · simp [h, List.getElem?_append_left]
  · simp [List.getElem?_eq_none (show a.length ≤ i by omega)]
    omega
theorem tw_r {α : Type} (a b : List α) : (List.range' a.length b.length).map (fun i => (a ++ b)[i]?) = b.map some := by
  apply List.ext_getElem?
  intro i
  by_cases h : i < b.length
  · simp [h, List.getElem?_append_right]
  · simp [List.getElem?_eq_none (show b.length ≤ i by omega)]
    omega
theorem tw_d {α : Type} (a b : List α) : ∀ i ∈ List.range' a.length b.length, i ∉ List.range a.length := fun i h k => by
  rw [List.mem_range'_1] at h
  rw [List.mem_range] at k
  omega
section TW
variable {p : Program} {l : Launch} {e : Env} {R : Room} {s : State} {m : MethodId} {args : Array Value} {below : List Frame} {meth : Method} {c : Code} {H : Heap} {locs : List Loc} {cells slots : Nat} {Q : State → Prop}
variable {cc : ByteArray} {pc : Nat} {ls : Array Slot} {rest st0 : List Value} {D : va_G} {TY : List (ClassId × FieldType)} {A : Nat → Prop} {H0 : Heap} {own C1 : String} {Ts Ts' : List Cond} {nL : Nat} {y : MethodName} {rm : Room} {b : Nat} {As : List Value} {wc wr : va_W} {X : State → Prop} {S : Type} {w1 : S → va_W} {mc ms index maxL n : Nat} {bytes : ByteArray} {ret : Option FieldType}
theorem t_callVi {post : Int32 → S → Prop} (C : Cx p s m args c cc own Ts D TY nL) (h : Hp D A H0 H locs (wc ++ wr)) (hM : Mi l y Ts' rm (.ref b :: As) D TY wc X S post w1 mc ms) (hX : XOk X s H) (hrc : ∃ cellB : Cell, H[b]? = some cellB ∧ cellB.vm.isStatics = false ∧ s.vm.findClass C1 = some cellB.cls) (cw : CallW R s args own C1 index y bytes maxL ret Ts' rm mc ms n) (hn : As.length = n) (hsz : ls.size = nL) (hst : st0 = As.reverse ++ .ref b :: rest) (hW : (rest.map fun v => v.category).sum ≤ 8) (hdg : decode cc pc = .ok (.invokevirtual index, 3)) (hf : cells + mc ≤ R.cells ∧ slots + ms ≤ R.slots)
    (kk : ∀ (r : Int32) (u : S) (H1 : Heap) (locs1 : List Loc), post r u → Hp D A H0 H1 locs1 (wr ++ w1 u) → W p l e R s m args below meth c H1 locs1 (cells + mc) (slots + ms) Q (F0 m (pc + 3) ls (.int r :: rest))) : W p l e R s m args below meth c H locs cells slots Q (F0 m pc ls st0) :=
  x_callVi C h hM (List.range wc.length) (List.range' wc.length wr.length) (tw_l _ _) (tw_r _ _) (nd_of List.nodup_range) (nd_of List.nodup_range') (tw_d _ _) hX hrc cw hn hsz hst hW hdg hf kk
theorem t_callVv {post : S → Prop} (C : Cx p s m args c cc own Ts D TY nL) (h : Hp D A H0 H locs (wc ++ wr)) (hM : Mv l y Ts' rm (.ref b :: As) D TY wc X S post w1 mc ms) (hX : XOk X s H) (hrc : ∃ cellB : Cell, H[b]? = some cellB ∧ cellB.vm.isStatics = false ∧ s.vm.findClass C1 = some cellB.cls) (cw : CallW R s args own C1 index y bytes maxL ret Ts' rm mc ms n) (hn : As.length = n) (hsz : ls.size = nL) (hst : st0 = As.reverse ++ .ref b :: rest) (hW : (rest.map fun v => v.category).sum ≤ 8) (hdg : decode cc pc = .ok (.invokevirtual index, 3)) (hf : cells + mc ≤ R.cells ∧ slots + ms ≤ R.slots)
    (kk : ∀ (u : S) (H1 : Heap) (locs1 : List Loc), post u → Hp D A H0 H1 locs1 (wr ++ w1 u) → W p l e R s m args below meth c H1 locs1 (cells + mc) (slots + ms) Q (F0 m (pc + 3) ls (rest))) : W p l e R s m args below meth c H locs cells slots Q (F0 m pc ls st0) :=
  x_callVv C h hM (List.range wc.length) (List.range' wc.length wr.length) (tw_l _ _) (tw_r _ _) (nd_of List.nodup_range) (nd_of List.nodup_range') (tw_d _ _) hX hrc cw hn hsz hst hW hdg hf kk
end TW
theorem tw_at {α : Type} {a b : List α} {i : Nat} {x : α} (h : a[i]? = some x) : (a ++ b)[i]? = some x := by
  rw [List.getElem?_append_left (List.getElem?_eq_some_iff.mp h).1]
  exact h
theorem i32_of (x : Int32) : i32 x.toInt := ⟨by have := Int32.le_toInt x; omega, by have := Int32.toInt_lt x; omega⟩
theorem of_ti (x : Int32) : x = Int32.ofInt x.toInt := (Int32.ofInt_toInt x).symm
theorem xsx {x y : Int32} (h : x = y) : x = Int32.ofInt y.toInt := by rw [h]; exact of_ti y
/-! what a relation of the two states must keep -/
def St_feed (N : Nat) (R R' : Sh → St → St → Prop) : Prop := ∀ (π : Sh) (σ τ : St) (x1 : Int) (x2 : Int) (x3 : Int) (x4 : Int) (x5 : Int), R π σ τ → i32 x1 → i32 x2 → i32 x3 → i32 x4 → i32 x5 → ∃ σ' τ' v, Cs_feed N π σ x1 x2 x3 x4 x5 = some (σ', v) ∧ r_feed N τ x1 x2 x3 x4 x5 = some (τ', v) ∧ R' π σ' τ'
def St_end (N : Nat) (R R' : Sh → St → St → Prop) : Prop := ∀ (π : Sh) (σ τ : St) (x1 : Int), R π σ τ → i32 x1 → ∃ σ' τ' v, Cs_end N π σ x1 = some (σ', v) ∧ r_end N τ x1 = some (τ', v) ∧ R' π σ' τ'
def St_read (N : Nat) (R R' : Sh → St → St → Prop) : Prop := ∀ (π : Sh) (σ τ : St) , R π σ τ → ∃ π' σ' τ' v, Cs_read N π σ = some (π', σ', v) ∧ r_read N τ = some (τ', v) ∧ R' π' σ' τ'
def St_hang (N : Nat) (R R' : Sh → St → St → Prop) : Prop := ∀ (π : Sh) (σ τ : St) (x1 : Int), R π σ τ → i32 x1 → ∃ π' σ' τ' v, Cs_hang N π σ x1 = some (π', σ', v) ∧ r_hang N τ x1 = some (τ', v) ∧ R' π' σ' τ'
def St_hush (N : Nat) (R R' : Sh → St → St → Prop) : Prop := ∀ (π : Sh) (σ τ : St) (x1 : Int), R π σ τ → i32 x1 → ∃ σ' τ' v, Cs_hush N π σ x1 = some (σ', v) ∧ r_hush N τ x1 = some (τ', v) ∧ R' π σ' τ'
def St_told (N : Nat) (R R' : Sh → St → St → Prop) : Prop := ∀ (π : Sh) (σ τ : St) (x1 : Int), R π σ τ → i32 x1 → ∃ σ' τ' v, Cs_told N π σ x1 = some (σ', v) ∧ r_told N τ x1 = some (τ', v) ∧ R' π σ' τ'
def St_bound (N : Nat) (R R' : Sh → St → St → Prop) : Prop := ∀ (π : Sh) (σ τ : St) (x1 : Int) (x2 : Int), R π σ τ → i32 x1 → i32 x2 → ∃ σ' τ' v, Cs_bound N π σ x1 x2 = some (σ', v) ∧ r_bound N τ x1 x2 = some (τ', v) ∧ R' π σ' τ'
def St_ask (N : Nat) (R R' : Sh → St → St → Prop) : Prop := ∀ (π : Sh) (σ τ : St) (x1 : Int) (x2 : Int), R π σ τ → i32 x1 → i32 x2 → ∃ σ' τ' v, Cs_ask N π σ x1 x2 = some (σ', v) ∧ r_ask N τ x1 x2 = some (τ', v) ∧ R' π σ' τ'
def St_event (N : Nat) (R R' : Sh → St → St → Prop) : Prop := ∀ (π : Sh) (σ τ : St) (x1 : Int) (x2 : Int), R π σ τ → i32 x1 → i32 x2 → ∃ σ' τ' v, Cs_event N π σ x1 x2 = some (σ', v) ∧ r_event N τ x1 x2 = some (τ', v) ∧ R' π σ' τ'
def St_letter (N : Nat) (R R' : Sh → St → St → Prop) : Prop := ∀ (π : Sh) (σ τ : St) (x1 : Int) (x2 : Int), R π σ τ → i32 x1 → i32 x2 → ∃ σ' τ' v, Cs_letter N π σ x1 x2 = some (σ', v) ∧ r_letter N τ x1 x2 = some (τ', v) ∧ R' π σ' τ'
def St_play (N : Nat) (R R' : Sh → St → St → Prop) : Prop := ∀ (π : Sh) (σ τ : St) (x1 : Int), R π σ τ → i32 x1 → ∃ σ' τ' v, Cs_play N π σ x1 = some (σ', v) ∧ r_play N τ x1 = some (τ', v) ∧ R' π σ' τ'
def St_heard (N : Nat) (R R' : Sh → St → St → Prop) : Prop := ∀ (π : Sh) (σ τ : St) (x1 : Int) (x2 : Int), R π σ τ → i32 x1 → i32 x2 → ∃ σ' τ' v, Cs_heard N π σ x1 x2 = some (σ', v) ∧ r_heard N τ x1 x2 = some (τ', v) ∧ R' π σ' τ'
def St_heardLetter (N : Nat) (R R' : Sh → St → St → Prop) : Prop := ∀ (π : Sh) (σ τ : St) (x1 : Int) (x2 : Int), R π σ τ → i32 x1 → i32 x2 → ∃ σ' τ' v, Cs_heardLetter N π σ x1 x2 = some (σ', v) ∧ r_heardLetter N τ x1 x2 = some (τ', v) ∧ R' π σ' τ'
def St_jump (N : Nat) (R R' : Sh → St → St → Prop) : Prop := ∀ (π : Sh) (σ τ : St) (x1 : Int), R π σ τ → i32 x1 → ∃ σ' τ' v, Cs_jump N π σ x1 = some (σ', v) ∧ r_jump N τ x1 = some (τ', v) ∧ R' π σ' τ'
def St_mute (N : Nat) (R R' : Sh → St → St → Prop) : Prop := ∀ (π : Sh) (σ τ : St) (x1 : Int) (x2 : Int), R π σ τ → i32 x1 → (x2 = 0 ∨ x2 = 1) → ∃ σ' τ' v, Cs_mute N π σ x1 x2 = some (σ', v) ∧ r_mute N τ x1 x2 = some (τ', v) ∧ R' π σ' τ'
def St_solo (N : Nat) (R R' : Sh → St → St → Prop) : Prop := ∀ (π : Sh) (σ τ : St) (x1 : Int) (x2 : Int), R π σ τ → i32 x1 → (x2 = 0 ∨ x2 = 1) → ∃ σ' τ' v, Cs_solo N π σ x1 x2 = some (σ', v) ∧ r_solo N τ x1 x2 = some (τ', v) ∧ R' π σ' τ'
def St_seed (N : Nat) (R R' : Sh → St → St → Prop) : Prop := ∀ (π : Sh) (σ τ : St) (x1 : Int), R π σ τ → i32 x1 → ∃ σ' τ', Cs_seed N π σ x1 = some σ' ∧ r_seed N τ x1 = some τ' ∧ R' π σ' τ'
def St_about (N : Nat) (R R' : Sh → St → St → Prop) : Prop := ∀ (π : Sh) (σ τ : St) (x1 : Int), R π σ τ → i32 x1 → ∃ σ' τ' v, Cs_about N π σ x1 = some (σ', v) ∧ r_about N τ x1 = some (τ', v) ∧ R' π σ' τ'
def Bd (R : Sh → St → St → Prop) : Prop := ∀ π σ τ, R π σ τ → Cl π σ ∧ nn π ≤ 590000 ∧ sw π ≤ 4852000
def Rls (N : Nat) (Rl : Nat → Sh → St → St → Prop) : Prop := (∀ n, n ≤ 512 → Bd (Rl n)) ∧ (∀ n π σ τ, n < 512 → Rl n π σ τ → Rl (n + 1) π σ τ) ∧ ∀ n, n < 512 → St_feed N (Rl n) (Rl (n + 1)) ∧ St_end N (Rl n) (Rl (n + 1)) ∧ St_read N (Rl n) (Rl (n + 1)) ∧ St_hang N (Rl n) (Rl (n + 1)) ∧ St_hush N (Rl n) (Rl (n + 1)) ∧ St_told N (Rl n) (Rl (n + 1)) ∧ St_bound N (Rl n) (Rl (n + 1)) ∧ St_ask N (Rl n) (Rl (n + 1)) ∧ St_event N (Rl n) (Rl (n + 1)) ∧ St_letter N (Rl n) (Rl (n + 1)) ∧ St_play N (Rl n) (Rl (n + 1)) ∧ St_heard N (Rl n) (Rl (n + 1)) ∧ St_heardLetter N (Rl n) (Rl (n + 1)) ∧ St_jump N (Rl n) (Rl (n + 1)) ∧ St_mute N (Rl n) (Rl (n + 1)) ∧ St_solo N (Rl n) (Rl (n + 1)) ∧ St_seed N (Rl n) (Rl (n + 1)) ∧ St_about N (Rl n) (Rl (n + 1))
