/-! the base: one context, one heap predicate, a row an instruction over them -/
def Cx (p : Program) (s : State) (m : MethodId) (args : Array Value) (c : Code) (cc : ByteArray) (own : String) (Ts : List Cond) (D : va_G) (TY : List (ClassId × FieldType)) (nL : Nat) : Prop :=
  p.tables.exec = Jvm.exec ∧ c.code = cc ∧ (∀ w ∈ Ts, w.before args s = true) ∧ s.vm.findClass own = some m.cls ∧ va_K D vwCl TY s ∧ c.maxLocals = nL
def Hp (D : va_G) (A : Nat → Prop) (H0 H : Heap) (locs : List Loc) (ws : va_W) : Prop := va_P D vwCl ws H ∧ va_D A ws ∧ va_S A H0 H locs ∧ ∀ q, H0.size ≤ q → A q
theorem k_same {D : va_G} {cl : List vw_C} {tys : List (ClassId × FieldType)} {s : State} (hK : va_K D cl tys s) {i j : Nat} {cA cB : ClassId} {ty : FieldType} (hi : tys[i]? = some (cA, ty)) (hj : tys[j]? = some (cB, ty)) : cA = cB := by
  have a := (hK.2 i _ hi).2
  have b := (hK.2 j _ hj).2
  cases ty with
  | object C =>
    obtain ⟨-, -, -, -, -, a⟩ := a
    obtain ⟨-, -, -, -, -, b⟩ := b
    exact Option.some.inj (a.symm.trans b)
  | _ =>
    first
      | exact Option.some.inj ((show s.vm.findClass _ = some cA from a).symm.trans (show s.vm.findClass _ = some cB from b))
theorem k_back {D : va_G} {cl : List vw_C} {tys : List (ClassId × FieldType)} {s : State} {cA : ClassId} {ty : FieldType} (hK : va_K D cl (tys ++ [(cA, ty)]) s) : va_K D cl tys s := by
  refine ⟨hK.1, fun k q h => hK.2 k q ?_⟩
  rw [List.getElem?_append_left (List.getElem?_eq_some_iff.mp h).1]
  exact h
theorem k_new {D : va_G} {cl : List vw_C} {tys : List (ClassId × FieldType)} {s : State} {cA cT : ClassId} {ty : FieldType} (hK : va_K D cl (tys ++ [(cA, ty)]) s) {i : Nat} (hi : tys[i]? = some (cT, ty)) : cA = cT := by
  refine k_same (ty := ty) hK (i := tys.length) (j := i) (by simp) ?_
  rw [List.getElem?_append_left (List.getElem?_eq_some_iff.mp hi).1]
  exact hi
section XB
variable {p : Program} {l : Launch} {e : Env} {R : Room} {s : State} {m : MethodId} {args : Array Value} {below : List Frame} {meth : Method} {c : Code} {H : Heap} {locs : List Loc} {cells slots : Nat} {Q : State → Prop}
variable {cc : ByteArray} {pc : Nat} {ls : Array Slot} {rest : List Value} {D : va_G} {A : Nat → Prop} {TY : List (ClassId × FieldType)} {ws : va_W} {H0 : Heap} {own : String} {Ts : List Cond} {nL : Nat}
theorem x_get (C : Cx p s m args c cc own Ts D TY nL) (h : Hp D A H0 H locs ws) (q0 k : Nat) {a ci : Nat} {fs : List Value} {v : Value} {C1 : String} {T : u_T} {N index : Nat} (hdg : decode cc pc = .ok (.getfield index, 3)) (he : ws[q0]? = some (a, .inr (ci, fs))) (hv : fs[k]? = some v) (hc : vwCl[ci]? = some (C1, T, N)) (hin : ∀ w ∈ u_ws C1 T N, w ∈ Ts) (hk : k < N) (hlink : Cond.fieldLink own index (T k).1 (T k).2.1 (T k).2.2.1 ∈ Ts)
    (kk : W p l e R s m args below meth c H locs cells slots Q (F0 m (pc + 3) ls (v :: rest))) : W p l e R s m args below meth c H locs cells slots Q (F0 m pc ls (.ref a :: rest)) :=
  va_get C.1 C.2.1 C.2.2.1 hin C.2.2.2.1 C.2.2.2.2.1 h.1 q0 he hc k hk (C.2.2.1 _ hlink) (fun _ x => x) hv hdg kk
theorem x_put (C : Cx p s m args c cc own Ts D TY nL) (h : Hp D A H0 H locs ws) (q0 k : Nat) {a ci : Nat} {fs : List Value} {v : Value} {C1 : String} {T : u_T} {N index : Nat} {ty0 : Nat → FieldType} (hdg : decode cc pc = .ok (.putfield index, 3)) (he : ws[q0]? = some (a, .inr (ci, fs))) (hc : vwCl[ci]? = some (C1, T, N)) (hin : ∀ w ∈ u_ws C1 T N, w ∈ Ts) (hk : k < N) (hlink : Cond.fieldLink own index (T k).1 (T k).2.1 (T k).2.2.1 ∈ Ts) (hty : ∀ k, k < N → parseFieldDescriptor (T k).2.2.1 = some (ty0 k)) (hnm : ∀ a, a < N → ∀ b, b < N → a ≠ b → (T a).2.1 ≠ (T b).2.1) (hl : k < fs.length) (hfin : (T k).2.2.2 = false) (hn : narrow (ty0 k) v = v) (hfit : fits (ty0 k) v = true)
    (kk : ∀ (H1 : Heap) (locs1 : List Loc), Hp D A H0 H1 locs1 (ws.set q0 (a, .inr (ci, fs.set k v))) → W p l e R s m args below meth c H1 locs1 cells slots Q (F0 m (pc + 3) ls rest)) : W p l e R s m args below meth c H locs cells slots Q (F0 m pc ls (v :: .ref a :: rest)) :=
  va_put C.1 C.2.1 C.2.2.1 hin ty0 hty hnm C.2.2.2.1 C.2.2.2.2.1 h.1 h.2.1 h.2.2.1 q0 he hc k hk (C.2.2.1 _ hlink) (fun _ x => x) hfin (hty k hk) hn hfit hl hdg (fun H1 locs1 a1 a2 a3 => kk H1 locs1 ⟨a1, a2, a3, h.2.2.2⟩)
theorem x_putF (C : Cx p s m args c cc own Ts D TY nL) (hmn : meth.name = "<init>") (h : Hp D A H0 H locs ws) (q0 k : Nat) {a ci : Nat} {fs : List Value} {v : Value} {C1 : String} {T : u_T} {N index : Nat} {ty0 : Nat → FieldType} (hdg : decode cc pc = .ok (.putfield index, 3)) (he : ws[q0]? = some (a, .inr (ci, fs))) (hc : vwCl[ci]? = some (C1, T, N)) (hin : ∀ w ∈ u_ws C1 T N, w ∈ Ts) (hk : k < N) (hlink : Cond.fieldLink own index (T k).1 (T k).2.1 (T k).2.2.1 ∈ Ts) (hty : ∀ k, k < N → parseFieldDescriptor (T k).2.2.1 = some (ty0 k)) (hnm : ∀ a, a < N → ∀ b, b < N → a ≠ b → (T a).2.1 ≠ (T b).2.1) (hl : k < fs.length) (hfin : (T k).2.2.2 = true) (hdecl : (T k).1 = own) (hn : narrow (ty0 k) v = v) (hfit : fits (ty0 k) v = true)
    (kk : ∀ (H1 : Heap) (locs1 : List Loc), Hp D A H0 H1 locs1 (ws.set q0 (a, .inr (ci, fs.set k v))) → W p l e R s m args below meth c H1 locs1 cells slots Q (F0 m (pc + 3) ls rest)) : W p l e R s m args below meth c H locs cells slots Q (F0 m pc ls (v :: .ref a :: rest)) :=
  va_putF C.1 C.2.1 C.2.2.1 hin ty0 hty hnm C.2.2.2.1 C.2.2.2.2.1 h.1 h.2.1 h.2.2.1 q0 he hc k hk (C.2.2.1 _ hlink) (fun _ x => x) hfin hmn hdecl (hty k hk) hn hfit hl hdg (fun H1 locs1 a1 a2 a3 => kk H1 locs1 ⟨a1, a2, a3, h.2.2.2⟩)
theorem x_objInit (C : Cx p s m args c cc own Ts D TY nL) {a idx : Nat} (hsz : ls.size = nL) (hdg : decode cc pc = .ok (.invokespecial idx, 3)) (hlink : Cond.methodLink own idx objectInit ∈ Ts) (hi : Cond.instanceMethod objectInit ∈ Ts) (hcd : Cond.code objectInit ⟨#[0xb1]⟩ 1 none ∈ Ts) (hf : 1 ≤ R.frames) (hr : (rest.map fun v => v.category).sum + 12 ≤ R.locals)
    (kk : W p l e R s m args below meth c H locs cells slots Q (F0 m (pc + 3) ls rest)) : W p l e R s m args below meth c H locs cells slots Q (F0 m pc ls (.ref a :: rest)) :=
  W.objInit C.1 C.2.1 C.2.2.2.1 (C.2.2.1 _ hlink) (C.2.2.1 _ hi) (C.2.2.1 _ hcd) rfl (by rw [C.2.2.2.2.2]; exact hsz) rfl hdg hf (by simpa [JFrame.monitorRoom] using hr) kk
theorem x_newa (C : Cx p s m args c cc own Ts D TY nL) (h : Hp D A H0 H locs ws) (t0 : Nat) {cT : ClassId} {ty : FieldType} {atype : ArrayType} {n : Int32} {N' : Nat} {a0 : vp_A} (hdg : decode cc pc = .ok (.newarray atype, 2)) (hty : newarray.typeOf atype = ty) (ht : TY[t0]? = some (cT, ty)) (harr : Cond.arrayClass ty ∈ Ts) (ha : ∀ cA : ClassId, vp_cell cA a0 = arrV cA N' (fun _ => defaultValue ty)) (hn : ¬ n < 0) (hN : n.toNatClampNeg = N') (hbytes : N' * componentBytes ty ≤ 536870912) (hcells : cells + 1 ≤ R.cells) (hslots : slots + N' ≤ R.slots)
    (kk : ∀ (q : Nat) (H1 : Heap), Hp D A H0 H1 locs (ws ++ [(q, .inl (cT, a0))]) → W p l e R s m args below meth c H1 locs (cells + 1) (slots + N') Q (F0 m (pc + 2) ls (.ref q :: rest))) : W p l e R s m args below meth c H locs cells slots Q (F0 m pc ls (.int n :: rest)) := by
  refine va_newa C.1 C.2.1 (by rw [hty]; exact C.2.2.1 _ harr) hty C.2.2.2.2.1 h.1 h.2.1 h.2.2.1 h.2.2.2 ha hn hN hbytes hcells hslots hdg (fun q cA H1 b0 b1 b2 b3 => ?_)
  have hq := k_new b0 ht
  subst hq
  exact kk q H1 ⟨b1, b2, b3, h.2.2.2⟩
theorem x_newq (C : Cx p s m args c cc own Ts D TY nL) (h : Hp D A H0 H locs ws) (t0 : Nat) {cT : ClassId} {C1 : String} {index : Nat} {n : Int32} {N' : Nat} (hdg : decode cc pc = .ok (.anewarray index, 3)) (hcl : Cond.classLink own index C1 ∈ Ts) (hov : va_AO C1 s) (ht : TY[t0]? = some (cT, .object C1)) (hn : ¬ n < 0) (hN : n.toNatClampNeg = N') (hbytes : N' * 4 ≤ 536870912) (hcells : cells + 1 ≤ R.cells) (hslots : slots + N' ≤ R.slots)
    (kk : ∀ (q : Nat) (H1 : Heap), Hp D A H0 H1 locs (ws ++ [(q, .inl (cT, N', .inr (.inr (.inr (.inr (fun _ => none))))))]) → W p l e R s m args below meth c H1 locs (cells + 1) (slots + N') Q (F0 m (pc + 3) ls (.ref q :: rest))) : W p l e R s m args below meth c H locs cells slots Q (F0 m pc ls (.int n :: rest)) := by
  refine va_newq C.1 C.2.1 C.2.2.2.1 (C.2.2.1 _ hcl) hov C.2.2.2.2.1 h.1 h.2.1 h.2.2.1 h.2.2.2 hn hN hbytes hcells hslots hdg (fun q cA H1 b0 b1 b2 b3 => ?_)
  have hq := k_new b0 ht
  subst hq
  exact kk q H1 ⟨b1, b2, b3, h.2.2.2⟩
theorem x_new (C : Cx p s m args c cc own Ts D TY nL) (h : Hp D A H0 H locs ws) (ci : Nat) {fs : List Value} {C1 : String} {T : u_T} {N index : Nat} {ty0 : Nat → FieldType} (hdg : decode cc pc = .ok (.new index, 3)) (hc : vwCl[ci]? = some (C1, T, N)) (hin : ∀ w ∈ u_ws C1 T N, w ∈ Ts) (hty : ∀ k, k < N → parseFieldDescriptor (T k).2.2.1 = some (ty0 k)) (hcl : Cond.classLink own index C1 ∈ Ts) (hins : Cond.instantiable C1 N ∈ Ts) (hini : Cond.initialized C1 ∈ Ts) (hfs : ∀ j, j < N → defaultValue (ty0 j) = vp_V fs j) (hcells : cells + 1 ≤ R.cells) (hslots : slots + N ≤ R.slots)
    (kk : ∀ (q : Nat) (H1 : Heap), Hp D A H0 H1 locs (ws ++ [(q, .inr (ci, fs))]) → W p l e R s m args below meth c H1 locs (cells + 1) (slots + N) Q (F0 m (pc + 3) ls (.ref q :: rest))) : W p l e R s m args below meth c H locs cells slots Q (F0 m pc ls rest) :=
  va_new C.1 C.2.1 C.2.2.1 hin ty0 hty C.2.2.2.1 (C.2.2.1 _ hcl) (C.2.2.1 _ hins) (C.2.2.1 _ hini) C.2.2.2.2.1 h.1 h.2.1 h.2.2.1 h.2.2.2 hc hfs hcells hslots hdg (fun q H1 a1 a2 a3 => kk q H1 ⟨a1, a2, a3, h.2.2.2⟩)
end XB
/-- a contract's start and end over the world w0 -/
abbrev PreW (D : va_G) (TY : List (ClassId × FieldType)) (w0 : va_W) (sz : Nat) (U : State) : Prop := U.heap.size = sz ∧ va_P D vwCl w0 U.heap ∧ va_K D vwCl TY U ∧ va_D (fun _ => True) w0
abbrev PostW (D : va_G) (TY : List (ClassId × FieldType)) (A : Nat → Prop) (w : va_W) (t : State) : Prop := va_P D vwCl w t.heap ∧ va_K D vwCl TY t ∧ va_D A w
abbrev Mv (l : Launch) (y : MethodName) (Ts : List Cond) (rm : Room) (av : List Value) (D : va_G) (TY : List (ClassId × FieldType)) (w0 : va_W) (X : State → Prop) (S : Type) (post : S → Prop) (w1 : S → va_W) (mc ms : Nat) : Prop :=
  ∀ sz : Nat, Met l y Ts rm (va_Pc av (fun U => PreW D TY w0 sz U ∧ X U)) (va_Qv post (fun u t => PostW D TY (va_A w0 sz) (w1 u) t) (va_A w0 sz)) mc ms (va_A w0 sz)
abbrev Mi (l : Launch) (y : MethodName) (Ts : List Cond) (rm : Room) (av : List Value) (D : va_G) (TY : List (ClassId × FieldType)) (w0 : va_W) (X : State → Prop) (S : Type) (post : Int32 → S → Prop) (w1 : S → va_W) (mc ms : Nat) : Prop :=
  ∀ sz : Nat, Met l y Ts rm (va_Pc av (fun U => PreW D TY w0 sz U ∧ X U)) (va_Qi post (fun u t => PostW D TY (va_A w0 sz) (w1 u) t) (va_A w0 sz)) mc ms (va_A w0 sz)
abbrev Ml (l : Launch) (y : MethodName) (Ts : List Cond) (rm : Room) (av : List Value) (D : va_G) (TY : List (ClassId × FieldType)) (w0 : va_W) (X : State → Prop) (S : Type) (post : Int64 → S → Prop) (w1 : S → va_W) (mc ms : Nat) : Prop :=
  ∀ sz : Nat, Met l y Ts rm (va_Pc av (fun U => PreW D TY w0 sz U ∧ X U)) (va_Ql post (fun u t => PostW D TY (va_A w0 sz) (w1 u) t) (va_A w0 sz)) mc ms (va_A w0 sz)
/-- a contract out of the walk of its body -/
theorem x_met {l : Launch} {y : MethodName} {Ts Ts' : List Cond} {rm : Room} {av : List Value} {D : va_G} {TY : List (ClassId × FieldType)} {w0 : va_W} {X : State → Prop} {sz : Nat} {Qc : Array Value → State → Outcome → State → Prop} {mc ms : Nat} {cc : ByteArray} {maxL : Nat} {ret : Option FieldType}
    (hy : plainName y.cls = true) (hw : Ts = Cond.code y cc maxL ret :: Ts') (hav : (lg_sl av).length ≤ maxL)
    (body : ∀ (p : Program) (e : Env) (s : State) (m : MethodId) (below : List Frame) (meth : Method) (c : Code) (ls : Array Slot), Cx p s m av.toArray c cc y.cls Ts D TY maxL → X s → s.heap.size = sz → meth.sig.returnType = ret → meth.locks = false → meth.name = y.name → lv_has ls maxL (lv_args 0 av) → Hp D (va_A w0 sz) s.heap s.heap [] w0 →
      W p l e rm s m av.toArray below meth c s.heap [] 0 0 (MQ below Qc av.toArray s mc ms (va_A w0 sz)) (F0 m 0 ls [])) :
    Met l y Ts rm (va_Pc av (fun U => PreW D TY w0 sz U ∧ X U)) Qc mc ms (va_A w0 sz) := by
  refine Met.ofW (cc := cc) (maxL := maxL) (ret := ret) hy hw ?_
  intro p e s m args below meth c s₁ B hml hv
  obtain ⟨rfl, ⟨hsz, hP, hK, hD0⟩, hX⟩ := hv
  have hts := atoms_spec (ws := Ts) B.pre
  have hown : s.vm.findClass y.cls = some m.cls := findClass_of_methodNamed B.named
  have hin := (name_of_methodNamed B.named B.method).1
  have hl := lv_entry av (n := maxL) hav
  rw [lg_entry_eq]
  generalize (lg_sl av ++ List.replicate (maxL - (lg_sl av).length) Slot.unset).toArray = ls at hl ⊢
  exact body p e s m below meth c ls ⟨B.exec, B.bytes, hts, hown, hK, hml⟩ hX hsz B.returns B.notSynchronized hin hl ⟨hP, hD0.self, va_S.rf, fun q h => Or.inr (by rw [← hsz]; exact h)⟩
section XR
variable {p : Program} {l : Launch} {e : Env} {R : Room} {s : State} {m : MethodId} {args : Array Value} {below : List Frame} {meth : Method} {c : Code} {H : Heap} {locs : List Loc} {cells slots mc ms : Nat}
variable {cc : ByteArray} {pc : Nat} {ls : Array Slot} {D : va_G} {A : Nat → Prop} {TY : List (ClassId × FieldType)} {ws : va_W} {own : String} {Ts : List Cond} {nL : Nat}
theorem x_vret (C : Cx p s m args c cc own Ts D TY nL) (h : Hp D A s.heap H locs ws) (hr : meth.sig.returnType = none) (hlk : meth.locks = false) {S : Type} {post : S → Prop} {w1 : S → va_W} (u : S) (hdg : decode cc pc = .ok (.return_, 1)) (hp : post u) (hw : ws = w1 u) (hc : cells ≤ mc) (hs : slots ≤ ms) :
    W p l e R s m args below meth c H locs cells slots (MQ below (va_Qv post (fun u t => PostW D TY A (w1 u) t) A) args s mc ms A) (F0 m pc ls []) := by
  refine W.widen hc hs (W.vret C.1 C.2.1 hr (fun t ht hW => ⟨⟨u, rfl, hp, ?_, va_K.moved hW.alike C.2.2.2.2.1, ?_⟩, h.2.2.1.F ht⟩) h.2.2.1.2.2 hdg hlk)
  · rw [ht, ← hw]; exact h.1
  · rw [← hw]; exact h.2.1
theorem x_iret (C : Cx p s m args c cc own Ts D TY nL) (h : Hp D A s.heap H locs ws) {ty : FieldType} {v : Int32} (hr : meth.sig.returnType = some ty) (hlk : meth.locks = false) {S : Type} {post : Int32 → S → Prop} {w1 : S → va_W} (u : S) (hdg : decode cc pc = .ok (.ireturn, 1)) (hn : narrow ty (.int v) = .int v) (hp : post v u) (hw : ws = w1 u) (hc : cells ≤ mc) (hs : slots ≤ ms) :
    W p l e R s m args below meth c H locs cells slots (MQ below (va_Qi post (fun u t => PostW D TY A (w1 u) t) A) args s mc ms A) (F0 m pc ls [.int v]) := by
  refine W.widen hc hs (W.zret C.1 C.2.1 hr hn (fun t ht hW => ⟨⟨v, u, rfl, hp, ?_, va_K.moved hW.alike C.2.2.2.2.1, ?_⟩, h.2.2.1.F ht⟩) h.2.2.1.2.2 hdg hlk)
  · rw [ht, ← hw]; exact h.1
  · rw [← hw]; exact h.2.1
theorem x_lret (C : Cx p s m args c cc own Ts D TY nL) (h : Hp D A s.heap H locs ws) {v : Int64} (hr : meth.sig.returnType = some .long) (hlk : meth.locks = false) {S : Type} {post : Int64 → S → Prop} {w1 : S → va_W} (u : S) (hdg : decode cc pc = .ok (.lreturn, 1)) (hp : post v u) (hw : ws = w1 u) (hc : cells ≤ mc) (hs : slots ≤ ms) :
    W p l e R s m args below meth c H locs cells slots (MQ below (va_Ql post (fun u t => PostW D TY A (w1 u) t) A) args s mc ms A) (F0 m pc ls [.long v]) := by
  refine W.widen hc hs (W.lret C.1 C.2.1 hr (fun t ht hW => ⟨⟨v, u, rfl, hp, ?_, va_K.moved hW.alike C.2.2.2.2.1, ?_⟩, h.2.2.1.F ht⟩) h.2.2.1.2.2 hdg hlk)
  · rw [ht, ← hw]; exact h.1
  · rw [← hw]; exact h.2.1
end XR
theorem fm_of {α β : Type} {f : α → Option β} : ∀ {is : List α} {w : List β}, is.map f = w.map some → is.filterMap f = w
  | [], w, h => by
    cases w with
    | nil => rfl
    | cons a w => cases h
  | i :: is, w, h => by
    cases w with
    | nil => cases h
    | cons a w =>
      rw [List.map_cons, List.map_cons] at h
      obtain ⟨h1, h2⟩ := List.cons.inj h
      rw [List.filterMap_cons, h1, fm_of h2]
def XOk (X : State → Prop) (s : State) (H : Heap) : Prop := FrameBlind (fun _ U => X U) ∧ ∀ U : State, U.heap = H → s.WarmedH U.vm → X U
theorem xok_T {s : State} {H : Heap} : XOk (fun _ => True) s H := ⟨fun _ _ _ _ _ => trivial, fun _ _ _ => trivial⟩
theorem x_pre {D : va_G} {TY : List (ClassId × FieldType)} {wc : va_W} {X : State → Prop} {s : State} {H : Heap} {A : Nat → Prop} {av : List Value} (hX : XOk X s H) (hK : va_K D vwCl TY s) (hP : va_P D vwCl wc H) (hD : va_D A wc) : PreS s H (va_Pc av (fun U => PreW D TY wc H.size U ∧ X U)) av :=
  ⟨fun a U g mk q => by
    obtain ⟨q0, ⟨q1, qP, qK, qD⟩, qX⟩ := q
    exact ⟨q0, ⟨q1, qP, va_K.moved (u := U) (U := U.calling g mk a) (Vm.Alike.refl U.vm) qK, qD⟩, hX.1 a U g mk qX⟩,
   fun U hU hW => ⟨rfl, ⟨by rw [hU], by rw [hU]; exact hP, va_K.moved hW.alike hK, hD.weaken (fun _ _ _ _ => trivial)⟩, hX.2 U hU hW⟩⟩
section XC
variable {p : Program} {l : Launch} {e : Env} {R : Room} {s : State} {m : MethodId} {args : Array Value} {below : List Frame} {meth : Method} {c : Code} {H : Heap} {locs : List Loc} {cells slots : Nat} {Q : State → Prop}
variable {cc : ByteArray} {pc : Nat} {ls : Array Slot} {rest st0 : List Value} {D : va_G} {A : Nat → Prop} {TY : List (ClassId × FieldType)} {ws wc wr : va_W} {H0 : Heap} {own : String} {Ts : List Cond} {nL : Nat}
variable {y : MethodName} {bytes : ByteArray} {maxL mc ms n index : Nat} {ret : Option FieldType} {Ts' : List Cond} {rm : Room} {X : State → Prop} {Qc : Nat → Array Value → State → Outcome → State → Prop} {b : Nat} {As : List Value} {C1 host : String}
theorem x_runI (C : Cx p s m args c cc own Ts D TY nL) (h : Hp D A H0 H locs ws) (isC : List Nat) (hM : ∀ sz, Met l y Ts' rm (va_Pc (.ref b :: As) (fun U => PreW D TY wc sz U ∧ X U)) (Qc sz) mc ms (va_A wc sz)) (hC : isC.map (fun i => ws[i]?) = wc.map some) (hn0 : va_nd isC = true) (hX : XOk X s H)
    (cw : CallB R s args own index y bytes maxL none Ts' rm mc ms n ∧ y.name = "<init>" ∧ (Cond.instanceMethod y).before args s = true) (hn : As.length = n) (hsz : ls.size = nL) (hst : st0 = As.reverse ++ .ref b :: rest) (hW : (rest.map fun v => v.category).sum ≤ 8) (hdg : decode cc pc = .ok (.invokespecial index, 3)) (hf : cells + mc ≤ R.cells ∧ slots + ms ≤ R.slots) :
    va_Run p l e R s m args below meth c H locs cells slots mc ms (F0 m pc ls st0) rest (Qc H.size (Value.ref b :: As).toArray) (va_A wc H.size) := by
  have hPc := h.1.sub (ws' := wc) isC (fm_of hC)
  have hDc := h.2.1.sub (ws' := wc) isC hn0 hC
  exact va_runI ⟨C.1, C.2.1, C.2.2.2.2.2, C.2.2.2.1, C.2.2.1⟩ (hM H.size) cw (x_pre hX C.2.2.2.2.1 hPc hDc) rfl hn hsz hst (lv_room hW) hdg hf
theorem x_runIN (C : Cx p s m args c cc own Ts D TY nL) (h : Hp D A H0 H locs ws) (isC : List Nat) (hM : ∀ sz, Met l y Ts' rm (va_Pc (.ref b :: As) (fun U => PreW D TY wc sz U ∧ X U)) (Qc sz) mc ms (va_A wc sz)) (hC : isC.map (fun i => ws[i]?) = wc.map some) (hn0 : va_nd isC = true) (hX : XOk X s H)
    (cw : va_CN R s args own index y host bytes maxL none Ts' rm mc ms n ∧ y.name = "<init>" ∧ (Cond.instanceMethod y).before args s = true) (hn : As.length = n) (hsz : ls.size = nL) (hst : st0 = As.reverse ++ .ref b :: rest) (hW : (rest.map fun v => v.category).sum ≤ 8) (hdg : decode cc pc = .ok (.invokespecial index, 3)) (hf : cells + mc ≤ R.cells ∧ slots + ms ≤ R.slots) :
    va_Run p l e R s m args below meth c H locs cells slots mc ms (F0 m pc ls st0) rest (Qc H.size (Value.ref b :: As).toArray) (va_A wc H.size) := by
  have hPc := h.1.sub (ws' := wc) isC (fm_of hC)
  have hDc := h.2.1.sub (ws' := wc) isC hn0 hC
  exact va_runIN ⟨C.1, C.2.1, C.2.2.2.2.2, C.2.2.2.1, C.2.2.1⟩ (hM H.size) cw (x_pre hX C.2.2.2.2.1 hPc hDc) rfl hn hsz hst (lv_room hW) hdg hf
theorem x_runV (C : Cx p s m args c cc own Ts D TY nL) (h : Hp D A H0 H locs ws) (isC : List Nat) (hM : ∀ sz, Met l y Ts' rm (va_Pc (.ref b :: As) (fun U => PreW D TY wc sz U ∧ X U)) (Qc sz) mc ms (va_A wc sz)) (hC : isC.map (fun i => ws[i]?) = wc.map some) (hn0 : va_nd isC = true) (hX : XOk X s H) (hrc : ∃ cellB : Cell, H[b]? = some cellB ∧ cellB.vm.isStatics = false ∧ s.vm.findClass C1 = some cellB.cls)
    (cw : CallW R s args own C1 index y bytes maxL ret Ts' rm mc ms n) (hn : As.length = n) (hsz : ls.size = nL) (hst : st0 = As.reverse ++ .ref b :: rest) (hW : (rest.map fun v => v.category).sum ≤ 8) (hdg : decode cc pc = .ok (.invokevirtual index, 3)) (hf : cells + mc ≤ R.cells ∧ slots + ms ≤ R.slots) :
    va_Run p l e R s m args below meth c H locs cells slots mc ms (F0 m pc ls st0) rest (Qc H.size (Value.ref b :: As).toArray) (va_A wc H.size) := by
  have hPc := h.1.sub (ws' := wc) isC (fm_of hC)
  have hDc := h.2.1.sub (ws' := wc) isC hn0 hC
  have hp := x_pre (av := .ref b :: As) hX C.2.2.2.2.1 hPc hDc
  exact va_runV ⟨C.1, C.2.1, C.2.2.2.2.2, C.2.2.2.1, C.2.2.1⟩ (hM H.size) cw ⟨hp.1, hrc, hp.2⟩ rfl hn hsz hst (lv_room hW) hdg hf
theorem x_runS (C : Cx p s m args c cc own Ts D TY nL) (h : Hp D A H0 H locs ws) (isC : List Nat) (hM : ∀ sz, Met l y Ts' rm (va_Pc As (fun U => PreW D TY wc sz U ∧ X U)) (Qc sz) mc ms (va_A wc sz)) (hC : isC.map (fun i => ws[i]?) = wc.map some) (hn0 : va_nd isC = true) (hX : XOk X s H)
    (cw : CallB R s args own index y bytes maxL ret Ts' rm mc ms n ∧ (Cond.static y).before args s = true) (hn : As.length = n) (hsz : ls.size = nL) (hst : st0 = As.reverse ++ rest) (hW : (rest.map fun v => v.category).sum ≤ 8) (hdg : decode cc pc = .ok (.invokestatic index, 3)) (hf : cells + mc ≤ R.cells ∧ slots + ms ≤ R.slots) :
    va_Run p l e R s m args below meth c H locs cells slots mc ms (F0 m pc ls st0) rest (Qc H.size As.toArray) (va_A wc H.size) := by
  have hPc := h.1.sub (ws' := wc) isC (fm_of hC)
  have hDc := h.2.1.sub (ws' := wc) isC hn0 hC
  exact va_runS ⟨C.1, C.2.1, C.2.2.2.2.2, C.2.2.2.1, C.2.2.1⟩ (hM H.size) cw (x_pre hX C.2.2.2.2.1 hPc hDc) rfl hn hsz hst (lv_room hW) hdg hf
variable {S : Type} {w1 : S → va_W} {av : Array Value}
theorem x_join (h : Hp D A H0 H locs ws) (isC isR : List Nat) (hC : isC.map (fun i => ws[i]?) = wc.map some) (hR : isR.map (fun i => ws[i]?) = wr.map some) (hnd : va_nd isR = true) (hdis : ∀ i ∈ isR, i ∉ isC) {t : State} {H1 : Heap} {locs1 : List Loc} {w : va_W} (ht : t.heap = H1) (hB : PostW D TY (va_A wc H.size) w t) (hk : ∀ q : Nat, q < H.size → ¬ va_A wc H.size q → H1[q]? = H[q]?) (hS : va_S A H0 H1 locs1) : Hp D A H0 H1 locs1 (wr ++ w) := by
  have hFc := va_free (wc := wc) h.2.1 h.2.2.1 h.2.2.2 isC hC
  obtain ⟨hP1, -, hD1⟩ := hB
  rw [ht] at hP1
  obtain ⟨a1, a2⟩ := va_join (wr := wr) (w1 := w) h.1 h.2.1 isC isR hC hR hnd hdis hk hFc hP1 hD1
  exact ⟨a1, a2, hS, h.2.2.2⟩
theorem x_backv {post : S → Prop} (h : Hp D A H0 H locs ws) (isC isR : List Nat) (hC : isC.map (fun i => ws[i]?) = wc.map some) (hR : isR.map (fun i => ws[i]?) = wr.map some) (hnd : va_nd isR = true) (hdis : ∀ i ∈ isR, i ∉ isC)
    (hr : va_Run p l e R s m args below meth c H locs cells slots mc ms (F0 m pc ls st0) rest (va_Qv post (fun u t => PostW D TY (va_A wc H.size) (w1 u) t) (va_A wc H.size) av) (va_A wc H.size))
    (kk : ∀ (u : S) (H1 : Heap) (locs1 : List Loc), post u → Hp D A H0 H1 locs1 (wr ++ w1 u) → W p l e R s m args below meth c H1 locs1 (cells + mc) (slots + ms) Q (F0 m (pc + 3) ls rest)) : W p l e R s m args below meth c H locs cells slots Q (F0 m pc ls st0) := by
  have hFc := va_free (wc := wc) h.2.1 h.2.2.1 h.2.2.2 isC hC
  exact va_callv hr h.2.2.1 (fun q _ z => hFc q z) hFc (fun u t H1 locs1 ht _ hw hB _ hk hS => kk u H1 locs1 hw (x_join h isC isR hC hR hnd hdis ht hB hk hS))
theorem x_backi {post : Int32 → S → Prop} (h : Hp D A H0 H locs ws) (isC isR : List Nat) (hC : isC.map (fun i => ws[i]?) = wc.map some) (hR : isR.map (fun i => ws[i]?) = wr.map some) (hnd : va_nd isR = true) (hdis : ∀ i ∈ isR, i ∉ isC)
    (hr : va_Run p l e R s m args below meth c H locs cells slots mc ms (F0 m pc ls st0) rest (va_Qi post (fun u t => PostW D TY (va_A wc H.size) (w1 u) t) (va_A wc H.size) av) (va_A wc H.size))
    (kk : ∀ (r : Int32) (u : S) (H1 : Heap) (locs1 : List Loc), post r u → Hp D A H0 H1 locs1 (wr ++ w1 u) → W p l e R s m args below meth c H1 locs1 (cells + mc) (slots + ms) Q (F0 m (pc + 3) ls (.int r :: rest))) : W p l e R s m args below meth c H locs cells slots Q (F0 m pc ls st0) := by
  have hFc := va_free (wc := wc) h.2.1 h.2.2.1 h.2.2.2 isC hC
  exact va_calli hr h.2.2.1 (fun q _ z => hFc q z) hFc (fun r u t H1 locs1 ht _ hw hB _ hk hS => kk r u H1 locs1 hw (x_join h isC isR hC hR hnd hdis ht hB hk hS))
theorem x_backl {post : Int64 → S → Prop} (h : Hp D A H0 H locs ws) (isC isR : List Nat) (hC : isC.map (fun i => ws[i]?) = wc.map some) (hR : isR.map (fun i => ws[i]?) = wr.map some) (hnd : va_nd isR = true) (hdis : ∀ i ∈ isR, i ∉ isC)
    (hr : va_Run p l e R s m args below meth c H locs cells slots mc ms (F0 m pc ls st0) rest (va_Ql post (fun u t => PostW D TY (va_A wc H.size) (w1 u) t) (va_A wc H.size) av) (va_A wc H.size))
    (kk : ∀ (r : Int64) (u : S) (H1 : Heap) (locs1 : List Loc), post r u → Hp D A H0 H1 locs1 (wr ++ w1 u) → W p l e R s m args below meth c H1 locs1 (cells + mc) (slots + ms) Q (F0 m (pc + 3) ls (.long r :: rest))) : W p l e R s m args below meth c H locs cells slots Q (F0 m pc ls st0) := by
  have hFc := va_free (wc := wc) h.2.1 h.2.2.1 h.2.2.2 isC hC
  exact va_calll hr h.2.2.1 (fun q _ z => hFc q z) hFc (fun r u t H1 locs1 ht _ hw hB _ hk hS => kk r u H1 locs1 hw (x_join h isC isR hC hR hnd hdis ht hB hk hS))
end XC
