/-! the environment of the class's methods: En, casts, arrays of objects, the class object of Object[], the JDK's empty array at z -/
def zE (z : Nat) (A : Nat → Prop) (U : State) (H : Heap) : Prop := z < H.size ∧ ¬ A z ∧ ∃ scr : Cell, H[z]? = some scr ∧ U.isArrayOf scr (.object "java/lang/Object") ∧ scr.vm ≠ .unknown ∧ scr.slots.size = 0
theorem zE.moved {z : Nat} {A : Nat → Prop} {u U : State} {H : Heap} (hvm : u.vm.Alike U.vm) (h : zE z A u H) : zE z A U H := by
  obtain ⟨h0, hA, scr, h1, h2, h3, h4⟩ := h
  exact ⟨h0, hA, scr, h1, State.isArrayOf_alike hvm h2, h3, h4⟩
theorem zE.kept {z : Nat} {A : Nat → Prop} {U : State} {H H1 : Heap} (h : zE z A U H) (hs : H.size ≤ H1.size) (hq : ∀ a : Nat, a < H.size → ¬ A a → H1[a]? = H[a]?) : zE z A U H1 := by
  obtain ⟨h0, hA, scr, h1, h2⟩ := h
  exact ⟨Nat.lt_of_lt_of_le h0 hs, hA, scr, by rw [hq z h0 hA]; exact h1, h2⟩
theorem zE.narrow {z : Nat} {A B : Nat → Prop} {U : State} {H : Heap} (h : zE z A U H) (hAB : ∀ q, B q → A q) : zE z B U H := ⟨h.1, fun b => h.2.1 (hAB _ b), h.2.2⟩
def Ev (z mi : Nat) (aK aV : Nat → Nat) (A : Nat → Prop) (U : State) (H : Heap) : Prop := En z aK aV A U H ∧ va_Nw (.castable RX0 RX0) U ∧ va_Nw (.castable RX9 RX9) U ∧ va_Nw (.castable RX4 RX4) U ∧ va_Nw (.castable RX0 "java/lang/Object") U ∧ va_Nw (.castable RX9 "java/lang/Object") U ∧ va_Nw (.castable RX4 "java/lang/Object") U ∧ va_AO "java/lang/Object" U ∧ va_Mi "[Ljava/lang/Object;" mi U ∧ va_Dc U ∧ zE z A U H
theorem Ev.same {z mi : Nat} {aK aV : Nat → Nat} {A : Nat → Prop} {u U : State} {H : Heap} (hv : U.vm = u.vm) (h : Ev z mi aK aV A u H) : Ev z mi aK aV A U H := by
  obtain ⟨h0, c1, c2, c3, c4, c5, c6, a1, m1, d1, z1⟩ := h
  have al : u.vm.Alike U.vm := by rw [hv]; exact Vm.Alike.refl _
  exact ⟨h0.same hv, va_Nw.same rfl hv.symm c1, va_Nw.same rfl hv.symm c2, va_Nw.same rfl hv.symm c3, va_Nw.same rfl hv.symm c4, va_Nw.same rfl hv.symm c5, va_Nw.same rfl hv.symm c6, a1.moved al, m1.moved al, d1.moved al, z1.moved al⟩
theorem Ev.use {z mi : Nat} {aK aV : Nat → Nat} {A B : Nat → Prop} {s U : State} {H : Heap} {locs : List Loc} (h : Ev z mi aK aV A s s.heap) (hS : va_S A s.heap H locs) (hAB : ∀ q, B q → A q) (hW : s.WarmedH U.vm) : Ev z mi aK aV B U H := by
  obtain ⟨h0, c1, c2, c3, c4, c5, c6, a1, m1, d1, z1⟩ := h
  have al := hW.alike
  exact ⟨h0.use hS hAB hW, c1.warmC hW, c2.warmC hW, c3.warmC hW, c4.warmC hW, c5.warmC hW, c6.warmC hW, a1.moved al, m1.moved al, d1.moved al, ((z1.kept hS.1 hS.2.1).narrow hAB).moved al⟩
abbrev XV (z mi : Nat) (aK aV : Nat → Nat) (w0 : va_W) : State → Prop := fun U => Ev z mi aK aV (va_A w0 U.heap.size) U U.heap
theorem xok_V {z mi : Nat} {aK aV : Nat → Nat} {D : va_G} {A : Nat → Prop} {s : State} {H : Heap} {locs : List Loc} {ws wc : va_W} (hE : Ev z mi aK aV A s s.heap) (h : Hp D A s.heap H locs ws) (isC : List Nat) (hC : isC.map (fun i => ws[i]?) = wc.map some) : XOk (XV z mi aK aV wc) s H :=
  xok_of (fun _ U _ _ q => Ev.same (u := U) rfl q) (fun U hU hW => by
    show Ev z mi aK aV (va_A wc U.heap.size) U U.heap
    rw [hU]
    exact hE.use h.2.2.1 (va_free (wc := wc) h.2.1 h.2.2.1 h.2.2.2 isC hC) hW)
/-- a contract out of the walk of its body, arguments with references -/
theorem v_met {l : Launch} {y : MethodName} {Ts Ts' : List Cond} {rm : Room} {av : List Value} {D : va_G} {TY : List (ClassId × FieldType)} {w0 : va_W} {z mi : Nat} {aK aV : Nat → Nat} {sz : Nat} {Qc : Array Value → State → Outcome → State → Prop} {mc ms : Nat} {cc : ByteArray} {maxL : Nat} {ret : Option FieldType} {lv : List (Nat × Value)}
    (hy : plainName y.cls = true) (hw : Ts = Cond.code y cc maxL ret :: Ts') (hav : (lg_sl av).length ≤ maxL) (hlv : lv_args 0 av = lv)
    (body : ∀ (p : Program) (e : Env) (s : State) (m : MethodId) (below : List Frame) (meth : Method) (c : Code) (ls : Array Slot), Cx p s m av.toArray c cc y.cls Ts D TY maxL → Ev z mi aK aV (va_A w0 sz) s s.heap → meth.sig.returnType = ret → meth.locks = false → meth.name = y.name → lv_has ls maxL lv → Hp D (va_A w0 sz) s.heap s.heap [] w0 →
      W p l e rm s m av.toArray below meth c s.heap [] 0 0 (MQ below Qc av.toArray s mc ms (va_A w0 sz)) (F0 m 0 ls [])) :
    Met l y Ts rm (va_Pc av (fun U => PreW D TY w0 sz U ∧ XV z mi aK aV w0 U)) Qc mc ms (va_A w0 sz) :=
  x_met hy hw hav (fun p e s m below meth c ls C hX hsz hr hlk hmn hl h => body p e s m below meth c ls C (by rw [← hsz]; exact hX) hr hlk hmn (hlv ▸ hl) h)
