def sFN : String := "fast slow early late rev every when off over iter ply chunk inside rot struct mask drop keep some within squeeze "
def sWA : String := "AP  AP  AP  AP  P   NFP NNFPAFP FP  NP  NP  NFP NFP NP  PP  PP  NP  NP  NFP AAFPAAP "
def bFN : List Int32 := [102, 97, 115, 116, 32, 115, 108, 111, 119, 32, 101, 97, 114, 108, 121, 32, 108, 97, 116, 101, 32, 114, 101, 118, 32, 101, 118, 101, 114, 121, 32, 119, 104, 101, 110, 32, 111, 102, 102, 32, 111, 118, 101, 114, 32, 105, 116, 101, 114, 32, 112, 108, 121, 32, 99, 104, 117, 110, 107, 32, 105, 110, 115, 105, 100, 101, 32, 114, 111, 116, 32, 115, 116, 114, 117, 99, 116, 32, 109, 97, 115, 107, 32, 100, 114, 111, 112, 32, 107, 101, 101, 112, 32, 115, 111, 109, 101, 32, 119, 105, 116, 104, 105, 110, 32, 115, 113, 117, 101, 101, 122, 101, 32]
def bWA : List Int32 := [65, 80, 32, 32, 65, 80, 32, 32, 65, 80, 32, 32, 65, 80, 32, 32, 80, 32, 32, 32, 78, 70, 80, 32, 78, 78, 70, 80, 65, 70, 80, 32, 70, 80, 32, 32, 78, 80, 32, 32, 78, 80, 32, 32, 78, 70, 80, 32, 78, 70, 80, 32, 78, 80, 32, 32, 80, 80, 32, 32, 80, 80, 32, 32, 78, 80, 32, 32, 78, 80, 32, 32, 78, 70, 80, 32, 65, 65, 70, 80, 65, 65, 80, 32]
/-- what the Statement gives of the start, and a run keeps: nest links, classes of arrays, two statics, two texts; all outside A -/
def En (z : Nat) (aK aV : Nat → Nat) (A : Nat → Prop) (U : State) (H : Heap) : Prop := va_Nw (.methodLinkNest RX11 9 yX8_init RX11) U ∧ va_Nw (.methodLinkNest RX11 18 yX3_init RX11) U ∧ va_Nw (.methodLinkNest RX11 25 yX7_init RX11) U ∧ va_Nw (.methodLinkNest RX7 11 yX1_init RX11) U ∧ va_Nw (.methodLinkNest RX11 32 yX2_init RX11) U ∧ va_AO RX4 U ∧ va_AO RX0 U ∧ va_Z "java/util/ArrayList" "DEFAULTCAPACITY_EMPTY_ELEMENTDATA" "[Ljava/lang/Object;" (.ref z) A U H ∧ va_Z "java/lang/String" "COMPACT_STRINGS" "Z" (.int 1) A U H ∧ vk_R RX6 48 sFN (aK 0) U ∧ vk_R RX6 219 sWA (aK 1) U ∧ vk_S 2 [113, 84] [bFN, bWA] aK aV A U H ∧ va_Zq "jdk/internal/util/Preconditions" "SIOOBE_FORMATTER" "Ljava/util/function/BiFunction;" A U H
theorem En.same {z : Nat} {aK aV : Nat → Nat} {A : Nat → Prop} {u U : State} {H : Heap} (hv : U.vm = u.vm) (h : En z aK aV A u H) : En z aK aV A U H := by
  obtain ⟨n1, n2, n3, n4, n5, o1, o2, z1, z2, r1, r2, s1, q1⟩ := h
  have al : u.vm.Alike U.vm := by rw [hv]; exact Vm.Alike.refl _
  exact ⟨va_Nw.same rfl hv.symm n1, va_Nw.same rfl hv.symm n2, va_Nw.same rfl hv.symm n3, va_Nw.same rfl hv.symm n4, va_Nw.same rfl hv.symm n5, o1.moved al, o2.moved al, z1.moved al, z2.moved al, r1.same hv, r2.same hv, s1.moved al, q1.moved al⟩
theorem En.use {z : Nat} {aK aV : Nat → Nat} {A B : Nat → Prop} {s U : State} {H : Heap} {locs : List Loc} (h : En z aK aV A s s.heap) (hS : va_S A s.heap H locs) (hAB : ∀ q, B q → A q) (hW : s.WarmedH U.vm) : En z aK aV B U H := by
  obtain ⟨n1, n2, n3, n4, n5, o1, o2, z1, z2, r1, r2, s1, q1⟩ := h
  have al := hW.alike
  have kp : ∀ a : Nat, a < s.heap.size → ¬ A a → H[a]? = s.heap[a]? := hS.2.1
  exact ⟨n1.warmM hW, n2.warmM hW, n3.warmM hW, n4.warmM hW, n5.warmM hW, o1.moved al, o2.moved al, ((z1.kept kp).narrow hAB).moved al, ((z2.kept kp).narrow hAB).moved al, r1.warm hW, r2.warm hW, ((s1.kept kp).narrow hAB).moved al, ((q1.kept kp).narrow hAB).moved al⟩
abbrev XE (z : Nat) (aK aV : Nat → Nat) (w0 : va_W) : State → Prop := fun U => En z aK aV (va_A w0 U.heap.size) U U.heap
theorem xok_E {z : Nat} {aK aV : Nat → Nat} {D : va_G} {A : Nat → Prop} {s : State} {H : Heap} {locs : List Loc} {ws wc : va_W} (hE : En z aK aV A s s.heap) (h : Hp D A s.heap H locs ws) (isC : List Nat) (hC : isC.map (fun i => ws[i]?) = wc.map some) : XOk (XE z aK aV wc) s H :=
  xok_of (fun _ U _ _ q => En.same (u := U) rfl q) (fun U hU hW => by
    show En z aK aV (va_A wc U.heap.size) U U.heap
    rw [hU]
    exact hE.use h.2.2.1 (va_free (wc := wc) h.2.1 h.2.2.1 h.2.2.2 isC hC) hW)
section XG
variable {p : Program} {l : Launch} {e : Env} {R : Room} {s : State} {m : MethodId} {args : Array Value} {below : List Frame} {meth : Method} {c : Code} {H : Heap} {locs : List Loc} {cells slots : Nat} {Q : State → Prop}
variable {cc : ByteArray} {pc : Nat} {ls : Array Slot} {rest : List Value} {D : va_G} {A : Nat → Prop} {TY : List (ClassId × FieldType)} {ws : va_W} {own : String} {Ts : List Cond} {nL : Nat}
theorem x_gets (C : Cx p s m args c cc own Ts D TY nL) (h : Hp D A s.heap H locs ws) {C1 n d : String} {v : Value} {index : Nat} (hZ : va_Z C1 n d v A s s.heap) (hdg : decode cc pc = .ok (.getstatic index, 3)) (hlink : Cond.fieldLink own index C1 n d ∈ Ts)
    (kk : W p l e R s m args below meth c H locs cells slots Q (F0 m (pc + 3) ls (v :: rest))) : W p l e R s m args below meth c H locs cells slots Q (F0 m pc ls rest) :=
  va_gets C.1 C.2.1 hZ h.2.2.1 C.2.2.2.1 (C.2.2.1 _ hlink) (fun _ x => x) hdg kk
end XG
theorem x_topi {p : Program} {l : Launch} {e : Env} {R : Room} {s : State} {m : MethodId} {args : Array Value} {below : List Frame} {meth : Method} {c : Code} {H : Heap} {locs : List Loc} {cells slots : Nat} {Q : State → Prop} {pc : Nat} {ls : Array Slot} {rest : List Value} {x y : Int32} (h : x = y) (k : W p l e R s m args below meth c H locs cells slots Q (F0 m pc ls (.int y :: rest))) : W p l e R s m args below meth c H locs cells slots Q (F0 m pc ls (.int x :: rest)) := by rw [h]; exact k
