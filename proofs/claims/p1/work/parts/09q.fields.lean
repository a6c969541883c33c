section XT
variable {p : Program} {l : Launch} {e : Env} {R : Room} {s : State} {m : MethodId} {args : Array Value} {below : List Frame} {meth : Method} {c : Code} {H : Heap} {locs : List Loc} {cells slots : Nat} {Q : State → Prop}
variable {cc : ByteArray} {pc : Nat} {ls : Array Slot} {rest : List Value} {D : va_G} {A : Nat → Prop} {TY : List (ClassId × FieldType)} {ws : va_W} {H0 : Heap} {own : String} {Ts : List Cond} {nL : Nat}
theorem x_getT {C1 : String} {T : u_T} {N k : Nat} {cn fn ds : String} {fin : Bool} (hT : T k = (cn, fn, ds, fin)) (C : Cx p s m args c cc own Ts D TY nL) (h : Hp D A H0 H locs ws) (q0 : Nat) {a ci : Nat} {fs : List Value} {v : Value} {index : Nat} (hdg : decode cc pc = .ok (.getfield index, 3)) (he : ws[q0]? = some (a, .inr (ci, fs))) (hv : fs[k]? = some v) (hc : vwCl[ci]? = some (C1, T, N)) (hin : ∀ w ∈ u_ws C1 T N, w ∈ Ts) (hk : k < N) (hlink : Cond.fieldLink own index cn fn ds ∈ Ts)
    (kk : W p l e R s m args below meth c H locs cells slots Q (F0 m (pc + 3) ls (v :: rest))) : W p l e R s m args below meth c H locs cells slots Q (F0 m pc ls (.ref a :: rest)) :=
  x_get C h q0 k hdg he hv hc hin hk (by rw [hT]; exact hlink) kk
theorem x_putT {C1 : String} {T : u_T} {N k : Nat} {cn fn ds : String} (hT : T k = (cn, fn, ds, false)) {ty0 : Nat → FieldType} {ty : FieldType} (hy : ty0 k = ty) (C : Cx p s m args c cc own Ts D TY nL) (h : Hp D A H0 H locs ws) (q0 : Nat) {a ci : Nat} {fs : List Value} {v : Value} {index : Nat} (hdg : decode cc pc = .ok (.putfield index, 3)) (he : ws[q0]? = some (a, .inr (ci, fs))) (hc : vwCl[ci]? = some (C1, T, N)) (hin : ∀ w ∈ u_ws C1 T N, w ∈ Ts) (hk : k < N) (hlink : Cond.fieldLink own index cn fn ds ∈ Ts) (hty : ∀ k, k < N → parseFieldDescriptor (T k).2.2.1 = some (ty0 k)) (hnm : ∀ a, a < N → ∀ b, b < N → a ≠ b → (T a).2.1 ≠ (T b).2.1) (hl : k < fs.length) (hn : narrow ty v = v) (hfit : fits ty v = true)
    (kk : ∀ (H1 : Heap) (locs1 : List Loc), Hp D A H0 H1 locs1 (ws.set q0 (a, .inr (ci, fs.set k v))) → W p l e R s m args below meth c H1 locs1 cells slots Q (F0 m (pc + 3) ls rest)) : W p l e R s m args below meth c H locs cells slots Q (F0 m pc ls (v :: .ref a :: rest)) :=
  x_put C h q0 k hdg he hc hin hk (by rw [hT]; exact hlink) hty hnm hl (by rw [hT]) (by rw [hy]; exact hn) (by rw [hy]; exact hfit) kk
theorem x_putFT {C1 : String} {T : u_T} {N k : Nat} {cn fn ds : String} (hT : T k = (cn, fn, ds, true)) {ty0 : Nat → FieldType} {ty : FieldType} (hy : ty0 k = ty) (C : Cx p s m args c cc own Ts D TY nL) (hmn : meth.name = "<init>") (h : Hp D A H0 H locs ws) (q0 : Nat) {a ci : Nat} {fs : List Value} {v : Value} {index : Nat} (hdg : decode cc pc = .ok (.putfield index, 3)) (he : ws[q0]? = some (a, .inr (ci, fs))) (hc : vwCl[ci]? = some (C1, T, N)) (hin : ∀ w ∈ u_ws C1 T N, w ∈ Ts) (hk : k < N) (hlink : Cond.fieldLink own index cn fn ds ∈ Ts) (hty : ∀ k, k < N → parseFieldDescriptor (T k).2.2.1 = some (ty0 k)) (hnm : ∀ a, a < N → ∀ b, b < N → a ≠ b → (T a).2.1 ≠ (T b).2.1) (hl : k < fs.length) (hdecl : cn = own) (hn : narrow ty v = v) (hfit : fits ty v = true)
    (kk : ∀ (H1 : Heap) (locs1 : List Loc), Hp D A H0 H1 locs1 (ws.set q0 (a, .inr (ci, fs.set k v))) → W p l e R s m args below meth c H1 locs1 cells slots Q (F0 m (pc + 3) ls rest)) : W p l e R s m args below meth c H locs cells slots Q (F0 m pc ls (v :: .ref a :: rest)) :=
  x_putF C hmn h q0 k hdg he hc hin hk (by rw [hT]; exact hlink) hty hnm hl (by rw [hT]) (by rw [hT]; exact hdecl) (by rw [hy]; exact hn) (by rw [hy]; exact hfit) kk
end XT
theorem tX12_0 : TX12 0 = ("CycleStudioModel", "tape", "[B", true) := by decide +kernel
theorem yX12_0 : tyX12 0 = (.array .byte) := by decide +kernel
theorem tX12_1 : TX12 1 = ("CycleStudioModel", "size", "I", false) := by decide +kernel
theorem yX12_1 : tyX12 1 = .int := by decide +kernel
theorem tX12_2 : TX12 2 = ("CycleStudioModel", "at", "I", false) := by decide +kernel
theorem yX12_2 : tyX12 2 = .int := by decide +kernel
theorem tX12_3 : TX12 3 = ("CycleStudioModel", "token", "I", false) := by decide +kernel
theorem yX12_3 : tyX12 3 = .int := by decide +kernel
theorem tX12_4 : TX12 4 = ("CycleStudioModel", "tokenAt", "I", false) := by decide +kernel
theorem yX12_4 : tyX12 4 = .int := by decide +kernel
theorem tX12_5 : TX12 5 = ("CycleStudioModel", "tokenEnd", "I", false) := by decide +kernel
theorem yX12_5 : tyX12 5 = .int := by decide +kernel
theorem tX12_6 : TX12 6 = ("CycleStudioModel", "sign", "I", false) := by decide +kernel
theorem yX12_6 : tyX12 6 = .int := by decide +kernel
theorem tX12_7 : TX12 7 = ("CycleStudioModel", "nameA", "J", false) := by decide +kernel
theorem yX12_7 : tyX12 7 = .long := by decide +kernel
theorem tX12_8 : TX12 8 = ("CycleStudioModel", "nameB", "J", false) := by decide +kernel
theorem yX12_8 : tyX12 8 = .long := by decide +kernel
theorem tX12_9 : TX12 9 = ("CycleStudioModel", "above", "I", false) := by decide +kernel
theorem yX12_9 : tyX12 9 = .int := by decide +kernel
theorem tX12_10 : TX12 10 = ("CycleStudioModel", "below", "I", false) := by decide +kernel
theorem yX12_10 : tyX12 10 = .int := by decide +kernel
theorem tX12_11 : TX12 11 = ("CycleStudioModel", "fault", "I", false) := by decide +kernel
theorem yX12_11 : tyX12 11 = .int := by decide +kernel
theorem tX12_12 : TX12 12 = ("CycleStudioModel", "faultAt", "I", false) := by decide +kernel
theorem yX12_12 : tyX12 12 = .int := by decide +kernel
theorem tX12_13 : TX12 13 = ("CycleStudioModel", "opened", "I", false) := by decide +kernel
theorem yX12_13 : tyX12 13 = .int := by decide +kernel
theorem tX12_14 : TX12 14 = ("CycleStudioModel", "functionNames", "[C", true) := by decide +kernel
theorem yX12_14 : tyX12 14 = (.array .char) := by decide +kernel
theorem tX12_15 : TX12 15 = ("CycleStudioModel", "wants", "[I", true) := by decide +kernel
theorem yX12_15 : tyX12 15 = (.array .int) := by decide +kernel
theorem tX12_16 : TX12 16 = ("CycleStudioModel", "nodes", "I", false) := by decide +kernel
theorem yX12_16 : tyX12 16 = .int := by decide +kernel
theorem tX12_17 : TX12 17 = ("CycleStudioModel", "kindOf", "[I", true) := by decide +kernel
theorem yX12_17 : tyX12 17 = (.array .int) := by decide +kernel
theorem tX12_18 : TX12 18 = ("CycleStudioModel", "placeOf", "[I", true) := by decide +kernel
theorem yX12_18 : tyX12 18 = (.array .int) := by decide +kernel
theorem tX12_19 : TX12 19 = ("CycleStudioModel", "p0", "[I", true) := by decide +kernel
theorem yX12_19 : tyX12 19 = (.array .int) := by decide +kernel
theorem tX12_20 : TX12 20 = ("CycleStudioModel", "p1", "[I", true) := by decide +kernel
theorem yX12_20 : tyX12 20 = (.array .int) := by decide +kernel
theorem tX12_21 : TX12 21 = ("CycleStudioModel", "p2", "[I", true) := by decide +kernel
theorem yX12_21 : tyX12 21 = (.array .int) := by decide +kernel
theorem tX12_22 : TX12 22 = ("CycleStudioModel", "p3", "[I", true) := by decide +kernel
theorem yX12_22 : tyX12 22 = (.array .int) := by decide +kernel
theorem tX12_23 : TX12 23 = ("CycleStudioModel", "p4", "[I", true) := by decide +kernel
theorem yX12_23 : tyX12 23 = (.array .int) := by decide +kernel
theorem tX12_24 : TX12 24 = ("CycleStudioModel", "first", "[I", true) := by decide +kernel
theorem yX12_24 : tyX12 24 = (.array .int) := by decide +kernel
theorem tX12_25 : TX12 25 = ("CycleStudioModel", "last", "[I", true) := by decide +kernel
theorem yX12_25 : tyX12 25 = (.array .int) := by decide +kernel
theorem tX12_26 : TX12 26 = ("CycleStudioModel", "next", "[I", true) := by decide +kernel
theorem yX12_26 : tyX12 26 = (.array .int) := by decide +kernel
theorem tX12_27 : TX12 27 = ("CycleStudioModel", "value", "[I", true) := by decide +kernel
theorem yX12_27 : tyX12 27 = (.array .int) := by decide +kernel
theorem tX12_28 : TX12 28 = ("CycleStudioModel", "versions", "I", false) := by decide +kernel
theorem yX12_28 : tyX12 28 = .int := by decide +kernel
theorem tX12_29 : TX12 29 = ("CycleStudioModel", "defA", "[J", true) := by decide +kernel
theorem yX12_29 : tyX12 29 = (.array .long) := by decide +kernel
theorem tX12_30 : TX12 30 = ("CycleStudioModel", "defB", "[J", true) := by decide +kernel
theorem yX12_30 : tyX12 30 = (.array .long) := by decide +kernel
theorem tX12_31 : TX12 31 = ("CycleStudioModel", "defParams", "[I", true) := by decide +kernel
theorem yX12_31 : tyX12 31 = (.array .int) := by decide +kernel
theorem tX12_32 : TX12 32 = ("CycleStudioModel", "defBody", "[I", true) := by decide +kernel
theorem yX12_32 : tyX12 32 = (.array .int) := by decide +kernel
theorem tX12_33 : TX12 33 = ("CycleStudioModel", "defPattern", "[I", true) := by decide +kernel
theorem yX12_33 : tyX12 33 = (.array .int) := by decide +kernel
theorem tX12_34 : TX12 34 = ("CycleStudioModel", "held", "I", false) := by decide +kernel
theorem yX12_34 : tyX12 34 = .int := by decide +kernel
theorem tX12_35 : TX12 35 = ("CycleStudioModel", "holding", "[I", true) := by decide +kernel
theorem yX12_35 : tyX12 35 = (.array .int) := by decide +kernel
theorem tX12_36 : TX12 36 = ("CycleStudioModel", "reading", "I", false) := by decide +kernel
theorem yX12_36 : tyX12 36 = .int := by decide +kernel
theorem tX12_37 : TX12 37 = ("CycleStudioModel", "now", "[I", true) := by decide +kernel
theorem yX12_37 : tyX12 37 = (.array .int) := by decide +kernel
theorem tX12_38 : TX12 38 = ("CycleStudioModel", "params", "I", false) := by decide +kernel
theorem yX12_38 : tyX12 38 = .int := by decide +kernel
theorem tX12_39 : TX12 39 = ("CycleStudioModel", "paramA", "[J", true) := by decide +kernel
theorem yX12_39 : tyX12 39 = (.array .long) := by decide +kernel
theorem tX12_40 : TX12 40 = ("CycleStudioModel", "paramB", "[J", true) := by decide +kernel
theorem yX12_40 : tyX12 40 = (.array .long) := by decide +kernel
theorem tX12_41 : TX12 41 = ("CycleStudioModel", "piled", "I", false) := by decide +kernel
theorem yX12_41 : tyX12 41 = .int := by decide +kernel
theorem tX12_42 : TX12 42 = ("CycleStudioModel", "pileKind", "[I", true) := by decide +kernel
theorem yX12_42 : tyX12 42 = (.array .int) := by decide +kernel
theorem tX12_43 : TX12 43 = ("CycleStudioModel", "pileNode", "[I", true) := by decide +kernel
theorem yX12_43 : tyX12 43 = (.array .int) := by decide +kernel
theorem tX12_44 : TX12 44 = ("CycleStudioModel", "pileState", "[I", true) := by decide +kernel
theorem yX12_44 : tyX12 44 = (.array .int) := by decide +kernel
theorem tX12_45 : TX12 45 = ("CycleStudioModel", "pileNumber", "[I", true) := by decide +kernel
theorem yX12_45 : tyX12 45 = (.array .int) := by decide +kernel
theorem tX12_46 : TX12 46 = ("CycleStudioModel", "done", "I", false) := by decide +kernel
theorem yX12_46 : tyX12 46 = .int := by decide +kernel
theorem tX12_47 : TX12 47 = ("CycleStudioModel", "maybes", "I", false) := by decide +kernel
theorem yX12_47 : tyX12 47 = .int := by decide +kernel
theorem tX12_48 : TX12 48 = ("CycleStudioModel", "patterns", "I", false) := by decide +kernel
theorem yX12_48 : tyX12 48 = .int := by decide +kernel
theorem tX12_49 : TX12 49 = ("CycleStudioModel", "kind", "[I", true) := by decide +kernel
theorem yX12_49 : tyX12 49 = (.array .int) := by decide +kernel
theorem tX12_50 : TX12 50 = ("CycleStudioModel", "qa", "[I", true) := by decide +kernel
theorem yX12_50 : tyX12 50 = (.array .int) := by decide +kernel
theorem tX12_51 : TX12 51 = ("CycleStudioModel", "qb", "[I", true) := by decide +kernel
theorem yX12_51 : tyX12 51 = (.array .int) := by decide +kernel
theorem tX12_52 : TX12 52 = ("CycleStudioModel", "qc", "[I", true) := by decide +kernel
theorem yX12_52 : tyX12 52 = (.array .int) := by decide +kernel
theorem tX12_53 : TX12 53 = ("CycleStudioModel", "qd", "[I", true) := by decide +kernel
theorem yX12_53 : tyX12 53 = (.array .int) := by decide +kernel
theorem tX12_54 : TX12 54 = ("CycleStudioModel", "kidFrom", "[I", true) := by decide +kernel
theorem yX12_54 : tyX12 54 = (.array .int) := by decide +kernel
theorem tX12_55 : TX12 55 = ("CycleStudioModel", "kidMany", "[I", true) := by decide +kernel
theorem yX12_55 : tyX12 55 = (.array .int) := by decide +kernel
theorem tX12_56 : TX12 56 = ("CycleStudioModel", "grain", "[I", true) := by decide +kernel
theorem yX12_56 : tyX12 56 = (.array .int) := by decide +kernel
theorem tX12_57 : TX12 57 = ("CycleStudioModel", "crowd", "[I", true) := by decide +kernel
theorem yX12_57 : tyX12 57 = (.array .int) := by decide +kernel
theorem tX12_58 : TX12 58 = ("CycleStudioModel", "reach", "[I", true) := by decide +kernel
theorem yX12_58 : tyX12 58 = (.array .int) := by decide +kernel
theorem tX12_59 : TX12 59 = ("CycleStudioModel", "work", "[I", true) := by decide +kernel
theorem yX12_59 : tyX12 59 = (.array .int) := by decide +kernel
theorem tX12_60 : TX12 60 = ("CycleStudioModel", "deep", "[I", true) := by decide +kernel
theorem yX12_60 : tyX12 60 = (.array .int) := by decide +kernel
theorem tX12_61 : TX12 61 = ("CycleStudioModel", "kids", "I", false) := by decide +kernel
theorem yX12_61 : tyX12 61 = .int := by decide +kernel
theorem tX12_62 : TX12 62 = ("CycleStudioModel", "kid", "[I", true) := by decide +kernel
theorem yX12_62 : tyX12 62 = (.array .int) := by decide +kernel
theorem tX12_63 : TX12 63 = ("CycleStudioModel", "kidWeight", "[I", true) := by decide +kernel
theorem yX12_63 : tyX12 63 = (.array .int) := by decide +kernel
theorem tX12_64 : TX12 64 = ("CycleStudioModel", "counted", "I", false) := by decide +kernel
theorem yX12_64 : tyX12 64 = .int := by decide +kernel
theorem tX12_65 : TX12 65 = ("CycleStudioModel", "tasks", "I", false) := by decide +kernel
theorem yX12_65 : tyX12 65 = .int := by decide +kernel
theorem tX12_66 : TX12 66 = ("CycleStudioModel", "task", "[I", true) := by decide +kernel
theorem yX12_66 : tyX12 66 = (.array .int) := by decide +kernel
theorem tX12_67 : TX12 67 = ("CycleStudioModel", "taskOf", "[I", true) := by decide +kernel
theorem yX12_67 : tyX12 67 = (.array .int) := by decide +kernel
theorem tX12_68 : TX12 68 = ("CycleStudioModel", "top", "I", false) := by decide +kernel
theorem yX12_68 : tyX12 68 = .int := by decide +kernel
theorem tX12_69 : TX12 69 = ("CycleStudioModel", "pile", "[I", true) := by decide +kernel
theorem yX12_69 : tyX12 69 = (.array .int) := by decide +kernel
theorem tX12_70 : TX12 70 = ("CycleStudioModel", "level", "I", false) := by decide +kernel
theorem yX12_70 : tyX12 70 = .int := by decide +kernel
theorem tX12_71 : TX12 71 = ("CycleStudioModel", "levelAt", "I", false) := by decide +kernel
theorem yX12_71 : tyX12 71 = .int := by decide +kernel
theorem tX12_72 : TX12 72 = ("CycleStudioModel", "inUse", "[I", true) := by decide +kernel
theorem yX12_72 : tyX12 72 = (.array .int) := by decide +kernel
theorem tX12_73 : TX12 73 = ("CycleStudioModel", "g", "J", false) := by decide +kernel
theorem yX12_73 : tyX12 73 = .long := by decide +kernel
theorem tX12_74 : TX12 74 = ("CycleStudioModel", "cSum", "J", false) := by decide +kernel
theorem yX12_74 : tyX12 74 = .long := by decide +kernel
theorem tX12_75 : TX12 75 = ("CycleStudioModel", "cMost", "J", false) := by decide +kernel
theorem yX12_75 : tyX12 75 = .long := by decide +kernel
theorem tX12_76 : TX12 76 = ("CycleStudioModel", "\x72", "J", false) := by decide +kernel
theorem yX12_76 : tyX12 76 = .long := by decide +kernel
theorem tX12_77 : TX12 77 = ("CycleStudioModel", "wSum", "J", false) := by decide +kernel
theorem yX12_77 : tyX12 77 = .long := by decide +kernel
theorem tX12_78 : TX12 78 = ("CycleStudioModel", "wMost", "J", false) := by decide +kernel
theorem yX12_78 : tyX12 78 = .long := by decide +kernel
theorem tX12_79 : TX12 79 = ("CycleStudioModel", "dMost", "I", false) := by decide +kernel
theorem yX12_79 : tyX12 79 = .int := by decide +kernel
theorem tX12_80 : TX12 80 = ("CycleStudioModel", "b0", "J", false) := by decide +kernel
theorem yX12_80 : tyX12 80 = .long := by decide +kernel
theorem tX12_81 : TX12 81 = ("CycleStudioModel", "b1", "J", false) := by decide +kernel
theorem yX12_81 : tyX12 81 = .long := by decide +kernel
theorem tX12_82 : TX12 82 = ("CycleStudioModel", "b2", "J", false) := by decide +kernel
theorem yX12_82 : tyX12 82 = .long := by decide +kernel
theorem tX12_83 : TX12 83 = ("CycleStudioModel", "b3", "J", false) := by decide +kernel
theorem yX12_83 : tyX12 83 = .long := by decide +kernel
theorem tX12_84 : TX12 84 = ("CycleStudioModel", "events", "I", false) := by decide +kernel
theorem yX12_84 : tyX12 84 = .int := by decide +kernel
theorem tX12_85 : TX12 85 = ("CycleStudioModel", "from", "[J", true) := by decide +kernel
theorem yX12_85 : tyX12 85 = (.array .long) := by decide +kernel
theorem tX12_86 : TX12 86 = ("CycleStudioModel", "upTo", "[J", true) := by decide +kernel
theorem yX12_86 : tyX12 86 = (.array .long) := by decide +kernel
theorem tX12_87 : TX12 87 = ("CycleStudioModel", "wordA", "[I", true) := by decide +kernel
theorem yX12_87 : tyX12 87 = (.array .int) := by decide +kernel
theorem tX12_88 : TX12 88 = ("CycleStudioModel", "wordB", "[I", true) := by decide +kernel
theorem yX12_88 : tyX12 88 = (.array .int) := by decide +kernel
theorem tX12_89 : TX12 89 = ("CycleStudioModel", "amount", "[I", true) := by decide +kernel
theorem yX12_89 : tyX12 89 = (.array .int) := by decide +kernel
theorem tX12_90 : TX12 90 = ("CycleStudioModel", "has", "[I", true) := by decide +kernel
theorem yX12_90 : tyX12 90 = (.array .int) := by decide +kernel
theorem tX12_91 : TX12 91 = ("CycleStudioModel", "soundHas", "[I", true) := by decide +kernel
theorem yX12_91 : tyX12 91 = (.array .int) := by decide +kernel
theorem tX12_92 : TX12 92 = ("CycleStudioModel", "soundA", "[I", true) := by decide +kernel
theorem yX12_92 : tyX12 92 = (.array .int) := by decide +kernel
theorem tX12_93 : TX12 93 = ("CycleStudioModel", "soundB", "[I", true) := by decide +kernel
theorem yX12_93 : tyX12 93 = (.array .int) := by decide +kernel
theorem tX12_94 : TX12 94 = ("CycleStudioModel", "soundN", "[I", true) := by decide +kernel
theorem yX12_94 : tyX12 94 = (.array .int) := by decide +kernel
theorem tX12_95 : TX12 95 = ("CycleStudioModel", "seed", "I", false) := by decide +kernel
theorem yX12_95 : tyX12 95 = .int := by decide +kernel
theorem tX12_96 : TX12 96 = ("CycleStudioModel", "frames", "I", false) := by decide +kernel
theorem yX12_96 : tyX12 96 = .int := by decide +kernel
theorem tX12_97 : TX12 97 = ("CycleStudioModel", "fPattern", "[I", true) := by decide +kernel
theorem yX12_97 : tyX12 97 = (.array .int) := by decide +kernel
theorem tX12_98 : TX12 98 = ("CycleStudioModel", "fCycle", "[J", true) := by decide +kernel
theorem yX12_98 : tyX12 98 = (.array .long) := by decide +kernel
theorem tX12_99 : TX12 99 = ("CycleStudioModel", "fState", "[I", true) := by decide +kernel
theorem yX12_99 : tyX12 99 = (.array .int) := by decide +kernel
theorem tX12_100 : TX12 100 = ("CycleStudioModel", "fBase", "[I", true) := by decide +kernel
theorem yX12_100 : tyX12 100 = (.array .int) := by decide +kernel
theorem tX12_101 : TX12 101 = ("CycleStudioModel", "fMark", "[I", true) := by decide +kernel
theorem yX12_101 : tyX12 101 = (.array .int) := by decide +kernel
theorem tX12_102 : TX12 102 = ("CycleStudioModel", "fKid", "[I", true) := by decide +kernel
theorem yX12_102 : tyX12 102 = (.array .int) := by decide +kernel
theorem tX12_103 : TX12 103 = ("CycleStudioModel", "fCount", "[I", true) := by decide +kernel
theorem yX12_103 : tyX12 103 = (.array .int) := by decide +kernel
theorem tX12_104 : TX12 104 = ("CycleStudioModel", "fAhead", "[J", true) := by decide +kernel
theorem yX12_104 : tyX12 104 = (.array .long) := by decide +kernel
theorem tX12_105 : TX12 105 = ("CycleStudioModel", "fRow", "[J", true) := by decide +kernel
theorem yX12_105 : tyX12 105 = (.array .long) := by decide +kernel
theorem tX12_106 : TX12 106 = ("CycleStudioModel", "fEnd", "[J", true) := by decide +kernel
theorem yX12_106 : tyX12 106 = (.array .long) := by decide +kernel
theorem tX12_107 : TX12 107 = ("CycleStudioModel", "turnA", "[I", true) := by decide +kernel
theorem yX12_107 : tyX12 107 = (.array .int) := by decide +kernel
theorem tX12_108 : TX12 108 = ("CycleStudioModel", "turnB", "[I", true) := by decide +kernel
theorem yX12_108 : tyX12 108 = (.array .int) := by decide +kernel
theorem tX12_109 : TX12 109 = ("CycleStudioModel", "turnN", "[I", true) := by decide +kernel
theorem yX12_109 : tyX12 109 = (.array .int) := by decide +kernel
theorem tX12_110 : TX12 110 = ("CycleStudioModel", "turnHas", "[I", true) := by decide +kernel
theorem yX12_110 : tyX12 110 = (.array .int) := by decide +kernel
theorem tX12_111 : TX12 111 = ("CycleStudioModel", "track", "[I", true) := by decide +kernel
theorem yX12_111 : tyX12 111 = (.array .int) := by decide +kernel
theorem tX12_112 : TX12 112 = ("CycleStudioModel", "waiting", "[I", true) := by decide +kernel
theorem yX12_112 : tyX12 112 = (.array .int) := by decide +kernel
theorem tX12_113 : TX12 113 = ("CycleStudioModel", "muted", "[Z", true) := by decide +kernel
theorem yX12_113 : tyX12 113 = (.array .boolean) := by decide +kernel
theorem tX12_114 : TX12 114 = ("CycleStudioModel", "alone", "[Z", true) := by decide +kernel
theorem yX12_114 : tyX12 114 = (.array .boolean) := by decide +kernel
theorem tX12_115 : TX12 115 = ("CycleStudioModel", "cycle", "I", false) := by decide +kernel
theorem yX12_115 : tyX12 115 = .int := by decide +kernel
theorem tX12_116 : TX12 116 = ("CycleStudioModel", "part", "I", false) := by decide +kernel
theorem yX12_116 : tyX12 116 = .int := by decide +kernel
theorem tX12_117 : TX12 117 = ("CycleStudioModel", "heardInAll", "I", false) := by decide +kernel
theorem yX12_117 : tyX12 117 = .int := by decide +kernel
theorem tX12_118 : TX12 118 = ("CycleStudioModel", "toldFault", "I", false) := by decide +kernel
theorem yX12_118 : tyX12 118 = .int := by decide +kernel
theorem tX12_119 : TX12 119 = ("CycleStudioModel", "toldAt", "I", false) := by decide +kernel
theorem yX12_119 : tyX12 119 = .int := by decide +kernel
theorem tX12_120 : TX12 120 = ("CycleStudioModel", "toldMany", "I", false) := by decide +kernel
theorem yX12_120 : tyX12 120 = .int := by decide +kernel
theorem tX12_121 : TX12 121 = ("CycleStudioModel", "asked", "I", false) := by decide +kernel
theorem yX12_121 : tyX12 121 = .int := by decide +kernel
theorem tX12_122 : TX12 122 = ("CycleStudioModel", "askedFrom", "[J", true) := by decide +kernel
theorem yX12_122 : tyX12 122 = (.array .long) := by decide +kernel
theorem tX12_123 : TX12 123 = ("CycleStudioModel", "askedSize", "[J", true) := by decide +kernel
theorem yX12_123 : tyX12 123 = (.array .long) := by decide +kernel
theorem tX12_124 : TX12 124 = ("CycleStudioModel", "askedA", "[I", true) := by decide +kernel
theorem yX12_124 : tyX12 124 = (.array .int) := by decide +kernel
theorem tX12_125 : TX12 125 = ("CycleStudioModel", "askedB", "[I", true) := by decide +kernel
theorem yX12_125 : tyX12 125 = (.array .int) := by decide +kernel
theorem tX12_126 : TX12 126 = ("CycleStudioModel", "askedN", "[I", true) := by decide +kernel
theorem yX12_126 : tyX12 126 = (.array .int) := by decide +kernel
theorem tX12_127 : TX12 127 = ("CycleStudioModel", "askedHas", "[I", true) := by decide +kernel
theorem yX12_127 : tyX12 127 = (.array .int) := by decide +kernel
theorem tX12_128 : TX12 128 = ("CycleStudioModel", "askedGrain", "I", false) := by decide +kernel
theorem yX12_128 : tyX12 128 = .int := by decide +kernel
theorem tX12_129 : TX12 129 = ("CycleStudioModel", "heard", "I", false) := by decide +kernel
theorem yX12_129 : tyX12 129 = .int := by decide +kernel
theorem tX12_130 : TX12 130 = ("CycleStudioModel", "heardTrack", "[I", true) := by decide +kernel
theorem yX12_130 : tyX12 130 = (.array .int) := by decide +kernel
theorem tX12_131 : TX12 131 = ("CycleStudioModel", "heardCycle", "[I", true) := by decide +kernel
theorem yX12_131 : tyX12 131 = (.array .int) := by decide +kernel
theorem tX12_132 : TX12 132 = ("CycleStudioModel", "heardGrain", "[I", true) := by decide +kernel
theorem yX12_132 : tyX12 132 = (.array .int) := by decide +kernel
theorem tX12_133 : TX12 133 = ("CycleStudioModel", "heardFrom", "[J", true) := by decide +kernel
theorem yX12_133 : tyX12 133 = (.array .long) := by decide +kernel
theorem tX12_134 : TX12 134 = ("CycleStudioModel", "heardSize", "[J", true) := by decide +kernel
theorem yX12_134 : tyX12 134 = (.array .long) := by decide +kernel
theorem tX12_135 : TX12 135 = ("CycleStudioModel", "heardA", "[I", true) := by decide +kernel
theorem yX12_135 : tyX12 135 = (.array .int) := by decide +kernel
theorem tX12_136 : TX12 136 = ("CycleStudioModel", "heardB", "[I", true) := by decide +kernel
theorem yX12_136 : tyX12 136 = (.array .int) := by decide +kernel
theorem tX12_137 : TX12 137 = ("CycleStudioModel", "heardN", "[I", true) := by decide +kernel
theorem yX12_137 : tyX12 137 = (.array .int) := by decide +kernel
theorem tX12_138 : TX12 138 = ("CycleStudioModel", "heardHas", "[I", true) := by decide +kernel
theorem yX12_138 : tyX12 138 = (.array .int) := by decide +kernel
theorem tX12_139 : TX12 139 = ("CycleStudioModel", "beats", "I", false) := by decide +kernel
theorem yX12_139 : tyX12 139 = .int := by decide +kernel
theorem tX12_140 : TX12 140 = ("CycleStudioModel", "beatTrack", "[I", true) := by decide +kernel
theorem yX12_140 : tyX12 140 = (.array .int) := by decide +kernel
theorem tX12_141 : TX12 141 = ("CycleStudioModel", "beatGrain", "[I", true) := by decide +kernel
theorem yX12_141 : tyX12 141 = (.array .int) := by decide +kernel
theorem tX12_142 : TX12 142 = ("CycleStudioModel", "beatFrom", "[J", true) := by decide +kernel
theorem yX12_142 : tyX12 142 = (.array .long) := by decide +kernel
theorem tX12_143 : TX12 143 = ("CycleStudioModel", "beatSize", "[J", true) := by decide +kernel
theorem yX12_143 : tyX12 143 = (.array .long) := by decide +kernel
theorem tX12_144 : TX12 144 = ("CycleStudioModel", "beatA", "[I", true) := by decide +kernel
theorem yX12_144 : tyX12 144 = (.array .int) := by decide +kernel
theorem tX12_145 : TX12 145 = ("CycleStudioModel", "beatB", "[I", true) := by decide +kernel
theorem yX12_145 : tyX12 145 = (.array .int) := by decide +kernel
theorem tX12_146 : TX12 146 = ("CycleStudioModel", "beatN", "[I", true) := by decide +kernel
theorem yX12_146 : tyX12 146 = (.array .int) := by decide +kernel
theorem tX12_147 : TX12 147 = ("CycleStudioModel", "beatHas", "[I", true) := by decide +kernel
theorem yX12_147 : tyX12 147 = (.array .int) := by decide +kernel
theorem tX12_148 : TX12 148 = ("CycleStudioModel", "order", "[I", true) := by decide +kernel
theorem yX12_148 : tyX12 148 = (.array .int) := by decide +kernel
theorem tX12_149 : TX12 149 = ("CycleStudioModel", "nodesWere", "I", false) := by decide +kernel
theorem yX12_149 : tyX12 149 = .int := by decide +kernel
theorem tX12_150 : TX12 150 = ("CycleStudioModel", "patternsWere", "I", false) := by decide +kernel
theorem yX12_150 : tyX12 150 = .int := by decide +kernel
theorem tX12_151 : TX12 151 = ("CycleStudioModel", "kidsWere", "I", false) := by decide +kernel
theorem yX12_151 : tyX12 151 = .int := by decide +kernel
theorem tX12_152 : TX12 152 = ("CycleStudioModel", "versionsWere", "I", false) := by decide +kernel
theorem yX12_152 : tyX12 152 = .int := by decide +kernel
