theorem iX12m : ∀ w ∈ u_ws RX12 TX12 153, w ∈ wsX12_init := fun w h => List.mem_cons_of_mem _ (List.mem_append_right _ h)
set_option maxHeartbeats 4000000 in
set_option maxRecDepth 100000 in
theorem sg1 {p : Program} {l : Launch} {e : Env} {R : Room} {s : State} {m : MethodId} {args : Array Value} {below : List Frame} {meth : Method} {c : Code} {H : Heap} {locs : List Loc} {cells slots : Nat} {Q : State → Prop} {ls : Array Slot} {D : va_G} {A : Nat → Prop} {k : Nat → ClassId} {H0 : Heap} {a : Nat} {fs : List Value} {w : va_W} (C : Cx p s m args c cX12_init RX12 wsX12_init D (TYs k) 2) (hmn : meth.name = "<init>") (hl : lv_has ls 2 [(0, .ref a)]) (hn : fs.length = 153) (hcl : cells + 1 ≤ R.cells) (hsl : slots + 2000 ≤ R.slots) (h : Hp D A H0 H locs ((a, .inr (13, fs)) :: w)) (kk : ∀ (q8 : Nat) (H : Heap) (locs : List Loc), Hp D A H0 H locs ((a, .inr (13, (fs.set 0 (.ref q8)))) :: ((q8, .inl (k 0, 2000, .inl (fun _ => 0))) :: w)) → W p l e R s m args below meth c H locs (cells + 1) (slots + 2000) Q (F0 m 13 ls [])) : W p l e R s m args below meth c H locs cells slots Q (F0 m 4 ls []) := by
  refine lv_aload_n C.1 C.2.1 dX12_init_4 rfl (lv_at hl 0 rfl) ?_
  refine lv_sipush (v := 2000) C.1 C.2.1 dX12_init_5 (by decide) ?_
  refine x_newa (a0 := (2000, .inl (fun _ => 0))) C h 0 dX12_init_8 rfl rfl (List.mem_of_getElem? (i := 4) rfl) (fun _ => rfl) (by decide) (by decide) (by decide) (by omega) (by omega) (fun q8 H h => ?_)
  have h : Hp D A H0 H _ ((q8, .inl (k 0, 2000, .inl (fun _ => 0))) :: (a, .inr (13, fs)) :: w) := Hp.front h
  refine x_putFT tX12_0 yX12_0 C hmn h 1 dX12_init_10 rfl rfl iX12m (Nat.le_of_ble_eq_true rfl) (List.mem_of_getElem? (i := 5) rfl) tyX12_ok nmX12 (by (try simp only [List.length_set]); rw [hn]; decide) rfl rfl rfl (fun H locs h => ?_)
  have h : Hp D A H0 H _ ((a, .inr (13, (fs.set 0 (.ref q8)))) :: ((q8, .inl (k 0, 2000, .inl (fun _ => 0))) :: w)) := Hp.swap h
  exact kk q8 H _ h
set_option maxHeartbeats 4000000 in
set_option maxRecDepth 100000 in
theorem sg2 {p : Program} {l : Launch} {e : Env} {R : Room} {s : State} {m : MethodId} {args : Array Value} {below : List Frame} {meth : Method} {c : Code} {H : Heap} {locs : List Loc} {cells slots : Nat} {Q : State → Prop} {ls : Array Slot} {D : va_G} {A : Nat → Prop} {k : Nat → ClassId} {H0 : Heap} {a : Nat} {fs : List Value} {w : va_W} {b : Nat} {rest : List Value} {f : Nat → Int32} (C : Cx p s m args c cX12_init RX12 wsX12_init D (TYs k) 2) (hmn : meth.name = "<init>") (h : Hp D A H0 H locs ((b, .inl (k 1, 113, .inl f)) :: w)) (kk : ∀ (H : Heap) (locs : List Loc), Hp D A H0 H locs ((b, .inl (k 1, 113, .inl (upd (upd (upd (upd (upd (upd (upd (upd (upd (upd (upd (upd (upd (upd (upd (upd (upd (upd (upd (upd f 0 (vp_nar .char 102)) 1 (vp_nar .char 97)) 2 (vp_nar .char 115)) 3 (vp_nar .char 116)) 4 (vp_nar .char 32)) 5 (vp_nar .char 115)) 6 (vp_nar .char 108)) 7 (vp_nar .char 111)) 8 (vp_nar .char 119)) 9 (vp_nar .char 32)) 10 (vp_nar .char 101)) 11 (vp_nar .char 97)) 12 (vp_nar .char 114)) 13 (vp_nar .char 108)) 14 (vp_nar .char 121)) 15 (vp_nar .char 32)) 16 (vp_nar .char 108)) 17 (vp_nar .char 97)) 18 (vp_nar .char 116)) 19 (vp_nar .char 101)))) :: w) → W p l e R s m args below meth c H locs cells slots Q (F0 m 132 ls (.ref b :: rest))) : W p l e R s m args below meth c H locs cells slots Q (F0 m 18 ls (.ref b :: rest)) := by
  refine lv_dup C.1 C.2.1 dX12_init_18 rfl ?_
  refine lv_iconst (v := 0) C.1 C.2.1 dX12_init_19 (by decide) ?_
  refine lv_bipush (v := 102) C.1 C.2.1 dX12_init_20 (by decide) ?_
  refine x_cast C h 0 1 dX12_init_22 rfl rfl (by unfold vp_in; decide) (fun H locs h => ?_)
  have h : Hp D A H0 H _ ((b, .inl (k 1, 113, .inl (upd f 0 (vp_nar .char 102)))) :: w) := h
  refine lv_dup C.1 C.2.1 dX12_init_23 rfl ?_
  refine lv_iconst (v := 1) C.1 C.2.1 dX12_init_24 (by decide) ?_
  refine lv_bipush (v := 97) C.1 C.2.1 dX12_init_25 (by decide) ?_
  refine x_cast C h 0 1 dX12_init_27 rfl rfl (by unfold vp_in; decide) (fun H locs h => ?_)
  have h : Hp D A H0 H _ ((b, .inl (k 1, 113, .inl (upd (upd f 0 (vp_nar .char 102)) 1 (vp_nar .char 97)))) :: w) := h
  refine lv_dup C.1 C.2.1 dX12_init_28 rfl ?_
  refine lv_iconst (v := 2) C.1 C.2.1 dX12_init_29 (by decide) ?_
  refine lv_bipush (v := 115) C.1 C.2.1 dX12_init_30 (by decide) ?_
  refine x_cast C h 0 1 dX12_init_32 rfl rfl (by unfold vp_in; decide) (fun H locs h => ?_)
  have h : Hp D A H0 H _ ((b, .inl (k 1, 113, .inl (upd (upd (upd f 0 (vp_nar .char 102)) 1 (vp_nar .char 97)) 2 (vp_nar .char 115)))) :: w) := h
  refine lv_dup C.1 C.2.1 dX12_init_33 rfl ?_
  refine lv_iconst (v := 3) C.1 C.2.1 dX12_init_34 (by decide) ?_
  refine lv_bipush (v := 116) C.1 C.2.1 dX12_init_35 (by decide) ?_
  refine x_cast C h 0 1 dX12_init_37 rfl rfl (by unfold vp_in; decide) (fun H locs h => ?_)
  have h : Hp D A H0 H _ ((b, .inl (k 1, 113, .inl (upd (upd (upd (upd f 0 (vp_nar .char 102)) 1 (vp_nar .char 97)) 2 (vp_nar .char 115)) 3 (vp_nar .char 116)))) :: w) := h
  refine lv_dup C.1 C.2.1 dX12_init_38 rfl ?_
  refine lv_iconst (v := 4) C.1 C.2.1 dX12_init_39 (by decide) ?_
  refine lv_bipush (v := 32) C.1 C.2.1 dX12_init_40 (by decide) ?_
  refine x_cast C h 0 1 dX12_init_42 rfl rfl (by unfold vp_in; decide) (fun H locs h => ?_)
  have h : Hp D A H0 H _ ((b, .inl (k 1, 113, .inl (upd (upd (upd (upd (upd f 0 (vp_nar .char 102)) 1 (vp_nar .char 97)) 2 (vp_nar .char 115)) 3 (vp_nar .char 116)) 4 (vp_nar .char 32)))) :: w) := h
  refine lv_dup C.1 C.2.1 dX12_init_43 rfl ?_
  refine lv_iconst (v := 5) C.1 C.2.1 dX12_init_44 (by decide) ?_
  refine lv_bipush (v := 115) C.1 C.2.1 dX12_init_45 (by decide) ?_
  refine x_cast C h 0 1 dX12_init_47 rfl rfl (by unfold vp_in; decide) (fun H locs h => ?_)
  have h : Hp D A H0 H _ ((b, .inl (k 1, 113, .inl (upd (upd (upd (upd (upd (upd f 0 (vp_nar .char 102)) 1 (vp_nar .char 97)) 2 (vp_nar .char 115)) 3 (vp_nar .char 116)) 4 (vp_nar .char 32)) 5 (vp_nar .char 115)))) :: w) := h
  refine lv_dup C.1 C.2.1 dX12_init_48 rfl ?_
  refine lv_bipush (v := 6) C.1 C.2.1 dX12_init_49 (by decide) ?_
  refine lv_bipush (v := 108) C.1 C.2.1 dX12_init_51 (by decide) ?_
  refine x_cast C h 0 1 dX12_init_53 rfl rfl (by unfold vp_in; decide) (fun H locs h => ?_)
  have h : Hp D A H0 H _ ((b, .inl (k 1, 113, .inl (upd (upd (upd (upd (upd (upd (upd f 0 (vp_nar .char 102)) 1 (vp_nar .char 97)) 2 (vp_nar .char 115)) 3 (vp_nar .char 116)) 4 (vp_nar .char 32)) 5 (vp_nar .char 115)) 6 (vp_nar .char 108)))) :: w) := h
  refine lv_dup C.1 C.2.1 dX12_init_54 rfl ?_
  refine lv_bipush (v := 7) C.1 C.2.1 dX12_init_55 (by decide) ?_
  refine lv_bipush (v := 111) C.1 C.2.1 dX12_init_57 (by decide) ?_
  refine x_cast C h 0 1 dX12_init_59 rfl rfl (by unfold vp_in; decide) (fun H locs h => ?_)
  have h : Hp D A H0 H _ ((b, .inl (k 1, 113, .inl (upd (upd (upd (upd (upd (upd (upd (upd f 0 (vp_nar .char 102)) 1 (vp_nar .char 97)) 2 (vp_nar .char 115)) 3 (vp_nar .char 116)) 4 (vp_nar .char 32)) 5 (vp_nar .char 115)) 6 (vp_nar .char 108)) 7 (vp_nar .char 111)))) :: w) := h
  refine lv_dup C.1 C.2.1 dX12_init_60 rfl ?_
  refine lv_bipush (v := 8) C.1 C.2.1 dX12_init_61 (by decide) ?_
  refine lv_bipush (v := 119) C.1 C.2.1 dX12_init_63 (by decide) ?_
  refine x_cast C h 0 1 dX12_init_65 rfl rfl (by unfold vp_in; decide) (fun H locs h => ?_)
  have h : Hp D A H0 H _ ((b, .inl (k 1, 113, .inl (upd (upd (upd (upd (upd (upd (upd (upd (upd f 0 (vp_nar .char 102)) 1 (vp_nar .char 97)) 2 (vp_nar .char 115)) 3 (vp_nar .char 116)) 4 (vp_nar .char 32)) 5 (vp_nar .char 115)) 6 (vp_nar .char 108)) 7 (vp_nar .char 111)) 8 (vp_nar .char 119)))) :: w) := h
  refine lv_dup C.1 C.2.1 dX12_init_66 rfl ?_
  refine lv_bipush (v := 9) C.1 C.2.1 dX12_init_67 (by decide) ?_
  refine lv_bipush (v := 32) C.1 C.2.1 dX12_init_69 (by decide) ?_
  refine x_cast C h 0 1 dX12_init_71 rfl rfl (by unfold vp_in; decide) (fun H locs h => ?_)
  have h : Hp D A H0 H _ ((b, .inl (k 1, 113, .inl (upd (upd (upd (upd (upd (upd (upd (upd (upd (upd f 0 (vp_nar .char 102)) 1 (vp_nar .char 97)) 2 (vp_nar .char 115)) 3 (vp_nar .char 116)) 4 (vp_nar .char 32)) 5 (vp_nar .char 115)) 6 (vp_nar .char 108)) 7 (vp_nar .char 111)) 8 (vp_nar .char 119)) 9 (vp_nar .char 32)))) :: w) := h
  refine lv_dup C.1 C.2.1 dX12_init_72 rfl ?_
  refine lv_bipush (v := 10) C.1 C.2.1 dX12_init_73 (by decide) ?_
  refine lv_bipush (v := 101) C.1 C.2.1 dX12_init_75 (by decide) ?_
  refine x_cast C h 0 1 dX12_init_77 rfl rfl (by unfold vp_in; decide) (fun H locs h => ?_)
  have h : Hp D A H0 H _ ((b, .inl (k 1, 113, .inl (upd (upd (upd (upd (upd (upd (upd (upd (upd (upd (upd f 0 (vp_nar .char 102)) 1 (vp_nar .char 97)) 2 (vp_nar .char 115)) 3 (vp_nar .char 116)) 4 (vp_nar .char 32)) 5 (vp_nar .char 115)) 6 (vp_nar .char 108)) 7 (vp_nar .char 111)) 8 (vp_nar .char 119)) 9 (vp_nar .char 32)) 10 (vp_nar .char 101)))) :: w) := h
  refine lv_dup C.1 C.2.1 dX12_init_78 rfl ?_
  refine lv_bipush (v := 11) C.1 C.2.1 dX12_init_79 (by decide) ?_
  refine lv_bipush (v := 97) C.1 C.2.1 dX12_init_81 (by decide) ?_
  refine x_cast C h 0 1 dX12_init_83 rfl rfl (by unfold vp_in; decide) (fun H locs h => ?_)
  have h : Hp D A H0 H _ ((b, .inl (k 1, 113, .inl (upd (upd (upd (upd (upd (upd (upd (upd (upd (upd (upd (upd f 0 (vp_nar .char 102)) 1 (vp_nar .char 97)) 2 (vp_nar .char 115)) 3 (vp_nar .char 116)) 4 (vp_nar .char 32)) 5 (vp_nar .char 115)) 6 (vp_nar .char 108)) 7 (vp_nar .char 111)) 8 (vp_nar .char 119)) 9 (vp_nar .char 32)) 10 (vp_nar .char 101)) 11 (vp_nar .char 97)))) :: w) := h
  refine lv_dup C.1 C.2.1 dX12_init_84 rfl ?_
  refine lv_bipush (v := 12) C.1 C.2.1 dX12_init_85 (by decide) ?_
  refine lv_bipush (v := 114) C.1 C.2.1 dX12_init_87 (by decide) ?_
  refine x_cast C h 0 1 dX12_init_89 rfl rfl (by unfold vp_in; decide) (fun H locs h => ?_)
  have h : Hp D A H0 H _ ((b, .inl (k 1, 113, .inl (upd (upd (upd (upd (upd (upd (upd (upd (upd (upd (upd (upd (upd f 0 (vp_nar .char 102)) 1 (vp_nar .char 97)) 2 (vp_nar .char 115)) 3 (vp_nar .char 116)) 4 (vp_nar .char 32)) 5 (vp_nar .char 115)) 6 (vp_nar .char 108)) 7 (vp_nar .char 111)) 8 (vp_nar .char 119)) 9 (vp_nar .char 32)) 10 (vp_nar .char 101)) 11 (vp_nar .char 97)) 12 (vp_nar .char 114)))) :: w) := h
  refine lv_dup C.1 C.2.1 dX12_init_90 rfl ?_
  refine lv_bipush (v := 13) C.1 C.2.1 dX12_init_91 (by decide) ?_
  refine lv_bipush (v := 108) C.1 C.2.1 dX12_init_93 (by decide) ?_
  refine x_cast C h 0 1 dX12_init_95 rfl rfl (by unfold vp_in; decide) (fun H locs h => ?_)
  have h : Hp D A H0 H _ ((b, .inl (k 1, 113, .inl (upd (upd (upd (upd (upd (upd (upd (upd (upd (upd (upd (upd (upd (upd f 0 (vp_nar .char 102)) 1 (vp_nar .char 97)) 2 (vp_nar .char 115)) 3 (vp_nar .char 116)) 4 (vp_nar .char 32)) 5 (vp_nar .char 115)) 6 (vp_nar .char 108)) 7 (vp_nar .char 111)) 8 (vp_nar .char 119)) 9 (vp_nar .char 32)) 10 (vp_nar .char 101)) 11 (vp_nar .char 97)) 12 (vp_nar .char 114)) 13 (vp_nar .char 108)))) :: w) := h
  refine lv_dup C.1 C.2.1 dX12_init_96 rfl ?_
  refine lv_bipush (v := 14) C.1 C.2.1 dX12_init_97 (by decide) ?_
  refine lv_bipush (v := 121) C.1 C.2.1 dX12_init_99 (by decide) ?_
  refine x_cast C h 0 1 dX12_init_101 rfl rfl (by unfold vp_in; decide) (fun H locs h => ?_)
  have h : Hp D A H0 H _ ((b, .inl (k 1, 113, .inl (upd (upd (upd (upd (upd (upd (upd (upd (upd (upd (upd (upd (upd (upd (upd f 0 (vp_nar .char 102)) 1 (vp_nar .char 97)) 2 (vp_nar .char 115)) 3 (vp_nar .char 116)) 4 (vp_nar .char 32)) 5 (vp_nar .char 115)) 6 (vp_nar .char 108)) 7 (vp_nar .char 111)) 8 (vp_nar .char 119)) 9 (vp_nar .char 32)) 10 (vp_nar .char 101)) 11 (vp_nar .char 97)) 12 (vp_nar .char 114)) 13 (vp_nar .char 108)) 14 (vp_nar .char 121)))) :: w) := h
  refine lv_dup C.1 C.2.1 dX12_init_102 rfl ?_
  refine lv_bipush (v := 15) C.1 C.2.1 dX12_init_103 (by decide) ?_
  refine lv_bipush (v := 32) C.1 C.2.1 dX12_init_105 (by decide) ?_
  refine x_cast C h 0 1 dX12_init_107 rfl rfl (by unfold vp_in; decide) (fun H locs h => ?_)
  have h : Hp D A H0 H _ ((b, .inl (k 1, 113, .inl (upd (upd (upd (upd (upd (upd (upd (upd (upd (upd (upd (upd (upd (upd (upd (upd f 0 (vp_nar .char 102)) 1 (vp_nar .char 97)) 2 (vp_nar .char 115)) 3 (vp_nar .char 116)) 4 (vp_nar .char 32)) 5 (vp_nar .char 115)) 6 (vp_nar .char 108)) 7 (vp_nar .char 111)) 8 (vp_nar .char 119)) 9 (vp_nar .char 32)) 10 (vp_nar .char 101)) 11 (vp_nar .char 97)) 12 (vp_nar .char 114)) 13 (vp_nar .char 108)) 14 (vp_nar .char 121)) 15 (vp_nar .char 32)))) :: w) := h
  refine lv_dup C.1 C.2.1 dX12_init_108 rfl ?_
  refine lv_bipush (v := 16) C.1 C.2.1 dX12_init_109 (by decide) ?_
  refine lv_bipush (v := 108) C.1 C.2.1 dX12_init_111 (by decide) ?_
  refine x_cast C h 0 1 dX12_init_113 rfl rfl (by unfold vp_in; decide) (fun H locs h => ?_)
  have h : Hp D A H0 H _ ((b, .inl (k 1, 113, .inl (upd (upd (upd (upd (upd (upd (upd (upd (upd (upd (upd (upd (upd (upd (upd (upd (upd f 0 (vp_nar .char 102)) 1 (vp_nar .char 97)) 2 (vp_nar .char 115)) 3 (vp_nar .char 116)) 4 (vp_nar .char 32)) 5 (vp_nar .char 115)) 6 (vp_nar .char 108)) 7 (vp_nar .char 111)) 8 (vp_nar .char 119)) 9 (vp_nar .char 32)) 10 (vp_nar .char 101)) 11 (vp_nar .char 97)) 12 (vp_nar .char 114)) 13 (vp_nar .char 108)) 14 (vp_nar .char 121)) 15 (vp_nar .char 32)) 16 (vp_nar .char 108)))) :: w) := h
  refine lv_dup C.1 C.2.1 dX12_init_114 rfl ?_
  refine lv_bipush (v := 17) C.1 C.2.1 dX12_init_115 (by decide) ?_
  refine lv_bipush (v := 97) C.1 C.2.1 dX12_init_117 (by decide) ?_
  refine x_cast C h 0 1 dX12_init_119 rfl rfl (by unfold vp_in; decide) (fun H locs h => ?_)
  have h : Hp D A H0 H _ ((b, .inl (k 1, 113, .inl (upd (upd (upd (upd (upd (upd (upd (upd (upd (upd (upd (upd (upd (upd (upd (upd (upd (upd f 0 (vp_nar .char 102)) 1 (vp_nar .char 97)) 2 (vp_nar .char 115)) 3 (vp_nar .char 116)) 4 (vp_nar .char 32)) 5 (vp_nar .char 115)) 6 (vp_nar .char 108)) 7 (vp_nar .char 111)) 8 (vp_nar .char 119)) 9 (vp_nar .char 32)) 10 (vp_nar .char 101)) 11 (vp_nar .char 97)) 12 (vp_nar .char 114)) 13 (vp_nar .char 108)) 14 (vp_nar .char 121)) 15 (vp_nar .char 32)) 16 (vp_nar .char 108)) 17 (vp_nar .char 97)))) :: w) := h
  refine lv_dup C.1 C.2.1 dX12_init_120 rfl ?_
  refine lv_bipush (v := 18) C.1 C.2.1 dX12_init_121 (by decide) ?_
  refine lv_bipush (v := 116) C.1 C.2.1 dX12_init_123 (by decide) ?_
  refine x_cast C h 0 1 dX12_init_125 rfl rfl (by unfold vp_in; decide) (fun H locs h => ?_)
  have h : Hp D A H0 H _ ((b, .inl (k 1, 113, .inl (upd (upd (upd (upd (upd (upd (upd (upd (upd (upd (upd (upd (upd (upd (upd (upd (upd (upd (upd f 0 (vp_nar .char 102)) 1 (vp_nar .char 97)) 2 (vp_nar .char 115)) 3 (vp_nar .char 116)) 4 (vp_nar .char 32)) 5 (vp_nar .char 115)) 6 (vp_nar .char 108)) 7 (vp_nar .char 111)) 8 (vp_nar .char 119)) 9 (vp_nar .char 32)) 10 (vp_nar .char 101)) 11 (vp_nar .char 97)) 12 (vp_nar .char 114)) 13 (vp_nar .char 108)) 14 (vp_nar .char 121)) 15 (vp_nar .char 32)) 16 (vp_nar .char 108)) 17 (vp_nar .char 97)) 18 (vp_nar .char 116)))) :: w) := h
  refine lv_dup C.1 C.2.1 dX12_init_126 rfl ?_
  refine lv_bipush (v := 19) C.1 C.2.1 dX12_init_127 (by decide) ?_
  refine lv_bipush (v := 101) C.1 C.2.1 dX12_init_129 (by decide) ?_
  refine x_cast C h 0 1 dX12_init_131 rfl rfl (by unfold vp_in; decide) (fun H locs h => ?_)
  have h : Hp D A H0 H _ ((b, .inl (k 1, 113, .inl (upd (upd (upd (upd (upd (upd (upd (upd (upd (upd (upd (upd (upd (upd (upd (upd (upd (upd (upd (upd f 0 (vp_nar .char 102)) 1 (vp_nar .char 97)) 2 (vp_nar .char 115)) 3 (vp_nar .char 116)) 4 (vp_nar .char 32)) 5 (vp_nar .char 115)) 6 (vp_nar .char 108)) 7 (vp_nar .char 111)) 8 (vp_nar .char 119)) 9 (vp_nar .char 32)) 10 (vp_nar .char 101)) 11 (vp_nar .char 97)) 12 (vp_nar .char 114)) 13 (vp_nar .char 108)) 14 (vp_nar .char 121)) 15 (vp_nar .char 32)) 16 (vp_nar .char 108)) 17 (vp_nar .char 97)) 18 (vp_nar .char 116)) 19 (vp_nar .char 101)))) :: w) := h
  exact kk H _ h
set_option maxHeartbeats 4000000 in
set_option maxRecDepth 100000 in
theorem sg3 {p : Program} {l : Launch} {e : Env} {R : Room} {s : State} {m : MethodId} {args : Array Value} {below : List Frame} {meth : Method} {c : Code} {H : Heap} {locs : List Loc} {cells slots : Nat} {Q : State → Prop} {ls : Array Slot} {D : va_G} {A : Nat → Prop} {k : Nat → ClassId} {H0 : Heap} {a : Nat} {fs : List Value} {w : va_W} {b : Nat} {rest : List Value} {f : Nat → Int32} (C : Cx p s m args c cX12_init RX12 wsX12_init D (TYs k) 2) (hmn : meth.name = "<init>") (h : Hp D A H0 H locs ((b, .inl (k 1, 113, .inl f)) :: w)) (kk : ∀ (H : Heap) (locs : List Loc), Hp D A H0 H locs ((b, .inl (k 1, 113, .inl (upd (upd (upd (upd (upd (upd (upd (upd (upd (upd (upd (upd (upd (upd (upd (upd (upd (upd (upd (upd f 20 (vp_nar .char 32)) 21 (vp_nar .char 114)) 22 (vp_nar .char 101)) 23 (vp_nar .char 118)) 24 (vp_nar .char 32)) 25 (vp_nar .char 101)) 26 (vp_nar .char 118)) 27 (vp_nar .char 101)) 28 (vp_nar .char 114)) 29 (vp_nar .char 121)) 30 (vp_nar .char 32)) 31 (vp_nar .char 119)) 32 (vp_nar .char 104)) 33 (vp_nar .char 101)) 34 (vp_nar .char 110)) 35 (vp_nar .char 32)) 36 (vp_nar .char 111)) 37 (vp_nar .char 102)) 38 (vp_nar .char 102)) 39 (vp_nar .char 32)))) :: w) → W p l e R s m args below meth c H locs cells slots Q (F0 m 252 ls (.ref b :: rest))) : W p l e R s m args below meth c H locs cells slots Q (F0 m 132 ls (.ref b :: rest)) := by
  refine lv_dup C.1 C.2.1 dX12_init_132 rfl ?_
  refine lv_bipush (v := 20) C.1 C.2.1 dX12_init_133 (by decide) ?_
  refine lv_bipush (v := 32) C.1 C.2.1 dX12_init_135 (by decide) ?_
  refine x_cast C h 0 1 dX12_init_137 rfl rfl (by unfold vp_in; decide) (fun H locs h => ?_)
  have h : Hp D A H0 H _ ((b, .inl (k 1, 113, .inl (upd f 20 (vp_nar .char 32)))) :: w) := h
  refine lv_dup C.1 C.2.1 dX12_init_138 rfl ?_
  refine lv_bipush (v := 21) C.1 C.2.1 dX12_init_139 (by decide) ?_
  refine lv_bipush (v := 114) C.1 C.2.1 dX12_init_141 (by decide) ?_
  refine x_cast C h 0 1 dX12_init_143 rfl rfl (by unfold vp_in; decide) (fun H locs h => ?_)
  have h : Hp D A H0 H _ ((b, .inl (k 1, 113, .inl (upd (upd f 20 (vp_nar .char 32)) 21 (vp_nar .char 114)))) :: w) := h
  refine lv_dup C.1 C.2.1 dX12_init_144 rfl ?_
  refine lv_bipush (v := 22) C.1 C.2.1 dX12_init_145 (by decide) ?_
  refine lv_bipush (v := 101) C.1 C.2.1 dX12_init_147 (by decide) ?_
  refine x_cast C h 0 1 dX12_init_149 rfl rfl (by unfold vp_in; decide) (fun H locs h => ?_)
  have h : Hp D A H0 H _ ((b, .inl (k 1, 113, .inl (upd (upd (upd f 20 (vp_nar .char 32)) 21 (vp_nar .char 114)) 22 (vp_nar .char 101)))) :: w) := h
  refine lv_dup C.1 C.2.1 dX12_init_150 rfl ?_
  refine lv_bipush (v := 23) C.1 C.2.1 dX12_init_151 (by decide) ?_
  refine lv_bipush (v := 118) C.1 C.2.1 dX12_init_153 (by decide) ?_
  refine x_cast C h 0 1 dX12_init_155 rfl rfl (by unfold vp_in; decide) (fun H locs h => ?_)
  have h : Hp D A H0 H _ ((b, .inl (k 1, 113, .inl (upd (upd (upd (upd f 20 (vp_nar .char 32)) 21 (vp_nar .char 114)) 22 (vp_nar .char 101)) 23 (vp_nar .char 118)))) :: w) := h
  refine lv_dup C.1 C.2.1 dX12_init_156 rfl ?_
  refine lv_bipush (v := 24) C.1 C.2.1 dX12_init_157 (by decide) ?_
  refine lv_bipush (v := 32) C.1 C.2.1 dX12_init_159 (by decide) ?_
  refine x_cast C h 0 1 dX12_init_161 rfl rfl (by unfold vp_in; decide) (fun H locs h => ?_)
  have h : Hp D A H0 H _ ((b, .inl (k 1, 113, .inl (upd (upd (upd (upd (upd f 20 (vp_nar .char 32)) 21 (vp_nar .char 114)) 22 (vp_nar .char 101)) 23 (vp_nar .char 118)) 24 (vp_nar .char 32)))) :: w) := h
  refine lv_dup C.1 C.2.1 dX12_init_162 rfl ?_
  refine lv_bipush (v := 25) C.1 C.2.1 dX12_init_163 (by decide) ?_
  refine lv_bipush (v := 101) C.1 C.2.1 dX12_init_165 (by decide) ?_
  refine x_cast C h 0 1 dX12_init_167 rfl rfl (by unfold vp_in; decide) (fun H locs h => ?_)
  have h : Hp D A H0 H _ ((b, .inl (k 1, 113, .inl (upd (upd (upd (upd (upd (upd f 20 (vp_nar .char 32)) 21 (vp_nar .char 114)) 22 (vp_nar .char 101)) 23 (vp_nar .char 118)) 24 (vp_nar .char 32)) 25 (vp_nar .char 101)))) :: w) := h
  refine lv_dup C.1 C.2.1 dX12_init_168 rfl ?_
  refine lv_bipush (v := 26) C.1 C.2.1 dX12_init_169 (by decide) ?_
  refine lv_bipush (v := 118) C.1 C.2.1 dX12_init_171 (by decide) ?_
  refine x_cast C h 0 1 dX12_init_173 rfl rfl (by unfold vp_in; decide) (fun H locs h => ?_)
  have h : Hp D A H0 H _ ((b, .inl (k 1, 113, .inl (upd (upd (upd (upd (upd (upd (upd f 20 (vp_nar .char 32)) 21 (vp_nar .char 114)) 22 (vp_nar .char 101)) 23 (vp_nar .char 118)) 24 (vp_nar .char 32)) 25 (vp_nar .char 101)) 26 (vp_nar .char 118)))) :: w) := h
  refine lv_dup C.1 C.2.1 dX12_init_174 rfl ?_
  refine lv_bipush (v := 27) C.1 C.2.1 dX12_init_175 (by decide) ?_
  refine lv_bipush (v := 101) C.1 C.2.1 dX12_init_177 (by decide) ?_
  refine x_cast C h 0 1 dX12_init_179 rfl rfl (by unfold vp_in; decide) (fun H locs h => ?_)
  have h : Hp D A H0 H _ ((b, .inl (k 1, 113, .inl (upd (upd (upd (upd (upd (upd (upd (upd f 20 (vp_nar .char 32)) 21 (vp_nar .char 114)) 22 (vp_nar .char 101)) 23 (vp_nar .char 118)) 24 (vp_nar .char 32)) 25 (vp_nar .char 101)) 26 (vp_nar .char 118)) 27 (vp_nar .char 101)))) :: w) := h
  refine lv_dup C.1 C.2.1 dX12_init_180 rfl ?_
  refine lv_bipush (v := 28) C.1 C.2.1 dX12_init_181 (by decide) ?_
  refine lv_bipush (v := 114) C.1 C.2.1 dX12_init_183 (by decide) ?_
  refine x_cast C h 0 1 dX12_init_185 rfl rfl (by unfold vp_in; decide) (fun H locs h => ?_)
  have h : Hp D A H0 H _ ((b, .inl (k 1, 113, .inl (upd (upd (upd (upd (upd (upd (upd (upd (upd f 20 (vp_nar .char 32)) 21 (vp_nar .char 114)) 22 (vp_nar .char 101)) 23 (vp_nar .char 118)) 24 (vp_nar .char 32)) 25 (vp_nar .char 101)) 26 (vp_nar .char 118)) 27 (vp_nar .char 101)) 28 (vp_nar .char 114)))) :: w) := h
  refine lv_dup C.1 C.2.1 dX12_init_186 rfl ?_
  refine lv_bipush (v := 29) C.1 C.2.1 dX12_init_187 (by decide) ?_
  refine lv_bipush (v := 121) C.1 C.2.1 dX12_init_189 (by decide) ?_
  refine x_cast C h 0 1 dX12_init_191 rfl rfl (by unfold vp_in; decide) (fun H locs h => ?_)
  have h : Hp D A H0 H _ ((b, .inl (k 1, 113, .inl (upd (upd (upd (upd (upd (upd (upd (upd (upd (upd f 20 (vp_nar .char 32)) 21 (vp_nar .char 114)) 22 (vp_nar .char 101)) 23 (vp_nar .char 118)) 24 (vp_nar .char 32)) 25 (vp_nar .char 101)) 26 (vp_nar .char 118)) 27 (vp_nar .char 101)) 28 (vp_nar .char 114)) 29 (vp_nar .char 121)))) :: w) := h
  refine lv_dup C.1 C.2.1 dX12_init_192 rfl ?_
  refine lv_bipush (v := 30) C.1 C.2.1 dX12_init_193 (by decide) ?_
  refine lv_bipush (v := 32) C.1 C.2.1 dX12_init_195 (by decide) ?_
  refine x_cast C h 0 1 dX12_init_197 rfl rfl (by unfold vp_in; decide) (fun H locs h => ?_)
  have h : Hp D A H0 H _ ((b, .inl (k 1, 113, .inl (upd (upd (upd (upd (upd (upd (upd (upd (upd (upd (upd f 20 (vp_nar .char 32)) 21 (vp_nar .char 114)) 22 (vp_nar .char 101)) 23 (vp_nar .char 118)) 24 (vp_nar .char 32)) 25 (vp_nar .char 101)) 26 (vp_nar .char 118)) 27 (vp_nar .char 101)) 28 (vp_nar .char 114)) 29 (vp_nar .char 121)) 30 (vp_nar .char 32)))) :: w) := h
  refine lv_dup C.1 C.2.1 dX12_init_198 rfl ?_
  refine lv_bipush (v := 31) C.1 C.2.1 dX12_init_199 (by decide) ?_
  refine lv_bipush (v := 119) C.1 C.2.1 dX12_init_201 (by decide) ?_
  refine x_cast C h 0 1 dX12_init_203 rfl rfl (by unfold vp_in; decide) (fun H locs h => ?_)
  have h : Hp D A H0 H _ ((b, .inl (k 1, 113, .inl (upd (upd (upd (upd (upd (upd (upd (upd (upd (upd (upd (upd f 20 (vp_nar .char 32)) 21 (vp_nar .char 114)) 22 (vp_nar .char 101)) 23 (vp_nar .char 118)) 24 (vp_nar .char 32)) 25 (vp_nar .char 101)) 26 (vp_nar .char 118)) 27 (vp_nar .char 101)) 28 (vp_nar .char 114)) 29 (vp_nar .char 121)) 30 (vp_nar .char 32)) 31 (vp_nar .char 119)))) :: w) := h
  refine lv_dup C.1 C.2.1 dX12_init_204 rfl ?_
  refine lv_bipush (v := 32) C.1 C.2.1 dX12_init_205 (by decide) ?_
  refine lv_bipush (v := 104) C.1 C.2.1 dX12_init_207 (by decide) ?_
  refine x_cast C h 0 1 dX12_init_209 rfl rfl (by unfold vp_in; decide) (fun H locs h => ?_)
  have h : Hp D A H0 H _ ((b, .inl (k 1, 113, .inl (upd (upd (upd (upd (upd (upd (upd (upd (upd (upd (upd (upd (upd f 20 (vp_nar .char 32)) 21 (vp_nar .char 114)) 22 (vp_nar .char 101)) 23 (vp_nar .char 118)) 24 (vp_nar .char 32)) 25 (vp_nar .char 101)) 26 (vp_nar .char 118)) 27 (vp_nar .char 101)) 28 (vp_nar .char 114)) 29 (vp_nar .char 121)) 30 (vp_nar .char 32)) 31 (vp_nar .char 119)) 32 (vp_nar .char 104)))) :: w) := h
  refine lv_dup C.1 C.2.1 dX12_init_210 rfl ?_
  refine lv_bipush (v := 33) C.1 C.2.1 dX12_init_211 (by decide) ?_
  refine lv_bipush (v := 101) C.1 C.2.1 dX12_init_213 (by decide) ?_
  refine x_cast C h 0 1 dX12_init_215 rfl rfl (by unfold vp_in; decide) (fun H locs h => ?_)
  have h : Hp D A H0 H _ ((b, .inl (k 1, 113, .inl (upd (upd (upd (upd (upd (upd (upd (upd (upd (upd (upd (upd (upd (upd f 20 (vp_nar .char 32)) 21 (vp_nar .char 114)) 22 (vp_nar .char 101)) 23 (vp_nar .char 118)) 24 (vp_nar .char 32)) 25 (vp_nar .char 101)) 26 (vp_nar .char 118)) 27 (vp_nar .char 101)) 28 (vp_nar .char 114)) 29 (vp_nar .char 121)) 30 (vp_nar .char 32)) 31 (vp_nar .char 119)) 32 (vp_nar .char 104)) 33 (vp_nar .char 101)))) :: w) := h
  refine lv_dup C.1 C.2.1 dX12_init_216 rfl ?_
  refine lv_bipush (v := 34) C.1 C.2.1 dX12_init_217 (by decide) ?_
  refine lv_bipush (v := 110) C.1 C.2.1 dX12_init_219 (by decide) ?_
  refine x_cast C h 0 1 dX12_init_221 rfl rfl (by unfold vp_in; decide) (fun H locs h => ?_)
  have h : Hp D A H0 H _ ((b, .inl (k 1, 113, .inl (upd (upd (upd (upd (upd (upd (upd (upd (upd (upd (upd (upd (upd (upd (upd f 20 (vp_nar .char 32)) 21 (vp_nar .char 114)) 22 (vp_nar .char 101)) 23 (vp_nar .char 118)) 24 (vp_nar .char 32)) 25 (vp_nar .char 101)) 26 (vp_nar .char 118)) 27 (vp_nar .char 101)) 28 (vp_nar .char 114)) 29 (vp_nar .char 121)) 30 (vp_nar .char 32)) 31 (vp_nar .char 119)) 32 (vp_nar .char 104)) 33 (vp_nar .char 101)) 34 (vp_nar .char 110)))) :: w) := h
  refine lv_dup C.1 C.2.1 dX12_init_222 rfl ?_
  refine lv_bipush (v := 35) C.1 C.2.1 dX12_init_223 (by decide) ?_
  refine lv_bipush (v := 32) C.1 C.2.1 dX12_init_225 (by decide) ?_
  refine x_cast C h 0 1 dX12_init_227 rfl rfl (by unfold vp_in; decide) (fun H locs h => ?_)
  have h : Hp D A H0 H _ ((b, .inl (k 1, 113, .inl (upd (upd (upd (upd (upd (upd (upd (upd (upd (upd (upd (upd (upd (upd (upd (upd f 20 (vp_nar .char 32)) 21 (vp_nar .char 114)) 22 (vp_nar .char 101)) 23 (vp_nar .char 118)) 24 (vp_nar .char 32)) 25 (vp_nar .char 101)) 26 (vp_nar .char 118)) 27 (vp_nar .char 101)) 28 (vp_nar .char 114)) 29 (vp_nar .char 121)) 30 (vp_nar .char 32)) 31 (vp_nar .char 119)) 32 (vp_nar .char 104)) 33 (vp_nar .char 101)) 34 (vp_nar .char 110)) 35 (vp_nar .char 32)))) :: w) := h
  refine lv_dup C.1 C.2.1 dX12_init_228 rfl ?_
  refine lv_bipush (v := 36) C.1 C.2.1 dX12_init_229 (by decide) ?_
  refine lv_bipush (v := 111) C.1 C.2.1 dX12_init_231 (by decide) ?_
  refine x_cast C h 0 1 dX12_init_233 rfl rfl (by unfold vp_in; decide) (fun H locs h => ?_)
  have h : Hp D A H0 H _ ((b, .inl (k 1, 113, .inl (upd (upd (upd (upd (upd (upd (upd (upd (upd (upd (upd (upd (upd (upd (upd (upd (upd f 20 (vp_nar .char 32)) 21 (vp_nar .char 114)) 22 (vp_nar .char 101)) 23 (vp_nar .char 118)) 24 (vp_nar .char 32)) 25 (vp_nar .char 101)) 26 (vp_nar .char 118)) 27 (vp_nar .char 101)) 28 (vp_nar .char 114)) 29 (vp_nar .char 121)) 30 (vp_nar .char 32)) 31 (vp_nar .char 119)) 32 (vp_nar .char 104)) 33 (vp_nar .char 101)) 34 (vp_nar .char 110)) 35 (vp_nar .char 32)) 36 (vp_nar .char 111)))) :: w) := h
  refine lv_dup C.1 C.2.1 dX12_init_234 rfl ?_
  refine lv_bipush (v := 37) C.1 C.2.1 dX12_init_235 (by decide) ?_
  refine lv_bipush (v := 102) C.1 C.2.1 dX12_init_237 (by decide) ?_
  refine x_cast C h 0 1 dX12_init_239 rfl rfl (by unfold vp_in; decide) (fun H locs h => ?_)
  have h : Hp D A H0 H _ ((b, .inl (k 1, 113, .inl (upd (upd (upd (upd (upd (upd (upd (upd (upd (upd (upd (upd (upd (upd (upd (upd (upd (upd f 20 (vp_nar .char 32)) 21 (vp_nar .char 114)) 22 (vp_nar .char 101)) 23 (vp_nar .char 118)) 24 (vp_nar .char 32)) 25 (vp_nar .char 101)) 26 (vp_nar .char 118)) 27 (vp_nar .char 101)) 28 (vp_nar .char 114)) 29 (vp_nar .char 121)) 30 (vp_nar .char 32)) 31 (vp_nar .char 119)) 32 (vp_nar .char 104)) 33 (vp_nar .char 101)) 34 (vp_nar .char 110)) 35 (vp_nar .char 32)) 36 (vp_nar .char 111)) 37 (vp_nar .char 102)))) :: w) := h
  refine lv_dup C.1 C.2.1 dX12_init_240 rfl ?_
  refine lv_bipush (v := 38) C.1 C.2.1 dX12_init_241 (by decide) ?_
  refine lv_bipush (v := 102) C.1 C.2.1 dX12_init_243 (by decide) ?_
  refine x_cast C h 0 1 dX12_init_245 rfl rfl (by unfold vp_in; decide) (fun H locs h => ?_)
  have h : Hp D A H0 H _ ((b, .inl (k 1, 113, .inl (upd (upd (upd (upd (upd (upd (upd (upd (upd (upd (upd (upd (upd (upd (upd (upd (upd (upd (upd f 20 (vp_nar .char 32)) 21 (vp_nar .char 114)) 22 (vp_nar .char 101)) 23 (vp_nar .char 118)) 24 (vp_nar .char 32)) 25 (vp_nar .char 101)) 26 (vp_nar .char 118)) 27 (vp_nar .char 101)) 28 (vp_nar .char 114)) 29 (vp_nar .char 121)) 30 (vp_nar .char 32)) 31 (vp_nar .char 119)) 32 (vp_nar .char 104)) 33 (vp_nar .char 101)) 34 (vp_nar .char 110)) 35 (vp_nar .char 32)) 36 (vp_nar .char 111)) 37 (vp_nar .char 102)) 38 (vp_nar .char 102)))) :: w) := h
  refine lv_dup C.1 C.2.1 dX12_init_246 rfl ?_
  refine lv_bipush (v := 39) C.1 C.2.1 dX12_init_247 (by decide) ?_
  refine lv_bipush (v := 32) C.1 C.2.1 dX12_init_249 (by decide) ?_
  refine x_cast C h 0 1 dX12_init_251 rfl rfl (by unfold vp_in; decide) (fun H locs h => ?_)
  have h : Hp D A H0 H _ ((b, .inl (k 1, 113, .inl (upd (upd (upd (upd (upd (upd (upd (upd (upd (upd (upd (upd (upd (upd (upd (upd (upd (upd (upd (upd f 20 (vp_nar .char 32)) 21 (vp_nar .char 114)) 22 (vp_nar .char 101)) 23 (vp_nar .char 118)) 24 (vp_nar .char 32)) 25 (vp_nar .char 101)) 26 (vp_nar .char 118)) 27 (vp_nar .char 101)) 28 (vp_nar .char 114)) 29 (vp_nar .char 121)) 30 (vp_nar .char 32)) 31 (vp_nar .char 119)) 32 (vp_nar .char 104)) 33 (vp_nar .char 101)) 34 (vp_nar .char 110)) 35 (vp_nar .char 32)) 36 (vp_nar .char 111)) 37 (vp_nar .char 102)) 38 (vp_nar .char 102)) 39 (vp_nar .char 32)))) :: w) := h
  exact kk H _ h
set_option maxHeartbeats 4000000 in
set_option maxRecDepth 100000 in
theorem sg4 {p : Program} {l : Launch} {e : Env} {R : Room} {s : State} {m : MethodId} {args : Array Value} {below : List Frame} {meth : Method} {c : Code} {H : Heap} {locs : List Loc} {cells slots : Nat} {Q : State → Prop} {ls : Array Slot} {D : va_G} {A : Nat → Prop} {k : Nat → ClassId} {H0 : Heap} {a : Nat} {fs : List Value} {w : va_W} {b : Nat} {rest : List Value} {f : Nat → Int32} (C : Cx p s m args c cX12_init RX12 wsX12_init D (TYs k) 2) (hmn : meth.name = "<init>") (h : Hp D A H0 H locs ((b, .inl (k 1, 113, .inl f)) :: w)) (kk : ∀ (H : Heap) (locs : List Loc), Hp D A H0 H locs ((b, .inl (k 1, 113, .inl (upd (upd (upd (upd (upd (upd (upd (upd (upd (upd (upd (upd (upd (upd (upd (upd (upd (upd (upd (upd f 40 (vp_nar .char 111)) 41 (vp_nar .char 118)) 42 (vp_nar .char 101)) 43 (vp_nar .char 114)) 44 (vp_nar .char 32)) 45 (vp_nar .char 105)) 46 (vp_nar .char 116)) 47 (vp_nar .char 101)) 48 (vp_nar .char 114)) 49 (vp_nar .char 32)) 50 (vp_nar .char 112)) 51 (vp_nar .char 108)) 52 (vp_nar .char 121)) 53 (vp_nar .char 32)) 54 (vp_nar .char 99)) 55 (vp_nar .char 104)) 56 (vp_nar .char 117)) 57 (vp_nar .char 110)) 58 (vp_nar .char 107)) 59 (vp_nar .char 32)))) :: w) → W p l e R s m args below meth c H locs cells slots Q (F0 m 372 ls (.ref b :: rest))) : W p l e R s m args below meth c H locs cells slots Q (F0 m 252 ls (.ref b :: rest)) := by
  refine lv_dup C.1 C.2.1 dX12_init_252 rfl ?_
  refine lv_bipush (v := 40) C.1 C.2.1 dX12_init_253 (by decide) ?_
  refine lv_bipush (v := 111) C.1 C.2.1 dX12_init_255 (by decide) ?_
  refine x_cast C h 0 1 dX12_init_257 rfl rfl (by unfold vp_in; decide) (fun H locs h => ?_)
  have h : Hp D A H0 H _ ((b, .inl (k 1, 113, .inl (upd f 40 (vp_nar .char 111)))) :: w) := h
  refine lv_dup C.1 C.2.1 dX12_init_258 rfl ?_
  refine lv_bipush (v := 41) C.1 C.2.1 dX12_init_259 (by decide) ?_
  refine lv_bipush (v := 118) C.1 C.2.1 dX12_init_261 (by decide) ?_
  refine x_cast C h 0 1 dX12_init_263 rfl rfl (by unfold vp_in; decide) (fun H locs h => ?_)
  have h : Hp D A H0 H _ ((b, .inl (k 1, 113, .inl (upd (upd f 40 (vp_nar .char 111)) 41 (vp_nar .char 118)))) :: w) := h
  refine lv_dup C.1 C.2.1 dX12_init_264 rfl ?_
  refine lv_bipush (v := 42) C.1 C.2.1 dX12_init_265 (by decide) ?_
  refine lv_bipush (v := 101) C.1 C.2.1 dX12_init_267 (by decide) ?_
  refine x_cast C h 0 1 dX12_init_269 rfl rfl (by unfold vp_in; decide) (fun H locs h => ?_)
  have h : Hp D A H0 H _ ((b, .inl (k 1, 113, .inl (upd (upd (upd f 40 (vp_nar .char 111)) 41 (vp_nar .char 118)) 42 (vp_nar .char 101)))) :: w) := h
  refine lv_dup C.1 C.2.1 dX12_init_270 rfl ?_
  refine lv_bipush (v := 43) C.1 C.2.1 dX12_init_271 (by decide) ?_
  refine lv_bipush (v := 114) C.1 C.2.1 dX12_init_273 (by decide) ?_
  refine x_cast C h 0 1 dX12_init_275 rfl rfl (by unfold vp_in; decide) (fun H locs h => ?_)
  have h : Hp D A H0 H _ ((b, .inl (k 1, 113, .inl (upd (upd (upd (upd f 40 (vp_nar .char 111)) 41 (vp_nar .char 118)) 42 (vp_nar .char 101)) 43 (vp_nar .char 114)))) :: w) := h
  refine lv_dup C.1 C.2.1 dX12_init_276 rfl ?_
  refine lv_bipush (v := 44) C.1 C.2.1 dX12_init_277 (by decide) ?_
  refine lv_bipush (v := 32) C.1 C.2.1 dX12_init_279 (by decide) ?_
  refine x_cast C h 0 1 dX12_init_281 rfl rfl (by unfold vp_in; decide) (fun H locs h => ?_)
  have h : Hp D A H0 H _ ((b, .inl (k 1, 113, .inl (upd (upd (upd (upd (upd f 40 (vp_nar .char 111)) 41 (vp_nar .char 118)) 42 (vp_nar .char 101)) 43 (vp_nar .char 114)) 44 (vp_nar .char 32)))) :: w) := h
  refine lv_dup C.1 C.2.1 dX12_init_282 rfl ?_
  refine lv_bipush (v := 45) C.1 C.2.1 dX12_init_283 (by decide) ?_
  refine lv_bipush (v := 105) C.1 C.2.1 dX12_init_285 (by decide) ?_
  refine x_cast C h 0 1 dX12_init_287 rfl rfl (by unfold vp_in; decide) (fun H locs h => ?_)
  have h : Hp D A H0 H _ ((b, .inl (k 1, 113, .inl (upd (upd (upd (upd (upd (upd f 40 (vp_nar .char 111)) 41 (vp_nar .char 118)) 42 (vp_nar .char 101)) 43 (vp_nar .char 114)) 44 (vp_nar .char 32)) 45 (vp_nar .char 105)))) :: w) := h
  refine lv_dup C.1 C.2.1 dX12_init_288 rfl ?_
  refine lv_bipush (v := 46) C.1 C.2.1 dX12_init_289 (by decide) ?_
  refine lv_bipush (v := 116) C.1 C.2.1 dX12_init_291 (by decide) ?_
  refine x_cast C h 0 1 dX12_init_293 rfl rfl (by unfold vp_in; decide) (fun H locs h => ?_)
  have h : Hp D A H0 H _ ((b, .inl (k 1, 113, .inl (upd (upd (upd (upd (upd (upd (upd f 40 (vp_nar .char 111)) 41 (vp_nar .char 118)) 42 (vp_nar .char 101)) 43 (vp_nar .char 114)) 44 (vp_nar .char 32)) 45 (vp_nar .char 105)) 46 (vp_nar .char 116)))) :: w) := h
  refine lv_dup C.1 C.2.1 dX12_init_294 rfl ?_
  refine lv_bipush (v := 47) C.1 C.2.1 dX12_init_295 (by decide) ?_
  refine lv_bipush (v := 101) C.1 C.2.1 dX12_init_297 (by decide) ?_
  refine x_cast C h 0 1 dX12_init_299 rfl rfl (by unfold vp_in; decide) (fun H locs h => ?_)
  have h : Hp D A H0 H _ ((b, .inl (k 1, 113, .inl (upd (upd (upd (upd (upd (upd (upd (upd f 40 (vp_nar .char 111)) 41 (vp_nar .char 118)) 42 (vp_nar .char 101)) 43 (vp_nar .char 114)) 44 (vp_nar .char 32)) 45 (vp_nar .char 105)) 46 (vp_nar .char 116)) 47 (vp_nar .char 101)))) :: w) := h
  refine lv_dup C.1 C.2.1 dX12_init_300 rfl ?_
  refine lv_bipush (v := 48) C.1 C.2.1 dX12_init_301 (by decide) ?_
  refine lv_bipush (v := 114) C.1 C.2.1 dX12_init_303 (by decide) ?_
  refine x_cast C h 0 1 dX12_init_305 rfl rfl (by unfold vp_in; decide) (fun H locs h => ?_)
  have h : Hp D A H0 H _ ((b, .inl (k 1, 113, .inl (upd (upd (upd (upd (upd (upd (upd (upd (upd f 40 (vp_nar .char 111)) 41 (vp_nar .char 118)) 42 (vp_nar .char 101)) 43 (vp_nar .char 114)) 44 (vp_nar .char 32)) 45 (vp_nar .char 105)) 46 (vp_nar .char 116)) 47 (vp_nar .char 101)) 48 (vp_nar .char 114)))) :: w) := h
  refine lv_dup C.1 C.2.1 dX12_init_306 rfl ?_
  refine lv_bipush (v := 49) C.1 C.2.1 dX12_init_307 (by decide) ?_
  refine lv_bipush (v := 32) C.1 C.2.1 dX12_init_309 (by decide) ?_
  refine x_cast C h 0 1 dX12_init_311 rfl rfl (by unfold vp_in; decide) (fun H locs h => ?_)
  have h : Hp D A H0 H _ ((b, .inl (k 1, 113, .inl (upd (upd (upd (upd (upd (upd (upd (upd (upd (upd f 40 (vp_nar .char 111)) 41 (vp_nar .char 118)) 42 (vp_nar .char 101)) 43 (vp_nar .char 114)) 44 (vp_nar .char 32)) 45 (vp_nar .char 105)) 46 (vp_nar .char 116)) 47 (vp_nar .char 101)) 48 (vp_nar .char 114)) 49 (vp_nar .char 32)))) :: w) := h
  refine lv_dup C.1 C.2.1 dX12_init_312 rfl ?_
  refine lv_bipush (v := 50) C.1 C.2.1 dX12_init_313 (by decide) ?_
  refine lv_bipush (v := 112) C.1 C.2.1 dX12_init_315 (by decide) ?_
  refine x_cast C h 0 1 dX12_init_317 rfl rfl (by unfold vp_in; decide) (fun H locs h => ?_)
  have h : Hp D A H0 H _ ((b, .inl (k 1, 113, .inl (upd (upd (upd (upd (upd (upd (upd (upd (upd (upd (upd f 40 (vp_nar .char 111)) 41 (vp_nar .char 118)) 42 (vp_nar .char 101)) 43 (vp_nar .char 114)) 44 (vp_nar .char 32)) 45 (vp_nar .char 105)) 46 (vp_nar .char 116)) 47 (vp_nar .char 101)) 48 (vp_nar .char 114)) 49 (vp_nar .char 32)) 50 (vp_nar .char 112)))) :: w) := h
  refine lv_dup C.1 C.2.1 dX12_init_318 rfl ?_
  refine lv_bipush (v := 51) C.1 C.2.1 dX12_init_319 (by decide) ?_
  refine lv_bipush (v := 108) C.1 C.2.1 dX12_init_321 (by decide) ?_
  refine x_cast C h 0 1 dX12_init_323 rfl rfl (by unfold vp_in; decide) (fun H locs h => ?_)
  have h : Hp D A H0 H _ ((b, .inl (k 1, 113, .inl (upd (upd (upd (upd (upd (upd (upd (upd (upd (upd (upd (upd f 40 (vp_nar .char 111)) 41 (vp_nar .char 118)) 42 (vp_nar .char 101)) 43 (vp_nar .char 114)) 44 (vp_nar .char 32)) 45 (vp_nar .char 105)) 46 (vp_nar .char 116)) 47 (vp_nar .char 101)) 48 (vp_nar .char 114)) 49 (vp_nar .char 32)) 50 (vp_nar .char 112)) 51 (vp_nar .char 108)))) :: w) := h
  refine lv_dup C.1 C.2.1 dX12_init_324 rfl ?_
  refine lv_bipush (v := 52) C.1 C.2.1 dX12_init_325 (by decide) ?_
  refine lv_bipush (v := 121) C.1 C.2.1 dX12_init_327 (by decide) ?_
  refine x_cast C h 0 1 dX12_init_329 rfl rfl (by unfold vp_in; decide) (fun H locs h => ?_)
  have h : Hp D A H0 H _ ((b, .inl (k 1, 113, .inl (upd (upd (upd (upd (upd (upd (upd (upd (upd (upd (upd (upd (upd f 40 (vp_nar .char 111)) 41 (vp_nar .char 118)) 42 (vp_nar .char 101)) 43 (vp_nar .char 114)) 44 (vp_nar .char 32)) 45 (vp_nar .char 105)) 46 (vp_nar .char 116)) 47 (vp_nar .char 101)) 48 (vp_nar .char 114)) 49 (vp_nar .char 32)) 50 (vp_nar .char 112)) 51 (vp_nar .char 108)) 52 (vp_nar .char 121)))) :: w) := h
  refine lv_dup C.1 C.2.1 dX12_init_330 rfl ?_
  refine lv_bipush (v := 53) C.1 C.2.1 dX12_init_331 (by decide) ?_
  refine lv_bipush (v := 32) C.1 C.2.1 dX12_init_333 (by decide) ?_
  refine x_cast C h 0 1 dX12_init_335 rfl rfl (by unfold vp_in; decide) (fun H locs h => ?_)
  have h : Hp D A H0 H _ ((b, .inl (k 1, 113, .inl (upd (upd (upd (upd (upd (upd (upd (upd (upd (upd (upd (upd (upd (upd f 40 (vp_nar .char 111)) 41 (vp_nar .char 118)) 42 (vp_nar .char 101)) 43 (vp_nar .char 114)) 44 (vp_nar .char 32)) 45 (vp_nar .char 105)) 46 (vp_nar .char 116)) 47 (vp_nar .char 101)) 48 (vp_nar .char 114)) 49 (vp_nar .char 32)) 50 (vp_nar .char 112)) 51 (vp_nar .char 108)) 52 (vp_nar .char 121)) 53 (vp_nar .char 32)))) :: w) := h
  refine lv_dup C.1 C.2.1 dX12_init_336 rfl ?_
  refine lv_bipush (v := 54) C.1 C.2.1 dX12_init_337 (by decide) ?_
  refine lv_bipush (v := 99) C.1 C.2.1 dX12_init_339 (by decide) ?_
  refine x_cast C h 0 1 dX12_init_341 rfl rfl (by unfold vp_in; decide) (fun H locs h => ?_)
  have h : Hp D A H0 H _ ((b, .inl (k 1, 113, .inl (upd (upd (upd (upd (upd (upd (upd (upd (upd (upd (upd (upd (upd (upd (upd f 40 (vp_nar .char 111)) 41 (vp_nar .char 118)) 42 (vp_nar .char 101)) 43 (vp_nar .char 114)) 44 (vp_nar .char 32)) 45 (vp_nar .char 105)) 46 (vp_nar .char 116)) 47 (vp_nar .char 101)) 48 (vp_nar .char 114)) 49 (vp_nar .char 32)) 50 (vp_nar .char 112)) 51 (vp_nar .char 108)) 52 (vp_nar .char 121)) 53 (vp_nar .char 32)) 54 (vp_nar .char 99)))) :: w) := h
  refine lv_dup C.1 C.2.1 dX12_init_342 rfl ?_
  refine lv_bipush (v := 55) C.1 C.2.1 dX12_init_343 (by decide) ?_
  refine lv_bipush (v := 104) C.1 C.2.1 dX12_init_345 (by decide) ?_
  refine x_cast C h 0 1 dX12_init_347 rfl rfl (by unfold vp_in; decide) (fun H locs h => ?_)
  have h : Hp D A H0 H _ ((b, .inl (k 1, 113, .inl (upd (upd (upd (upd (upd (upd (upd (upd (upd (upd (upd (upd (upd (upd (upd (upd f 40 (vp_nar .char 111)) 41 (vp_nar .char 118)) 42 (vp_nar .char 101)) 43 (vp_nar .char 114)) 44 (vp_nar .char 32)) 45 (vp_nar .char 105)) 46 (vp_nar .char 116)) 47 (vp_nar .char 101)) 48 (vp_nar .char 114)) 49 (vp_nar .char 32)) 50 (vp_nar .char 112)) 51 (vp_nar .char 108)) 52 (vp_nar .char 121)) 53 (vp_nar .char 32)) 54 (vp_nar .char 99)) 55 (vp_nar .char 104)))) :: w) := h
  refine lv_dup C.1 C.2.1 dX12_init_348 rfl ?_
  refine lv_bipush (v := 56) C.1 C.2.1 dX12_init_349 (by decide) ?_
  refine lv_bipush (v := 117) C.1 C.2.1 dX12_init_351 (by decide) ?_
  refine x_cast C h 0 1 dX12_init_353 rfl rfl (by unfold vp_in; decide) (fun H locs h => ?_)
  have h : Hp D A H0 H _ ((b, .inl (k 1, 113, .inl (upd (upd (upd (upd (upd (upd (upd (upd (upd (upd (upd (upd (upd (upd (upd (upd (upd f 40 (vp_nar .char 111)) 41 (vp_nar .char 118)) 42 (vp_nar .char 101)) 43 (vp_nar .char 114)) 44 (vp_nar .char 32)) 45 (vp_nar .char 105)) 46 (vp_nar .char 116)) 47 (vp_nar .char 101)) 48 (vp_nar .char 114)) 49 (vp_nar .char 32)) 50 (vp_nar .char 112)) 51 (vp_nar .char 108)) 52 (vp_nar .char 121)) 53 (vp_nar .char 32)) 54 (vp_nar .char 99)) 55 (vp_nar .char 104)) 56 (vp_nar .char 117)))) :: w) := h
  refine lv_dup C.1 C.2.1 dX12_init_354 rfl ?_
  refine lv_bipush (v := 57) C.1 C.2.1 dX12_init_355 (by decide) ?_
  refine lv_bipush (v := 110) C.1 C.2.1 dX12_init_357 (by decide) ?_
  refine x_cast C h 0 1 dX12_init_359 rfl rfl (by unfold vp_in; decide) (fun H locs h => ?_)
  have h : Hp D A H0 H _ ((b, .inl (k 1, 113, .inl (upd (upd (upd (upd (upd (upd (upd (upd (upd (upd (upd (upd (upd (upd (upd (upd (upd (upd f 40 (vp_nar .char 111)) 41 (vp_nar .char 118)) 42 (vp_nar .char 101)) 43 (vp_nar .char 114)) 44 (vp_nar .char 32)) 45 (vp_nar .char 105)) 46 (vp_nar .char 116)) 47 (vp_nar .char 101)) 48 (vp_nar .char 114)) 49 (vp_nar .char 32)) 50 (vp_nar .char 112)) 51 (vp_nar .char 108)) 52 (vp_nar .char 121)) 53 (vp_nar .char 32)) 54 (vp_nar .char 99)) 55 (vp_nar .char 104)) 56 (vp_nar .char 117)) 57 (vp_nar .char 110)))) :: w) := h
  refine lv_dup C.1 C.2.1 dX12_init_360 rfl ?_
  refine lv_bipush (v := 58) C.1 C.2.1 dX12_init_361 (by decide) ?_
  refine lv_bipush (v := 107) C.1 C.2.1 dX12_init_363 (by decide) ?_
  refine x_cast C h 0 1 dX12_init_365 rfl rfl (by unfold vp_in; decide) (fun H locs h => ?_)
  have h : Hp D A H0 H _ ((b, .inl (k 1, 113, .inl (upd (upd (upd (upd (upd (upd (upd (upd (upd (upd (upd (upd (upd (upd (upd (upd (upd (upd (upd f 40 (vp_nar .char 111)) 41 (vp_nar .char 118)) 42 (vp_nar .char 101)) 43 (vp_nar .char 114)) 44 (vp_nar .char 32)) 45 (vp_nar .char 105)) 46 (vp_nar .char 116)) 47 (vp_nar .char 101)) 48 (vp_nar .char 114)) 49 (vp_nar .char 32)) 50 (vp_nar .char 112)) 51 (vp_nar .char 108)) 52 (vp_nar .char 121)) 53 (vp_nar .char 32)) 54 (vp_nar .char 99)) 55 (vp_nar .char 104)) 56 (vp_nar .char 117)) 57 (vp_nar .char 110)) 58 (vp_nar .char 107)))) :: w) := h
  refine lv_dup C.1 C.2.1 dX12_init_366 rfl ?_
  refine lv_bipush (v := 59) C.1 C.2.1 dX12_init_367 (by decide) ?_
  refine lv_bipush (v := 32) C.1 C.2.1 dX12_init_369 (by decide) ?_
  refine x_cast C h 0 1 dX12_init_371 rfl rfl (by unfold vp_in; decide) (fun H locs h => ?_)
  have h : Hp D A H0 H _ ((b, .inl (k 1, 113, .inl (upd (upd (upd (upd (upd (upd (upd (upd (upd (upd (upd (upd (upd (upd (upd (upd (upd (upd (upd (upd f 40 (vp_nar .char 111)) 41 (vp_nar .char 118)) 42 (vp_nar .char 101)) 43 (vp_nar .char 114)) 44 (vp_nar .char 32)) 45 (vp_nar .char 105)) 46 (vp_nar .char 116)) 47 (vp_nar .char 101)) 48 (vp_nar .char 114)) 49 (vp_nar .char 32)) 50 (vp_nar .char 112)) 51 (vp_nar .char 108)) 52 (vp_nar .char 121)) 53 (vp_nar .char 32)) 54 (vp_nar .char 99)) 55 (vp_nar .char 104)) 56 (vp_nar .char 117)) 57 (vp_nar .char 110)) 58 (vp_nar .char 107)) 59 (vp_nar .char 32)))) :: w) := h
  exact kk H _ h
set_option maxHeartbeats 4000000 in
set_option maxRecDepth 100000 in
theorem sg5 {p : Program} {l : Launch} {e : Env} {R : Room} {s : State} {m : MethodId} {args : Array Value} {below : List Frame} {meth : Method} {c : Code} {H : Heap} {locs : List Loc} {cells slots : Nat} {Q : State → Prop} {ls : Array Slot} {D : va_G} {A : Nat → Prop} {k : Nat → ClassId} {H0 : Heap} {a : Nat} {fs : List Value} {w : va_W} {b : Nat} {rest : List Value} {f : Nat → Int32} (C : Cx p s m args c cX12_init RX12 wsX12_init D (TYs k) 2) (hmn : meth.name = "<init>") (h : Hp D A H0 H locs ((b, .inl (k 1, 113, .inl f)) :: w)) (kk : ∀ (H : Heap) (locs : List Loc), Hp D A H0 H locs ((b, .inl (k 1, 113, .inl (upd (upd (upd (upd (upd (upd (upd (upd (upd (upd (upd (upd (upd (upd (upd (upd (upd (upd (upd (upd f 60 (vp_nar .char 105)) 61 (vp_nar .char 110)) 62 (vp_nar .char 115)) 63 (vp_nar .char 105)) 64 (vp_nar .char 100)) 65 (vp_nar .char 101)) 66 (vp_nar .char 32)) 67 (vp_nar .char 114)) 68 (vp_nar .char 111)) 69 (vp_nar .char 116)) 70 (vp_nar .char 32)) 71 (vp_nar .char 115)) 72 (vp_nar .char 116)) 73 (vp_nar .char 114)) 74 (vp_nar .char 117)) 75 (vp_nar .char 99)) 76 (vp_nar .char 116)) 77 (vp_nar .char 32)) 78 (vp_nar .char 109)) 79 (vp_nar .char 97)))) :: w) → W p l e R s m args below meth c H locs cells slots Q (F0 m 492 ls (.ref b :: rest))) : W p l e R s m args below meth c H locs cells slots Q (F0 m 372 ls (.ref b :: rest)) := by
  refine lv_dup C.1 C.2.1 dX12_init_372 rfl ?_
  refine lv_bipush (v := 60) C.1 C.2.1 dX12_init_373 (by decide) ?_
  refine lv_bipush (v := 105) C.1 C.2.1 dX12_init_375 (by decide) ?_
  refine x_cast C h 0 1 dX12_init_377 rfl rfl (by unfold vp_in; decide) (fun H locs h => ?_)
  have h : Hp D A H0 H _ ((b, .inl (k 1, 113, .inl (upd f 60 (vp_nar .char 105)))) :: w) := h
  refine lv_dup C.1 C.2.1 dX12_init_378 rfl ?_
  refine lv_bipush (v := 61) C.1 C.2.1 dX12_init_379 (by decide) ?_
  refine lv_bipush (v := 110) C.1 C.2.1 dX12_init_381 (by decide) ?_
  refine x_cast C h 0 1 dX12_init_383 rfl rfl (by unfold vp_in; decide) (fun H locs h => ?_)
  have h : Hp D A H0 H _ ((b, .inl (k 1, 113, .inl (upd (upd f 60 (vp_nar .char 105)) 61 (vp_nar .char 110)))) :: w) := h
  refine lv_dup C.1 C.2.1 dX12_init_384 rfl ?_
  refine lv_bipush (v := 62) C.1 C.2.1 dX12_init_385 (by decide) ?_
  refine lv_bipush (v := 115) C.1 C.2.1 dX12_init_387 (by decide) ?_
  refine x_cast C h 0 1 dX12_init_389 rfl rfl (by unfold vp_in; decide) (fun H locs h => ?_)
  have h : Hp D A H0 H _ ((b, .inl (k 1, 113, .inl (upd (upd (upd f 60 (vp_nar .char 105)) 61 (vp_nar .char 110)) 62 (vp_nar .char 115)))) :: w) := h
  refine lv_dup C.1 C.2.1 dX12_init_390 rfl ?_
  refine lv_bipush (v := 63) C.1 C.2.1 dX12_init_391 (by decide) ?_
  refine lv_bipush (v := 105) C.1 C.2.1 dX12_init_393 (by decide) ?_
  refine x_cast C h 0 1 dX12_init_395 rfl rfl (by unfold vp_in; decide) (fun H locs h => ?_)
  have h : Hp D A H0 H _ ((b, .inl (k 1, 113, .inl (upd (upd (upd (upd f 60 (vp_nar .char 105)) 61 (vp_nar .char 110)) 62 (vp_nar .char 115)) 63 (vp_nar .char 105)))) :: w) := h
  refine lv_dup C.1 C.2.1 dX12_init_396 rfl ?_
  refine lv_bipush (v := 64) C.1 C.2.1 dX12_init_397 (by decide) ?_
  refine lv_bipush (v := 100) C.1 C.2.1 dX12_init_399 (by decide) ?_
  refine x_cast C h 0 1 dX12_init_401 rfl rfl (by unfold vp_in; decide) (fun H locs h => ?_)
  have h : Hp D A H0 H _ ((b, .inl (k 1, 113, .inl (upd (upd (upd (upd (upd f 60 (vp_nar .char 105)) 61 (vp_nar .char 110)) 62 (vp_nar .char 115)) 63 (vp_nar .char 105)) 64 (vp_nar .char 100)))) :: w) := h
  refine lv_dup C.1 C.2.1 dX12_init_402 rfl ?_
  refine lv_bipush (v := 65) C.1 C.2.1 dX12_init_403 (by decide) ?_
  refine lv_bipush (v := 101) C.1 C.2.1 dX12_init_405 (by decide) ?_
  refine x_cast C h 0 1 dX12_init_407 rfl rfl (by unfold vp_in; decide) (fun H locs h => ?_)
  have h : Hp D A H0 H _ ((b, .inl (k 1, 113, .inl (upd (upd (upd (upd (upd (upd f 60 (vp_nar .char 105)) 61 (vp_nar .char 110)) 62 (vp_nar .char 115)) 63 (vp_nar .char 105)) 64 (vp_nar .char 100)) 65 (vp_nar .char 101)))) :: w) := h
  refine lv_dup C.1 C.2.1 dX12_init_408 rfl ?_
  refine lv_bipush (v := 66) C.1 C.2.1 dX12_init_409 (by decide) ?_
  refine lv_bipush (v := 32) C.1 C.2.1 dX12_init_411 (by decide) ?_
  refine x_cast C h 0 1 dX12_init_413 rfl rfl (by unfold vp_in; decide) (fun H locs h => ?_)
  have h : Hp D A H0 H _ ((b, .inl (k 1, 113, .inl (upd (upd (upd (upd (upd (upd (upd f 60 (vp_nar .char 105)) 61 (vp_nar .char 110)) 62 (vp_nar .char 115)) 63 (vp_nar .char 105)) 64 (vp_nar .char 100)) 65 (vp_nar .char 101)) 66 (vp_nar .char 32)))) :: w) := h
  refine lv_dup C.1 C.2.1 dX12_init_414 rfl ?_
  refine lv_bipush (v := 67) C.1 C.2.1 dX12_init_415 (by decide) ?_
  refine lv_bipush (v := 114) C.1 C.2.1 dX12_init_417 (by decide) ?_
  refine x_cast C h 0 1 dX12_init_419 rfl rfl (by unfold vp_in; decide) (fun H locs h => ?_)
  have h : Hp D A H0 H _ ((b, .inl (k 1, 113, .inl (upd (upd (upd (upd (upd (upd (upd (upd f 60 (vp_nar .char 105)) 61 (vp_nar .char 110)) 62 (vp_nar .char 115)) 63 (vp_nar .char 105)) 64 (vp_nar .char 100)) 65 (vp_nar .char 101)) 66 (vp_nar .char 32)) 67 (vp_nar .char 114)))) :: w) := h
  refine lv_dup C.1 C.2.1 dX12_init_420 rfl ?_
  refine lv_bipush (v := 68) C.1 C.2.1 dX12_init_421 (by decide) ?_
  refine lv_bipush (v := 111) C.1 C.2.1 dX12_init_423 (by decide) ?_
  refine x_cast C h 0 1 dX12_init_425 rfl rfl (by unfold vp_in; decide) (fun H locs h => ?_)
  have h : Hp D A H0 H _ ((b, .inl (k 1, 113, .inl (upd (upd (upd (upd (upd (upd (upd (upd (upd f 60 (vp_nar .char 105)) 61 (vp_nar .char 110)) 62 (vp_nar .char 115)) 63 (vp_nar .char 105)) 64 (vp_nar .char 100)) 65 (vp_nar .char 101)) 66 (vp_nar .char 32)) 67 (vp_nar .char 114)) 68 (vp_nar .char 111)))) :: w) := h
  refine lv_dup C.1 C.2.1 dX12_init_426 rfl ?_
  refine lv_bipush (v := 69) C.1 C.2.1 dX12_init_427 (by decide) ?_
  refine lv_bipush (v := 116) C.1 C.2.1 dX12_init_429 (by decide) ?_
  refine x_cast C h 0 1 dX12_init_431 rfl rfl (by unfold vp_in; decide) (fun H locs h => ?_)
  have h : Hp D A H0 H _ ((b, .inl (k 1, 113, .inl (upd (upd (upd (upd (upd (upd (upd (upd (upd (upd f 60 (vp_nar .char 105)) 61 (vp_nar .char 110)) 62 (vp_nar .char 115)) 63 (vp_nar .char 105)) 64 (vp_nar .char 100)) 65 (vp_nar .char 101)) 66 (vp_nar .char 32)) 67 (vp_nar .char 114)) 68 (vp_nar .char 111)) 69 (vp_nar .char 116)))) :: w) := h
  refine lv_dup C.1 C.2.1 dX12_init_432 rfl ?_
  refine lv_bipush (v := 70) C.1 C.2.1 dX12_init_433 (by decide) ?_
  refine lv_bipush (v := 32) C.1 C.2.1 dX12_init_435 (by decide) ?_
  refine x_cast C h 0 1 dX12_init_437 rfl rfl (by unfold vp_in; decide) (fun H locs h => ?_)
  have h : Hp D A H0 H _ ((b, .inl (k 1, 113, .inl (upd (upd (upd (upd (upd (upd (upd (upd (upd (upd (upd f 60 (vp_nar .char 105)) 61 (vp_nar .char 110)) 62 (vp_nar .char 115)) 63 (vp_nar .char 105)) 64 (vp_nar .char 100)) 65 (vp_nar .char 101)) 66 (vp_nar .char 32)) 67 (vp_nar .char 114)) 68 (vp_nar .char 111)) 69 (vp_nar .char 116)) 70 (vp_nar .char 32)))) :: w) := h
  refine lv_dup C.1 C.2.1 dX12_init_438 rfl ?_
  refine lv_bipush (v := 71) C.1 C.2.1 dX12_init_439 (by decide) ?_
  refine lv_bipush (v := 115) C.1 C.2.1 dX12_init_441 (by decide) ?_
  refine x_cast C h 0 1 dX12_init_443 rfl rfl (by unfold vp_in; decide) (fun H locs h => ?_)
  have h : Hp D A H0 H _ ((b, .inl (k 1, 113, .inl (upd (upd (upd (upd (upd (upd (upd (upd (upd (upd (upd (upd f 60 (vp_nar .char 105)) 61 (vp_nar .char 110)) 62 (vp_nar .char 115)) 63 (vp_nar .char 105)) 64 (vp_nar .char 100)) 65 (vp_nar .char 101)) 66 (vp_nar .char 32)) 67 (vp_nar .char 114)) 68 (vp_nar .char 111)) 69 (vp_nar .char 116)) 70 (vp_nar .char 32)) 71 (vp_nar .char 115)))) :: w) := h
  refine lv_dup C.1 C.2.1 dX12_init_444 rfl ?_
  refine lv_bipush (v := 72) C.1 C.2.1 dX12_init_445 (by decide) ?_
  refine lv_bipush (v := 116) C.1 C.2.1 dX12_init_447 (by decide) ?_
  refine x_cast C h 0 1 dX12_init_449 rfl rfl (by unfold vp_in; decide) (fun H locs h => ?_)
  have h : Hp D A H0 H _ ((b, .inl (k 1, 113, .inl (upd (upd (upd (upd (upd (upd (upd (upd (upd (upd (upd (upd (upd f 60 (vp_nar .char 105)) 61 (vp_nar .char 110)) 62 (vp_nar .char 115)) 63 (vp_nar .char 105)) 64 (vp_nar .char 100)) 65 (vp_nar .char 101)) 66 (vp_nar .char 32)) 67 (vp_nar .char 114)) 68 (vp_nar .char 111)) 69 (vp_nar .char 116)) 70 (vp_nar .char 32)) 71 (vp_nar .char 115)) 72 (vp_nar .char 116)))) :: w) := h
  refine lv_dup C.1 C.2.1 dX12_init_450 rfl ?_
  refine lv_bipush (v := 73) C.1 C.2.1 dX12_init_451 (by decide) ?_
  refine lv_bipush (v := 114) C.1 C.2.1 dX12_init_453 (by decide) ?_
  refine x_cast C h 0 1 dX12_init_455 rfl rfl (by unfold vp_in; decide) (fun H locs h => ?_)
  have h : Hp D A H0 H _ ((b, .inl (k 1, 113, .inl (upd (upd (upd (upd (upd (upd (upd (upd (upd (upd (upd (upd (upd (upd f 60 (vp_nar .char 105)) 61 (vp_nar .char 110)) 62 (vp_nar .char 115)) 63 (vp_nar .char 105)) 64 (vp_nar .char 100)) 65 (vp_nar .char 101)) 66 (vp_nar .char 32)) 67 (vp_nar .char 114)) 68 (vp_nar .char 111)) 69 (vp_nar .char 116)) 70 (vp_nar .char 32)) 71 (vp_nar .char 115)) 72 (vp_nar .char 116)) 73 (vp_nar .char 114)))) :: w) := h
  refine lv_dup C.1 C.2.1 dX12_init_456 rfl ?_
  refine lv_bipush (v := 74) C.1 C.2.1 dX12_init_457 (by decide) ?_
  refine lv_bipush (v := 117) C.1 C.2.1 dX12_init_459 (by decide) ?_
  refine x_cast C h 0 1 dX12_init_461 rfl rfl (by unfold vp_in; decide) (fun H locs h => ?_)
  have h : Hp D A H0 H _ ((b, .inl (k 1, 113, .inl (upd (upd (upd (upd (upd (upd (upd (upd (upd (upd (upd (upd (upd (upd (upd f 60 (vp_nar .char 105)) 61 (vp_nar .char 110)) 62 (vp_nar .char 115)) 63 (vp_nar .char 105)) 64 (vp_nar .char 100)) 65 (vp_nar .char 101)) 66 (vp_nar .char 32)) 67 (vp_nar .char 114)) 68 (vp_nar .char 111)) 69 (vp_nar .char 116)) 70 (vp_nar .char 32)) 71 (vp_nar .char 115)) 72 (vp_nar .char 116)) 73 (vp_nar .char 114)) 74 (vp_nar .char 117)))) :: w) := h
  refine lv_dup C.1 C.2.1 dX12_init_462 rfl ?_
  refine lv_bipush (v := 75) C.1 C.2.1 dX12_init_463 (by decide) ?_
  refine lv_bipush (v := 99) C.1 C.2.1 dX12_init_465 (by decide) ?_
  refine x_cast C h 0 1 dX12_init_467 rfl rfl (by unfold vp_in; decide) (fun H locs h => ?_)
  have h : Hp D A H0 H _ ((b, .inl (k 1, 113, .inl (upd (upd (upd (upd (upd (upd (upd (upd (upd (upd (upd (upd (upd (upd (upd (upd f 60 (vp_nar .char 105)) 61 (vp_nar .char 110)) 62 (vp_nar .char 115)) 63 (vp_nar .char 105)) 64 (vp_nar .char 100)) 65 (vp_nar .char 101)) 66 (vp_nar .char 32)) 67 (vp_nar .char 114)) 68 (vp_nar .char 111)) 69 (vp_nar .char 116)) 70 (vp_nar .char 32)) 71 (vp_nar .char 115)) 72 (vp_nar .char 116)) 73 (vp_nar .char 114)) 74 (vp_nar .char 117)) 75 (vp_nar .char 99)))) :: w) := h
  refine lv_dup C.1 C.2.1 dX12_init_468 rfl ?_
  refine lv_bipush (v := 76) C.1 C.2.1 dX12_init_469 (by decide) ?_
  refine lv_bipush (v := 116) C.1 C.2.1 dX12_init_471 (by decide) ?_
  refine x_cast C h 0 1 dX12_init_473 rfl rfl (by unfold vp_in; decide) (fun H locs h => ?_)
  have h : Hp D A H0 H _ ((b, .inl (k 1, 113, .inl (upd (upd (upd (upd (upd (upd (upd (upd (upd (upd (upd (upd (upd (upd (upd (upd (upd f 60 (vp_nar .char 105)) 61 (vp_nar .char 110)) 62 (vp_nar .char 115)) 63 (vp_nar .char 105)) 64 (vp_nar .char 100)) 65 (vp_nar .char 101)) 66 (vp_nar .char 32)) 67 (vp_nar .char 114)) 68 (vp_nar .char 111)) 69 (vp_nar .char 116)) 70 (vp_nar .char 32)) 71 (vp_nar .char 115)) 72 (vp_nar .char 116)) 73 (vp_nar .char 114)) 74 (vp_nar .char 117)) 75 (vp_nar .char 99)) 76 (vp_nar .char 116)))) :: w) := h
  refine lv_dup C.1 C.2.1 dX12_init_474 rfl ?_
  refine lv_bipush (v := 77) C.1 C.2.1 dX12_init_475 (by decide) ?_
  refine lv_bipush (v := 32) C.1 C.2.1 dX12_init_477 (by decide) ?_
  refine x_cast C h 0 1 dX12_init_479 rfl rfl (by unfold vp_in; decide) (fun H locs h => ?_)
  have h : Hp D A H0 H _ ((b, .inl (k 1, 113, .inl (upd (upd (upd (upd (upd (upd (upd (upd (upd (upd (upd (upd (upd (upd (upd (upd (upd (upd f 60 (vp_nar .char 105)) 61 (vp_nar .char 110)) 62 (vp_nar .char 115)) 63 (vp_nar .char 105)) 64 (vp_nar .char 100)) 65 (vp_nar .char 101)) 66 (vp_nar .char 32)) 67 (vp_nar .char 114)) 68 (vp_nar .char 111)) 69 (vp_nar .char 116)) 70 (vp_nar .char 32)) 71 (vp_nar .char 115)) 72 (vp_nar .char 116)) 73 (vp_nar .char 114)) 74 (vp_nar .char 117)) 75 (vp_nar .char 99)) 76 (vp_nar .char 116)) 77 (vp_nar .char 32)))) :: w) := h
  refine lv_dup C.1 C.2.1 dX12_init_480 rfl ?_
  refine lv_bipush (v := 78) C.1 C.2.1 dX12_init_481 (by decide) ?_
  refine lv_bipush (v := 109) C.1 C.2.1 dX12_init_483 (by decide) ?_
  refine x_cast C h 0 1 dX12_init_485 rfl rfl (by unfold vp_in; decide) (fun H locs h => ?_)
  have h : Hp D A H0 H _ ((b, .inl (k 1, 113, .inl (upd (upd (upd (upd (upd (upd (upd (upd (upd (upd (upd (upd (upd (upd (upd (upd (upd (upd (upd f 60 (vp_nar .char 105)) 61 (vp_nar .char 110)) 62 (vp_nar .char 115)) 63 (vp_nar .char 105)) 64 (vp_nar .char 100)) 65 (vp_nar .char 101)) 66 (vp_nar .char 32)) 67 (vp_nar .char 114)) 68 (vp_nar .char 111)) 69 (vp_nar .char 116)) 70 (vp_nar .char 32)) 71 (vp_nar .char 115)) 72 (vp_nar .char 116)) 73 (vp_nar .char 114)) 74 (vp_nar .char 117)) 75 (vp_nar .char 99)) 76 (vp_nar .char 116)) 77 (vp_nar .char 32)) 78 (vp_nar .char 109)))) :: w) := h
  refine lv_dup C.1 C.2.1 dX12_init_486 rfl ?_
  refine lv_bipush (v := 79) C.1 C.2.1 dX12_init_487 (by decide) ?_
  refine lv_bipush (v := 97) C.1 C.2.1 dX12_init_489 (by decide) ?_
  refine x_cast C h 0 1 dX12_init_491 rfl rfl (by unfold vp_in; decide) (fun H locs h => ?_)
  have h : Hp D A H0 H _ ((b, .inl (k 1, 113, .inl (upd (upd (upd (upd (upd (upd (upd (upd (upd (upd (upd (upd (upd (upd (upd (upd (upd (upd (upd (upd f 60 (vp_nar .char 105)) 61 (vp_nar .char 110)) 62 (vp_nar .char 115)) 63 (vp_nar .char 105)) 64 (vp_nar .char 100)) 65 (vp_nar .char 101)) 66 (vp_nar .char 32)) 67 (vp_nar .char 114)) 68 (vp_nar .char 111)) 69 (vp_nar .char 116)) 70 (vp_nar .char 32)) 71 (vp_nar .char 115)) 72 (vp_nar .char 116)) 73 (vp_nar .char 114)) 74 (vp_nar .char 117)) 75 (vp_nar .char 99)) 76 (vp_nar .char 116)) 77 (vp_nar .char 32)) 78 (vp_nar .char 109)) 79 (vp_nar .char 97)))) :: w) := h
  exact kk H _ h
set_option maxHeartbeats 4000000 in
set_option maxRecDepth 100000 in
theorem sg6 {p : Program} {l : Launch} {e : Env} {R : Room} {s : State} {m : MethodId} {args : Array Value} {below : List Frame} {meth : Method} {c : Code} {H : Heap} {locs : List Loc} {cells slots : Nat} {Q : State → Prop} {ls : Array Slot} {D : va_G} {A : Nat → Prop} {k : Nat → ClassId} {H0 : Heap} {a : Nat} {fs : List Value} {w : va_W} {b : Nat} {rest : List Value} {f : Nat → Int32} (C : Cx p s m args c cX12_init RX12 wsX12_init D (TYs k) 2) (hmn : meth.name = "<init>") (h : Hp D A H0 H locs ((b, .inl (k 1, 113, .inl f)) :: w)) (kk : ∀ (H : Heap) (locs : List Loc), Hp D A H0 H locs ((b, .inl (k 1, 113, .inl (upd (upd (upd (upd (upd (upd (upd (upd (upd (upd (upd (upd (upd (upd (upd (upd (upd (upd (upd (upd f 80 (vp_nar .char 115)) 81 (vp_nar .char 107)) 82 (vp_nar .char 32)) 83 (vp_nar .char 100)) 84 (vp_nar .char 114)) 85 (vp_nar .char 111)) 86 (vp_nar .char 112)) 87 (vp_nar .char 32)) 88 (vp_nar .char 107)) 89 (vp_nar .char 101)) 90 (vp_nar .char 101)) 91 (vp_nar .char 112)) 92 (vp_nar .char 32)) 93 (vp_nar .char 115)) 94 (vp_nar .char 111)) 95 (vp_nar .char 109)) 96 (vp_nar .char 101)) 97 (vp_nar .char 32)) 98 (vp_nar .char 119)) 99 (vp_nar .char 105)))) :: w) → W p l e R s m args below meth c H locs cells slots Q (F0 m 612 ls (.ref b :: rest))) : W p l e R s m args below meth c H locs cells slots Q (F0 m 492 ls (.ref b :: rest)) := by
  refine lv_dup C.1 C.2.1 dX12_init_492 rfl ?_
  refine lv_bipush (v := 80) C.1 C.2.1 dX12_init_493 (by decide) ?_
  refine lv_bipush (v := 115) C.1 C.2.1 dX12_init_495 (by decide) ?_
  refine x_cast C h 0 1 dX12_init_497 rfl rfl (by unfold vp_in; decide) (fun H locs h => ?_)
  have h : Hp D A H0 H _ ((b, .inl (k 1, 113, .inl (upd f 80 (vp_nar .char 115)))) :: w) := h
  refine lv_dup C.1 C.2.1 dX12_init_498 rfl ?_
  refine lv_bipush (v := 81) C.1 C.2.1 dX12_init_499 (by decide) ?_
  refine lv_bipush (v := 107) C.1 C.2.1 dX12_init_501 (by decide) ?_
  refine x_cast C h 0 1 dX12_init_503 rfl rfl (by unfold vp_in; decide) (fun H locs h => ?_)
  have h : Hp D A H0 H _ ((b, .inl (k 1, 113, .inl (upd (upd f 80 (vp_nar .char 115)) 81 (vp_nar .char 107)))) :: w) := h
  refine lv_dup C.1 C.2.1 dX12_init_504 rfl ?_
  refine lv_bipush (v := 82) C.1 C.2.1 dX12_init_505 (by decide) ?_
  refine lv_bipush (v := 32) C.1 C.2.1 dX12_init_507 (by decide) ?_
  refine x_cast C h 0 1 dX12_init_509 rfl rfl (by unfold vp_in; decide) (fun H locs h => ?_)
  have h : Hp D A H0 H _ ((b, .inl (k 1, 113, .inl (upd (upd (upd f 80 (vp_nar .char 115)) 81 (vp_nar .char 107)) 82 (vp_nar .char 32)))) :: w) := h
  refine lv_dup C.1 C.2.1 dX12_init_510 rfl ?_
  refine lv_bipush (v := 83) C.1 C.2.1 dX12_init_511 (by decide) ?_
  refine lv_bipush (v := 100) C.1 C.2.1 dX12_init_513 (by decide) ?_
  refine x_cast C h 0 1 dX12_init_515 rfl rfl (by unfold vp_in; decide) (fun H locs h => ?_)
  have h : Hp D A H0 H _ ((b, .inl (k 1, 113, .inl (upd (upd (upd (upd f 80 (vp_nar .char 115)) 81 (vp_nar .char 107)) 82 (vp_nar .char 32)) 83 (vp_nar .char 100)))) :: w) := h
  refine lv_dup C.1 C.2.1 dX12_init_516 rfl ?_
  refine lv_bipush (v := 84) C.1 C.2.1 dX12_init_517 (by decide) ?_
  refine lv_bipush (v := 114) C.1 C.2.1 dX12_init_519 (by decide) ?_
  refine x_cast C h 0 1 dX12_init_521 rfl rfl (by unfold vp_in; decide) (fun H locs h => ?_)
  have h : Hp D A H0 H _ ((b, .inl (k 1, 113, .inl (upd (upd (upd (upd (upd f 80 (vp_nar .char 115)) 81 (vp_nar .char 107)) 82 (vp_nar .char 32)) 83 (vp_nar .char 100)) 84 (vp_nar .char 114)))) :: w) := h
  refine lv_dup C.1 C.2.1 dX12_init_522 rfl ?_
  refine lv_bipush (v := 85) C.1 C.2.1 dX12_init_523 (by decide) ?_
  refine lv_bipush (v := 111) C.1 C.2.1 dX12_init_525 (by decide) ?_
  refine x_cast C h 0 1 dX12_init_527 rfl rfl (by unfold vp_in; decide) (fun H locs h => ?_)
  have h : Hp D A H0 H _ ((b, .inl (k 1, 113, .inl (upd (upd (upd (upd (upd (upd f 80 (vp_nar .char 115)) 81 (vp_nar .char 107)) 82 (vp_nar .char 32)) 83 (vp_nar .char 100)) 84 (vp_nar .char 114)) 85 (vp_nar .char 111)))) :: w) := h
  refine lv_dup C.1 C.2.1 dX12_init_528 rfl ?_
  refine lv_bipush (v := 86) C.1 C.2.1 dX12_init_529 (by decide) ?_
  refine lv_bipush (v := 112) C.1 C.2.1 dX12_init_531 (by decide) ?_
  refine x_cast C h 0 1 dX12_init_533 rfl rfl (by unfold vp_in; decide) (fun H locs h => ?_)
  have h : Hp D A H0 H _ ((b, .inl (k 1, 113, .inl (upd (upd (upd (upd (upd (upd (upd f 80 (vp_nar .char 115)) 81 (vp_nar .char 107)) 82 (vp_nar .char 32)) 83 (vp_nar .char 100)) 84 (vp_nar .char 114)) 85 (vp_nar .char 111)) 86 (vp_nar .char 112)))) :: w) := h
  refine lv_dup C.1 C.2.1 dX12_init_534 rfl ?_
  refine lv_bipush (v := 87) C.1 C.2.1 dX12_init_535 (by decide) ?_
  refine lv_bipush (v := 32) C.1 C.2.1 dX12_init_537 (by decide) ?_
  refine x_cast C h 0 1 dX12_init_539 rfl rfl (by unfold vp_in; decide) (fun H locs h => ?_)
  have h : Hp D A H0 H _ ((b, .inl (k 1, 113, .inl (upd (upd (upd (upd (upd (upd (upd (upd f 80 (vp_nar .char 115)) 81 (vp_nar .char 107)) 82 (vp_nar .char 32)) 83 (vp_nar .char 100)) 84 (vp_nar .char 114)) 85 (vp_nar .char 111)) 86 (vp_nar .char 112)) 87 (vp_nar .char 32)))) :: w) := h
  refine lv_dup C.1 C.2.1 dX12_init_540 rfl ?_
  refine lv_bipush (v := 88) C.1 C.2.1 dX12_init_541 (by decide) ?_
  refine lv_bipush (v := 107) C.1 C.2.1 dX12_init_543 (by decide) ?_
  refine x_cast C h 0 1 dX12_init_545 rfl rfl (by unfold vp_in; decide) (fun H locs h => ?_)
  have h : Hp D A H0 H _ ((b, .inl (k 1, 113, .inl (upd (upd (upd (upd (upd (upd (upd (upd (upd f 80 (vp_nar .char 115)) 81 (vp_nar .char 107)) 82 (vp_nar .char 32)) 83 (vp_nar .char 100)) 84 (vp_nar .char 114)) 85 (vp_nar .char 111)) 86 (vp_nar .char 112)) 87 (vp_nar .char 32)) 88 (vp_nar .char 107)))) :: w) := h
  refine lv_dup C.1 C.2.1 dX12_init_546 rfl ?_
  refine lv_bipush (v := 89) C.1 C.2.1 dX12_init_547 (by decide) ?_
  refine lv_bipush (v := 101) C.1 C.2.1 dX12_init_549 (by decide) ?_
  refine x_cast C h 0 1 dX12_init_551 rfl rfl (by unfold vp_in; decide) (fun H locs h => ?_)
  have h : Hp D A H0 H _ ((b, .inl (k 1, 113, .inl (upd (upd (upd (upd (upd (upd (upd (upd (upd (upd f 80 (vp_nar .char 115)) 81 (vp_nar .char 107)) 82 (vp_nar .char 32)) 83 (vp_nar .char 100)) 84 (vp_nar .char 114)) 85 (vp_nar .char 111)) 86 (vp_nar .char 112)) 87 (vp_nar .char 32)) 88 (vp_nar .char 107)) 89 (vp_nar .char 101)))) :: w) := h
  refine lv_dup C.1 C.2.1 dX12_init_552 rfl ?_
  refine lv_bipush (v := 90) C.1 C.2.1 dX12_init_553 (by decide) ?_
  refine lv_bipush (v := 101) C.1 C.2.1 dX12_init_555 (by decide) ?_
  refine x_cast C h 0 1 dX12_init_557 rfl rfl (by unfold vp_in; decide) (fun H locs h => ?_)
  have h : Hp D A H0 H _ ((b, .inl (k 1, 113, .inl (upd (upd (upd (upd (upd (upd (upd (upd (upd (upd (upd f 80 (vp_nar .char 115)) 81 (vp_nar .char 107)) 82 (vp_nar .char 32)) 83 (vp_nar .char 100)) 84 (vp_nar .char 114)) 85 (vp_nar .char 111)) 86 (vp_nar .char 112)) 87 (vp_nar .char 32)) 88 (vp_nar .char 107)) 89 (vp_nar .char 101)) 90 (vp_nar .char 101)))) :: w) := h
  refine lv_dup C.1 C.2.1 dX12_init_558 rfl ?_
  refine lv_bipush (v := 91) C.1 C.2.1 dX12_init_559 (by decide) ?_
  refine lv_bipush (v := 112) C.1 C.2.1 dX12_init_561 (by decide) ?_
  refine x_cast C h 0 1 dX12_init_563 rfl rfl (by unfold vp_in; decide) (fun H locs h => ?_)
  have h : Hp D A H0 H _ ((b, .inl (k 1, 113, .inl (upd (upd (upd (upd (upd (upd (upd (upd (upd (upd (upd (upd f 80 (vp_nar .char 115)) 81 (vp_nar .char 107)) 82 (vp_nar .char 32)) 83 (vp_nar .char 100)) 84 (vp_nar .char 114)) 85 (vp_nar .char 111)) 86 (vp_nar .char 112)) 87 (vp_nar .char 32)) 88 (vp_nar .char 107)) 89 (vp_nar .char 101)) 90 (vp_nar .char 101)) 91 (vp_nar .char 112)))) :: w) := h
  refine lv_dup C.1 C.2.1 dX12_init_564 rfl ?_
  refine lv_bipush (v := 92) C.1 C.2.1 dX12_init_565 (by decide) ?_
  refine lv_bipush (v := 32) C.1 C.2.1 dX12_init_567 (by decide) ?_
  refine x_cast C h 0 1 dX12_init_569 rfl rfl (by unfold vp_in; decide) (fun H locs h => ?_)
  have h : Hp D A H0 H _ ((b, .inl (k 1, 113, .inl (upd (upd (upd (upd (upd (upd (upd (upd (upd (upd (upd (upd (upd f 80 (vp_nar .char 115)) 81 (vp_nar .char 107)) 82 (vp_nar .char 32)) 83 (vp_nar .char 100)) 84 (vp_nar .char 114)) 85 (vp_nar .char 111)) 86 (vp_nar .char 112)) 87 (vp_nar .char 32)) 88 (vp_nar .char 107)) 89 (vp_nar .char 101)) 90 (vp_nar .char 101)) 91 (vp_nar .char 112)) 92 (vp_nar .char 32)))) :: w) := h
  refine lv_dup C.1 C.2.1 dX12_init_570 rfl ?_
  refine lv_bipush (v := 93) C.1 C.2.1 dX12_init_571 (by decide) ?_
  refine lv_bipush (v := 115) C.1 C.2.1 dX12_init_573 (by decide) ?_
  refine x_cast C h 0 1 dX12_init_575 rfl rfl (by unfold vp_in; decide) (fun H locs h => ?_)
  have h : Hp D A H0 H _ ((b, .inl (k 1, 113, .inl (upd (upd (upd (upd (upd (upd (upd (upd (upd (upd (upd (upd (upd (upd f 80 (vp_nar .char 115)) 81 (vp_nar .char 107)) 82 (vp_nar .char 32)) 83 (vp_nar .char 100)) 84 (vp_nar .char 114)) 85 (vp_nar .char 111)) 86 (vp_nar .char 112)) 87 (vp_nar .char 32)) 88 (vp_nar .char 107)) 89 (vp_nar .char 101)) 90 (vp_nar .char 101)) 91 (vp_nar .char 112)) 92 (vp_nar .char 32)) 93 (vp_nar .char 115)))) :: w) := h
  refine lv_dup C.1 C.2.1 dX12_init_576 rfl ?_
  refine lv_bipush (v := 94) C.1 C.2.1 dX12_init_577 (by decide) ?_
  refine lv_bipush (v := 111) C.1 C.2.1 dX12_init_579 (by decide) ?_
  refine x_cast C h 0 1 dX12_init_581 rfl rfl (by unfold vp_in; decide) (fun H locs h => ?_)
  have h : Hp D A H0 H _ ((b, .inl (k 1, 113, .inl (upd (upd (upd (upd (upd (upd (upd (upd (upd (upd (upd (upd (upd (upd (upd f 80 (vp_nar .char 115)) 81 (vp_nar .char 107)) 82 (vp_nar .char 32)) 83 (vp_nar .char 100)) 84 (vp_nar .char 114)) 85 (vp_nar .char 111)) 86 (vp_nar .char 112)) 87 (vp_nar .char 32)) 88 (vp_nar .char 107)) 89 (vp_nar .char 101)) 90 (vp_nar .char 101)) 91 (vp_nar .char 112)) 92 (vp_nar .char 32)) 93 (vp_nar .char 115)) 94 (vp_nar .char 111)))) :: w) := h
  refine lv_dup C.1 C.2.1 dX12_init_582 rfl ?_
  refine lv_bipush (v := 95) C.1 C.2.1 dX12_init_583 (by decide) ?_
  refine lv_bipush (v := 109) C.1 C.2.1 dX12_init_585 (by decide) ?_
  refine x_cast C h 0 1 dX12_init_587 rfl rfl (by unfold vp_in; decide) (fun H locs h => ?_)
  have h : Hp D A H0 H _ ((b, .inl (k 1, 113, .inl (upd (upd (upd (upd (upd (upd (upd (upd (upd (upd (upd (upd (upd (upd (upd (upd f 80 (vp_nar .char 115)) 81 (vp_nar .char 107)) 82 (vp_nar .char 32)) 83 (vp_nar .char 100)) 84 (vp_nar .char 114)) 85 (vp_nar .char 111)) 86 (vp_nar .char 112)) 87 (vp_nar .char 32)) 88 (vp_nar .char 107)) 89 (vp_nar .char 101)) 90 (vp_nar .char 101)) 91 (vp_nar .char 112)) 92 (vp_nar .char 32)) 93 (vp_nar .char 115)) 94 (vp_nar .char 111)) 95 (vp_nar .char 109)))) :: w) := h
  refine lv_dup C.1 C.2.1 dX12_init_588 rfl ?_
  refine lv_bipush (v := 96) C.1 C.2.1 dX12_init_589 (by decide) ?_
  refine lv_bipush (v := 101) C.1 C.2.1 dX12_init_591 (by decide) ?_
  refine x_cast C h 0 1 dX12_init_593 rfl rfl (by unfold vp_in; decide) (fun H locs h => ?_)
  have h : Hp D A H0 H _ ((b, .inl (k 1, 113, .inl (upd (upd (upd (upd (upd (upd (upd (upd (upd (upd (upd (upd (upd (upd (upd (upd (upd f 80 (vp_nar .char 115)) 81 (vp_nar .char 107)) 82 (vp_nar .char 32)) 83 (vp_nar .char 100)) 84 (vp_nar .char 114)) 85 (vp_nar .char 111)) 86 (vp_nar .char 112)) 87 (vp_nar .char 32)) 88 (vp_nar .char 107)) 89 (vp_nar .char 101)) 90 (vp_nar .char 101)) 91 (vp_nar .char 112)) 92 (vp_nar .char 32)) 93 (vp_nar .char 115)) 94 (vp_nar .char 111)) 95 (vp_nar .char 109)) 96 (vp_nar .char 101)))) :: w) := h
  refine lv_dup C.1 C.2.1 dX12_init_594 rfl ?_
  refine lv_bipush (v := 97) C.1 C.2.1 dX12_init_595 (by decide) ?_
  refine lv_bipush (v := 32) C.1 C.2.1 dX12_init_597 (by decide) ?_
  refine x_cast C h 0 1 dX12_init_599 rfl rfl (by unfold vp_in; decide) (fun H locs h => ?_)
  have h : Hp D A H0 H _ ((b, .inl (k 1, 113, .inl (upd (upd (upd (upd (upd (upd (upd (upd (upd (upd (upd (upd (upd (upd (upd (upd (upd (upd f 80 (vp_nar .char 115)) 81 (vp_nar .char 107)) 82 (vp_nar .char 32)) 83 (vp_nar .char 100)) 84 (vp_nar .char 114)) 85 (vp_nar .char 111)) 86 (vp_nar .char 112)) 87 (vp_nar .char 32)) 88 (vp_nar .char 107)) 89 (vp_nar .char 101)) 90 (vp_nar .char 101)) 91 (vp_nar .char 112)) 92 (vp_nar .char 32)) 93 (vp_nar .char 115)) 94 (vp_nar .char 111)) 95 (vp_nar .char 109)) 96 (vp_nar .char 101)) 97 (vp_nar .char 32)))) :: w) := h
  refine lv_dup C.1 C.2.1 dX12_init_600 rfl ?_
  refine lv_bipush (v := 98) C.1 C.2.1 dX12_init_601 (by decide) ?_
  refine lv_bipush (v := 119) C.1 C.2.1 dX12_init_603 (by decide) ?_
  refine x_cast C h 0 1 dX12_init_605 rfl rfl (by unfold vp_in; decide) (fun H locs h => ?_)
  have h : Hp D A H0 H _ ((b, .inl (k 1, 113, .inl (upd (upd (upd (upd (upd (upd (upd (upd (upd (upd (upd (upd (upd (upd (upd (upd (upd (upd (upd f 80 (vp_nar .char 115)) 81 (vp_nar .char 107)) 82 (vp_nar .char 32)) 83 (vp_nar .char 100)) 84 (vp_nar .char 114)) 85 (vp_nar .char 111)) 86 (vp_nar .char 112)) 87 (vp_nar .char 32)) 88 (vp_nar .char 107)) 89 (vp_nar .char 101)) 90 (vp_nar .char 101)) 91 (vp_nar .char 112)) 92 (vp_nar .char 32)) 93 (vp_nar .char 115)) 94 (vp_nar .char 111)) 95 (vp_nar .char 109)) 96 (vp_nar .char 101)) 97 (vp_nar .char 32)) 98 (vp_nar .char 119)))) :: w) := h
  refine lv_dup C.1 C.2.1 dX12_init_606 rfl ?_
  refine lv_bipush (v := 99) C.1 C.2.1 dX12_init_607 (by decide) ?_
  refine lv_bipush (v := 105) C.1 C.2.1 dX12_init_609 (by decide) ?_
  refine x_cast C h 0 1 dX12_init_611 rfl rfl (by unfold vp_in; decide) (fun H locs h => ?_)
  have h : Hp D A H0 H _ ((b, .inl (k 1, 113, .inl (upd (upd (upd (upd (upd (upd (upd (upd (upd (upd (upd (upd (upd (upd (upd (upd (upd (upd (upd (upd f 80 (vp_nar .char 115)) 81 (vp_nar .char 107)) 82 (vp_nar .char 32)) 83 (vp_nar .char 100)) 84 (vp_nar .char 114)) 85 (vp_nar .char 111)) 86 (vp_nar .char 112)) 87 (vp_nar .char 32)) 88 (vp_nar .char 107)) 89 (vp_nar .char 101)) 90 (vp_nar .char 101)) 91 (vp_nar .char 112)) 92 (vp_nar .char 32)) 93 (vp_nar .char 115)) 94 (vp_nar .char 111)) 95 (vp_nar .char 109)) 96 (vp_nar .char 101)) 97 (vp_nar .char 32)) 98 (vp_nar .char 119)) 99 (vp_nar .char 105)))) :: w) := h
  exact kk H _ h
set_option maxHeartbeats 4000000 in
set_option maxRecDepth 100000 in
theorem sg7 {p : Program} {l : Launch} {e : Env} {R : Room} {s : State} {m : MethodId} {args : Array Value} {below : List Frame} {meth : Method} {c : Code} {H : Heap} {locs : List Loc} {cells slots : Nat} {Q : State → Prop} {ls : Array Slot} {D : va_G} {A : Nat → Prop} {k : Nat → ClassId} {H0 : Heap} {a : Nat} {fs : List Value} {w : va_W} {b : Nat} {rest : List Value} {f : Nat → Int32} (C : Cx p s m args c cX12_init RX12 wsX12_init D (TYs k) 2) (hmn : meth.name = "<init>") (h : Hp D A H0 H locs ((b, .inl (k 1, 113, .inl f)) :: w)) (kk : ∀ (H : Heap) (locs : List Loc), Hp D A H0 H locs ((b, .inl (k 1, 113, .inl (upd (upd (upd (upd (upd (upd (upd (upd (upd (upd (upd (upd (upd f 100 (vp_nar .char 116)) 101 (vp_nar .char 104)) 102 (vp_nar .char 105)) 103 (vp_nar .char 110)) 104 (vp_nar .char 32)) 105 (vp_nar .char 115)) 106 (vp_nar .char 113)) 107 (vp_nar .char 117)) 108 (vp_nar .char 101)) 109 (vp_nar .char 101)) 110 (vp_nar .char 122)) 111 (vp_nar .char 101)) 112 (vp_nar .char 32)))) :: w) → W p l e R s m args below meth c H locs cells slots Q (F0 m 690 ls (.ref b :: rest))) : W p l e R s m args below meth c H locs cells slots Q (F0 m 612 ls (.ref b :: rest)) := by
  refine lv_dup C.1 C.2.1 dX12_init_612 rfl ?_
  refine lv_bipush (v := 100) C.1 C.2.1 dX12_init_613 (by decide) ?_
  refine lv_bipush (v := 116) C.1 C.2.1 dX12_init_615 (by decide) ?_
  refine x_cast C h 0 1 dX12_init_617 rfl rfl (by unfold vp_in; decide) (fun H locs h => ?_)
  have h : Hp D A H0 H _ ((b, .inl (k 1, 113, .inl (upd f 100 (vp_nar .char 116)))) :: w) := h
  refine lv_dup C.1 C.2.1 dX12_init_618 rfl ?_
  refine lv_bipush (v := 101) C.1 C.2.1 dX12_init_619 (by decide) ?_
  refine lv_bipush (v := 104) C.1 C.2.1 dX12_init_621 (by decide) ?_
  refine x_cast C h 0 1 dX12_init_623 rfl rfl (by unfold vp_in; decide) (fun H locs h => ?_)
  have h : Hp D A H0 H _ ((b, .inl (k 1, 113, .inl (upd (upd f 100 (vp_nar .char 116)) 101 (vp_nar .char 104)))) :: w) := h
  refine lv_dup C.1 C.2.1 dX12_init_624 rfl ?_
  refine lv_bipush (v := 102) C.1 C.2.1 dX12_init_625 (by decide) ?_
  refine lv_bipush (v := 105) C.1 C.2.1 dX12_init_627 (by decide) ?_
  refine x_cast C h 0 1 dX12_init_629 rfl rfl (by unfold vp_in; decide) (fun H locs h => ?_)
  have h : Hp D A H0 H _ ((b, .inl (k 1, 113, .inl (upd (upd (upd f 100 (vp_nar .char 116)) 101 (vp_nar .char 104)) 102 (vp_nar .char 105)))) :: w) := h
  refine lv_dup C.1 C.2.1 dX12_init_630 rfl ?_
  refine lv_bipush (v := 103) C.1 C.2.1 dX12_init_631 (by decide) ?_
  refine lv_bipush (v := 110) C.1 C.2.1 dX12_init_633 (by decide) ?_
  refine x_cast C h 0 1 dX12_init_635 rfl rfl (by unfold vp_in; decide) (fun H locs h => ?_)
  have h : Hp D A H0 H _ ((b, .inl (k 1, 113, .inl (upd (upd (upd (upd f 100 (vp_nar .char 116)) 101 (vp_nar .char 104)) 102 (vp_nar .char 105)) 103 (vp_nar .char 110)))) :: w) := h
  refine lv_dup C.1 C.2.1 dX12_init_636 rfl ?_
  refine lv_bipush (v := 104) C.1 C.2.1 dX12_init_637 (by decide) ?_
  refine lv_bipush (v := 32) C.1 C.2.1 dX12_init_639 (by decide) ?_
  refine x_cast C h 0 1 dX12_init_641 rfl rfl (by unfold vp_in; decide) (fun H locs h => ?_)
  have h : Hp D A H0 H _ ((b, .inl (k 1, 113, .inl (upd (upd (upd (upd (upd f 100 (vp_nar .char 116)) 101 (vp_nar .char 104)) 102 (vp_nar .char 105)) 103 (vp_nar .char 110)) 104 (vp_nar .char 32)))) :: w) := h
  refine lv_dup C.1 C.2.1 dX12_init_642 rfl ?_
  refine lv_bipush (v := 105) C.1 C.2.1 dX12_init_643 (by decide) ?_
  refine lv_bipush (v := 115) C.1 C.2.1 dX12_init_645 (by decide) ?_
  refine x_cast C h 0 1 dX12_init_647 rfl rfl (by unfold vp_in; decide) (fun H locs h => ?_)
  have h : Hp D A H0 H _ ((b, .inl (k 1, 113, .inl (upd (upd (upd (upd (upd (upd f 100 (vp_nar .char 116)) 101 (vp_nar .char 104)) 102 (vp_nar .char 105)) 103 (vp_nar .char 110)) 104 (vp_nar .char 32)) 105 (vp_nar .char 115)))) :: w) := h
  refine lv_dup C.1 C.2.1 dX12_init_648 rfl ?_
  refine lv_bipush (v := 106) C.1 C.2.1 dX12_init_649 (by decide) ?_
  refine lv_bipush (v := 113) C.1 C.2.1 dX12_init_651 (by decide) ?_
  refine x_cast C h 0 1 dX12_init_653 rfl rfl (by unfold vp_in; decide) (fun H locs h => ?_)
  have h : Hp D A H0 H _ ((b, .inl (k 1, 113, .inl (upd (upd (upd (upd (upd (upd (upd f 100 (vp_nar .char 116)) 101 (vp_nar .char 104)) 102 (vp_nar .char 105)) 103 (vp_nar .char 110)) 104 (vp_nar .char 32)) 105 (vp_nar .char 115)) 106 (vp_nar .char 113)))) :: w) := h
  refine lv_dup C.1 C.2.1 dX12_init_654 rfl ?_
  refine lv_bipush (v := 107) C.1 C.2.1 dX12_init_655 (by decide) ?_
  refine lv_bipush (v := 117) C.1 C.2.1 dX12_init_657 (by decide) ?_
  refine x_cast C h 0 1 dX12_init_659 rfl rfl (by unfold vp_in; decide) (fun H locs h => ?_)
  have h : Hp D A H0 H _ ((b, .inl (k 1, 113, .inl (upd (upd (upd (upd (upd (upd (upd (upd f 100 (vp_nar .char 116)) 101 (vp_nar .char 104)) 102 (vp_nar .char 105)) 103 (vp_nar .char 110)) 104 (vp_nar .char 32)) 105 (vp_nar .char 115)) 106 (vp_nar .char 113)) 107 (vp_nar .char 117)))) :: w) := h
  refine lv_dup C.1 C.2.1 dX12_init_660 rfl ?_
  refine lv_bipush (v := 108) C.1 C.2.1 dX12_init_661 (by decide) ?_
  refine lv_bipush (v := 101) C.1 C.2.1 dX12_init_663 (by decide) ?_
  refine x_cast C h 0 1 dX12_init_665 rfl rfl (by unfold vp_in; decide) (fun H locs h => ?_)
  have h : Hp D A H0 H _ ((b, .inl (k 1, 113, .inl (upd (upd (upd (upd (upd (upd (upd (upd (upd f 100 (vp_nar .char 116)) 101 (vp_nar .char 104)) 102 (vp_nar .char 105)) 103 (vp_nar .char 110)) 104 (vp_nar .char 32)) 105 (vp_nar .char 115)) 106 (vp_nar .char 113)) 107 (vp_nar .char 117)) 108 (vp_nar .char 101)))) :: w) := h
  refine lv_dup C.1 C.2.1 dX12_init_666 rfl ?_
  refine lv_bipush (v := 109) C.1 C.2.1 dX12_init_667 (by decide) ?_
  refine lv_bipush (v := 101) C.1 C.2.1 dX12_init_669 (by decide) ?_
  refine x_cast C h 0 1 dX12_init_671 rfl rfl (by unfold vp_in; decide) (fun H locs h => ?_)
  have h : Hp D A H0 H _ ((b, .inl (k 1, 113, .inl (upd (upd (upd (upd (upd (upd (upd (upd (upd (upd f 100 (vp_nar .char 116)) 101 (vp_nar .char 104)) 102 (vp_nar .char 105)) 103 (vp_nar .char 110)) 104 (vp_nar .char 32)) 105 (vp_nar .char 115)) 106 (vp_nar .char 113)) 107 (vp_nar .char 117)) 108 (vp_nar .char 101)) 109 (vp_nar .char 101)))) :: w) := h
  refine lv_dup C.1 C.2.1 dX12_init_672 rfl ?_
  refine lv_bipush (v := 110) C.1 C.2.1 dX12_init_673 (by decide) ?_
  refine lv_bipush (v := 122) C.1 C.2.1 dX12_init_675 (by decide) ?_
  refine x_cast C h 0 1 dX12_init_677 rfl rfl (by unfold vp_in; decide) (fun H locs h => ?_)
  have h : Hp D A H0 H _ ((b, .inl (k 1, 113, .inl (upd (upd (upd (upd (upd (upd (upd (upd (upd (upd (upd f 100 (vp_nar .char 116)) 101 (vp_nar .char 104)) 102 (vp_nar .char 105)) 103 (vp_nar .char 110)) 104 (vp_nar .char 32)) 105 (vp_nar .char 115)) 106 (vp_nar .char 113)) 107 (vp_nar .char 117)) 108 (vp_nar .char 101)) 109 (vp_nar .char 101)) 110 (vp_nar .char 122)))) :: w) := h
  refine lv_dup C.1 C.2.1 dX12_init_678 rfl ?_
  refine lv_bipush (v := 111) C.1 C.2.1 dX12_init_679 (by decide) ?_
  refine lv_bipush (v := 101) C.1 C.2.1 dX12_init_681 (by decide) ?_
  refine x_cast C h 0 1 dX12_init_683 rfl rfl (by unfold vp_in; decide) (fun H locs h => ?_)
  have h : Hp D A H0 H _ ((b, .inl (k 1, 113, .inl (upd (upd (upd (upd (upd (upd (upd (upd (upd (upd (upd (upd f 100 (vp_nar .char 116)) 101 (vp_nar .char 104)) 102 (vp_nar .char 105)) 103 (vp_nar .char 110)) 104 (vp_nar .char 32)) 105 (vp_nar .char 115)) 106 (vp_nar .char 113)) 107 (vp_nar .char 117)) 108 (vp_nar .char 101)) 109 (vp_nar .char 101)) 110 (vp_nar .char 122)) 111 (vp_nar .char 101)))) :: w) := h
  refine lv_dup C.1 C.2.1 dX12_init_684 rfl ?_
  refine lv_bipush (v := 112) C.1 C.2.1 dX12_init_685 (by decide) ?_
  refine lv_bipush (v := 32) C.1 C.2.1 dX12_init_687 (by decide) ?_
  refine x_cast C h 0 1 dX12_init_689 rfl rfl (by unfold vp_in; decide) (fun H locs h => ?_)
  have h : Hp D A H0 H _ ((b, .inl (k 1, 113, .inl (upd (upd (upd (upd (upd (upd (upd (upd (upd (upd (upd (upd (upd f 100 (vp_nar .char 116)) 101 (vp_nar .char 104)) 102 (vp_nar .char 105)) 103 (vp_nar .char 110)) 104 (vp_nar .char 32)) 105 (vp_nar .char 115)) 106 (vp_nar .char 113)) 107 (vp_nar .char 117)) 108 (vp_nar .char 101)) 109 (vp_nar .char 101)) 110 (vp_nar .char 122)) 111 (vp_nar .char 101)) 112 (vp_nar .char 32)))) :: w) := h
  exact kk H _ h
set_option maxHeartbeats 4000000 in
set_option maxRecDepth 100000 in
theorem sg8 {p : Program} {l : Launch} {e : Env} {R : Room} {s : State} {m : MethodId} {args : Array Value} {below : List Frame} {meth : Method} {c : Code} {H : Heap} {locs : List Loc} {cells slots : Nat} {Q : State → Prop} {ls : Array Slot} {D : va_G} {A : Nat → Prop} {k : Nat → ClassId} {H0 : Heap} {a : Nat} {fs : List Value} {w : va_W} (C : Cx p s m args c cX12_init RX12 wsX12_init D (TYs k) 2) (hmn : meth.name = "<init>") (hl : lv_has ls 2 [(0, .ref a)]) (hn : fs.length = 153) (hcl : cells + 1 ≤ R.cells) (hsl : slots + 113 ≤ R.slots) (h : Hp D A H0 H locs ((a, .inr (13, fs)) :: w)) (kk : ∀ (q16 : Nat) (H : Heap) (locs : List Loc), Hp D A H0 H locs ((a, .inr (13, (fs.set 14 (.ref q16)))) :: ((q16, .inl (k 1, 113, .inl (upd (upd (upd (upd (upd (upd (upd (upd (upd (upd (upd (upd (upd (upd (upd (upd (upd (upd (upd (upd (upd (upd (upd (upd (upd (upd (upd (upd (upd (upd (upd (upd (upd (upd (upd (upd (upd (upd (upd (upd (upd (upd (upd (upd (upd (upd (upd (upd (upd (upd (upd (upd (upd (upd (upd (upd (upd (upd (upd (upd (upd (upd (upd (upd (upd (upd (upd (upd (upd (upd (upd (upd (upd (upd (upd (upd (upd (upd (upd (upd (upd (upd (upd (upd (upd (upd (upd (upd (upd (upd (upd (upd (upd (upd (upd (upd (upd (upd (upd (upd (upd (upd (upd (upd (upd (upd (upd (upd (upd (upd (upd (upd (upd (fun _ => 0) 0 (vp_nar .char 102)) 1 (vp_nar .char 97)) 2 (vp_nar .char 115)) 3 (vp_nar .char 116)) 4 (vp_nar .char 32)) 5 (vp_nar .char 115)) 6 (vp_nar .char 108)) 7 (vp_nar .char 111)) 8 (vp_nar .char 119)) 9 (vp_nar .char 32)) 10 (vp_nar .char 101)) 11 (vp_nar .char 97)) 12 (vp_nar .char 114)) 13 (vp_nar .char 108)) 14 (vp_nar .char 121)) 15 (vp_nar .char 32)) 16 (vp_nar .char 108)) 17 (vp_nar .char 97)) 18 (vp_nar .char 116)) 19 (vp_nar .char 101)) 20 (vp_nar .char 32)) 21 (vp_nar .char 114)) 22 (vp_nar .char 101)) 23 (vp_nar .char 118)) 24 (vp_nar .char 32)) 25 (vp_nar .char 101)) 26 (vp_nar .char 118)) 27 (vp_nar .char 101)) 28 (vp_nar .char 114)) 29 (vp_nar .char 121)) 30 (vp_nar .char 32)) 31 (vp_nar .char 119)) 32 (vp_nar .char 104)) 33 (vp_nar .char 101)) 34 (vp_nar .char 110)) 35 (vp_nar .char 32)) 36 (vp_nar .char 111)) 37 (vp_nar .char 102)) 38 (vp_nar .char 102)) 39 (vp_nar .char 32)) 40 (vp_nar .char 111)) 41 (vp_nar .char 118)) 42 (vp_nar .char 101)) 43 (vp_nar .char 114)) 44 (vp_nar .char 32)) 45 (vp_nar .char 105)) 46 (vp_nar .char 116)) 47 (vp_nar .char 101)) 48 (vp_nar .char 114)) 49 (vp_nar .char 32)) 50 (vp_nar .char 112)) 51 (vp_nar .char 108)) 52 (vp_nar .char 121)) 53 (vp_nar .char 32)) 54 (vp_nar .char 99)) 55 (vp_nar .char 104)) 56 (vp_nar .char 117)) 57 (vp_nar .char 110)) 58 (vp_nar .char 107)) 59 (vp_nar .char 32)) 60 (vp_nar .char 105)) 61 (vp_nar .char 110)) 62 (vp_nar .char 115)) 63 (vp_nar .char 105)) 64 (vp_nar .char 100)) 65 (vp_nar .char 101)) 66 (vp_nar .char 32)) 67 (vp_nar .char 114)) 68 (vp_nar .char 111)) 69 (vp_nar .char 116)) 70 (vp_nar .char 32)) 71 (vp_nar .char 115)) 72 (vp_nar .char 116)) 73 (vp_nar .char 114)) 74 (vp_nar .char 117)) 75 (vp_nar .char 99)) 76 (vp_nar .char 116)) 77 (vp_nar .char 32)) 78 (vp_nar .char 109)) 79 (vp_nar .char 97)) 80 (vp_nar .char 115)) 81 (vp_nar .char 107)) 82 (vp_nar .char 32)) 83 (vp_nar .char 100)) 84 (vp_nar .char 114)) 85 (vp_nar .char 111)) 86 (vp_nar .char 112)) 87 (vp_nar .char 32)) 88 (vp_nar .char 107)) 89 (vp_nar .char 101)) 90 (vp_nar .char 101)) 91 (vp_nar .char 112)) 92 (vp_nar .char 32)) 93 (vp_nar .char 115)) 94 (vp_nar .char 111)) 95 (vp_nar .char 109)) 96 (vp_nar .char 101)) 97 (vp_nar .char 32)) 98 (vp_nar .char 119)) 99 (vp_nar .char 105)) 100 (vp_nar .char 116)) 101 (vp_nar .char 104)) 102 (vp_nar .char 105)) 103 (vp_nar .char 110)) 104 (vp_nar .char 32)) 105 (vp_nar .char 115)) 106 (vp_nar .char 113)) 107 (vp_nar .char 117)) 108 (vp_nar .char 101)) 109 (vp_nar .char 101)) 110 (vp_nar .char 122)) 111 (vp_nar .char 101)) 112 (vp_nar .char 32)))) :: w)) → W p l e R s m args below meth c H locs (cells + 1) (slots + 113) Q (F0 m 693 ls [])) : W p l e R s m args below meth c H locs cells slots Q (F0 m 13 ls []) := by
  refine lv_aload_n C.1 C.2.1 dX12_init_13 rfl (lv_at hl 0 rfl) ?_
  refine lv_bipush (v := 113) C.1 C.2.1 dX12_init_14 (by decide) ?_
  refine x_newa (a0 := (113, .inl (fun _ => 0))) C h 1 dX12_init_16 rfl rfl (List.mem_of_getElem? (i := 6) rfl) (fun _ => rfl) (by decide) (by decide) (by decide) (by omega) (by omega) (fun q16 H h => ?_)
  have h := Hp.front h
  refine sg2 (fs := []) (a := 0) C hmn h (fun H locs h => ?_)
  refine sg3 (fs := []) (a := 0) C hmn h (fun H locs h => ?_)
  refine sg4 (fs := []) (a := 0) C hmn h (fun H locs h => ?_)
  refine sg5 (fs := []) (a := 0) C hmn h (fun H locs h => ?_)
  refine sg6 (fs := []) (a := 0) C hmn h (fun H locs h => ?_)
  refine sg7 (fs := []) (a := 0) C hmn h (fun H locs h => ?_)
  refine x_putFT tX12_14 yX12_14 C hmn h 1 dX12_init_690 rfl rfl iX12m (Nat.le_of_ble_eq_true rfl) (List.mem_of_getElem? (i := 7) rfl) tyX12_ok nmX12 (by rw [hn]; decide) rfl rfl rfl (fun H locs h => ?_)
  have h : Hp D A H0 H _ ((a, .inr (13, (fs.set 14 (.ref q16)))) :: ((q16, .inl (k 1, 113, .inl (upd (upd (upd (upd (upd (upd (upd (upd (upd (upd (upd (upd (upd (upd (upd (upd (upd (upd (upd (upd (upd (upd (upd (upd (upd (upd (upd (upd (upd (upd (upd (upd (upd (upd (upd (upd (upd (upd (upd (upd (upd (upd (upd (upd (upd (upd (upd (upd (upd (upd (upd (upd (upd (upd (upd (upd (upd (upd (upd (upd (upd (upd (upd (upd (upd (upd (upd (upd (upd (upd (upd (upd (upd (upd (upd (upd (upd (upd (upd (upd (upd (upd (upd (upd (upd (upd (upd (upd (upd (upd (upd (upd (upd (upd (upd (upd (upd (upd (upd (upd (upd (upd (upd (upd (upd (upd (upd (upd (upd (upd (upd (upd (upd (fun _ => 0) 0 (vp_nar .char 102)) 1 (vp_nar .char 97)) 2 (vp_nar .char 115)) 3 (vp_nar .char 116)) 4 (vp_nar .char 32)) 5 (vp_nar .char 115)) 6 (vp_nar .char 108)) 7 (vp_nar .char 111)) 8 (vp_nar .char 119)) 9 (vp_nar .char 32)) 10 (vp_nar .char 101)) 11 (vp_nar .char 97)) 12 (vp_nar .char 114)) 13 (vp_nar .char 108)) 14 (vp_nar .char 121)) 15 (vp_nar .char 32)) 16 (vp_nar .char 108)) 17 (vp_nar .char 97)) 18 (vp_nar .char 116)) 19 (vp_nar .char 101)) 20 (vp_nar .char 32)) 21 (vp_nar .char 114)) 22 (vp_nar .char 101)) 23 (vp_nar .char 118)) 24 (vp_nar .char 32)) 25 (vp_nar .char 101)) 26 (vp_nar .char 118)) 27 (vp_nar .char 101)) 28 (vp_nar .char 114)) 29 (vp_nar .char 121)) 30 (vp_nar .char 32)) 31 (vp_nar .char 119)) 32 (vp_nar .char 104)) 33 (vp_nar .char 101)) 34 (vp_nar .char 110)) 35 (vp_nar .char 32)) 36 (vp_nar .char 111)) 37 (vp_nar .char 102)) 38 (vp_nar .char 102)) 39 (vp_nar .char 32)) 40 (vp_nar .char 111)) 41 (vp_nar .char 118)) 42 (vp_nar .char 101)) 43 (vp_nar .char 114)) 44 (vp_nar .char 32)) 45 (vp_nar .char 105)) 46 (vp_nar .char 116)) 47 (vp_nar .char 101)) 48 (vp_nar .char 114)) 49 (vp_nar .char 32)) 50 (vp_nar .char 112)) 51 (vp_nar .char 108)) 52 (vp_nar .char 121)) 53 (vp_nar .char 32)) 54 (vp_nar .char 99)) 55 (vp_nar .char 104)) 56 (vp_nar .char 117)) 57 (vp_nar .char 110)) 58 (vp_nar .char 107)) 59 (vp_nar .char 32)) 60 (vp_nar .char 105)) 61 (vp_nar .char 110)) 62 (vp_nar .char 115)) 63 (vp_nar .char 105)) 64 (vp_nar .char 100)) 65 (vp_nar .char 101)) 66 (vp_nar .char 32)) 67 (vp_nar .char 114)) 68 (vp_nar .char 111)) 69 (vp_nar .char 116)) 70 (vp_nar .char 32)) 71 (vp_nar .char 115)) 72 (vp_nar .char 116)) 73 (vp_nar .char 114)) 74 (vp_nar .char 117)) 75 (vp_nar .char 99)) 76 (vp_nar .char 116)) 77 (vp_nar .char 32)) 78 (vp_nar .char 109)) 79 (vp_nar .char 97)) 80 (vp_nar .char 115)) 81 (vp_nar .char 107)) 82 (vp_nar .char 32)) 83 (vp_nar .char 100)) 84 (vp_nar .char 114)) 85 (vp_nar .char 111)) 86 (vp_nar .char 112)) 87 (vp_nar .char 32)) 88 (vp_nar .char 107)) 89 (vp_nar .char 101)) 90 (vp_nar .char 101)) 91 (vp_nar .char 112)) 92 (vp_nar .char 32)) 93 (vp_nar .char 115)) 94 (vp_nar .char 111)) 95 (vp_nar .char 109)) 96 (vp_nar .char 101)) 97 (vp_nar .char 32)) 98 (vp_nar .char 119)) 99 (vp_nar .char 105)) 100 (vp_nar .char 116)) 101 (vp_nar .char 104)) 102 (vp_nar .char 105)) 103 (vp_nar .char 110)) 104 (vp_nar .char 32)) 105 (vp_nar .char 115)) 106 (vp_nar .char 113)) 107 (vp_nar .char 117)) 108 (vp_nar .char 101)) 109 (vp_nar .char 101)) 110 (vp_nar .char 122)) 111 (vp_nar .char 101)) 112 (vp_nar .char 32)))) :: w)) := Hp.swap h
  exact kk q16 H _ h
set_option maxHeartbeats 4000000 in
set_option maxRecDepth 100000 in
theorem sg9 {p : Program} {l : Launch} {e : Env} {R : Room} {s : State} {m : MethodId} {args : Array Value} {below : List Frame} {meth : Method} {c : Code} {H : Heap} {locs : List Loc} {cells slots : Nat} {Q : State → Prop} {ls : Array Slot} {D : va_G} {A : Nat → Prop} {k : Nat → ClassId} {H0 : Heap} {a : Nat} {fs : List Value} {w : va_W} {b : Nat} {rest : List Value} {f : Nat → Int32} (C : Cx p s m args c cX12_init RX12 wsX12_init D (TYs k) 2) (hmn : meth.name = "<init>") (h : Hp D A H0 H locs ((b, .inl (k 2, 21, .inl f)) :: w)) (kk : ∀ (H : Heap) (locs : List Loc), Hp D A H0 H locs ((b, .inl (k 2, 21, .inl (upd (upd (upd (upd (upd (upd (upd (upd (upd (upd (upd (upd (upd (upd (upd (upd (upd (upd (upd (upd f 0 14) 1 14) 2 14) 3 14) 4 4) 5 234) 6 2234) 7 134) 8 34) 9 24) 10 24) 11 234) 12 234) 13 24) 14 44) 15 44) 16 24) 17 24) 18 234) 19 1134))) :: w) → W p l e R s m args below meth c H locs cells slots Q (F0 m 818 ls (.ref b :: rest))) : W p l e R s m args below meth c H locs cells slots Q (F0 m 698 ls (.ref b :: rest)) := by
  refine lv_dup C.1 C.2.1 dX12_init_698 rfl ?_
  refine lv_iconst (v := 0) C.1 C.2.1 dX12_init_699 (by decide) ?_
  refine lv_bipush (v := 14) C.1 C.2.1 dX12_init_700 (by decide) ?_
  refine x_iast C h 0 2 dX12_init_702 rfl rfl (by unfold vp_in; decide) (fun H locs h => ?_)
  have h : Hp D A H0 H _ ((b, .inl (k 2, 21, .inl (upd f 0 14))) :: w) := h
  refine lv_dup C.1 C.2.1 dX12_init_703 rfl ?_
  refine lv_iconst (v := 1) C.1 C.2.1 dX12_init_704 (by decide) ?_
  refine lv_bipush (v := 14) C.1 C.2.1 dX12_init_705 (by decide) ?_
  refine x_iast C h 0 2 dX12_init_707 rfl rfl (by unfold vp_in; decide) (fun H locs h => ?_)
  have h : Hp D A H0 H _ ((b, .inl (k 2, 21, .inl (upd (upd f 0 14) 1 14))) :: w) := h
  refine lv_dup C.1 C.2.1 dX12_init_708 rfl ?_
  refine lv_iconst (v := 2) C.1 C.2.1 dX12_init_709 (by decide) ?_
  refine lv_bipush (v := 14) C.1 C.2.1 dX12_init_710 (by decide) ?_
  refine x_iast C h 0 2 dX12_init_712 rfl rfl (by unfold vp_in; decide) (fun H locs h => ?_)
  have h : Hp D A H0 H _ ((b, .inl (k 2, 21, .inl (upd (upd (upd f 0 14) 1 14) 2 14))) :: w) := h
  refine lv_dup C.1 C.2.1 dX12_init_713 rfl ?_
  refine lv_iconst (v := 3) C.1 C.2.1 dX12_init_714 (by decide) ?_
  refine lv_bipush (v := 14) C.1 C.2.1 dX12_init_715 (by decide) ?_
  refine x_iast C h 0 2 dX12_init_717 rfl rfl (by unfold vp_in; decide) (fun H locs h => ?_)
  have h : Hp D A H0 H _ ((b, .inl (k 2, 21, .inl (upd (upd (upd (upd f 0 14) 1 14) 2 14) 3 14))) :: w) := h
  refine lv_dup C.1 C.2.1 dX12_init_718 rfl ?_
  refine lv_iconst (v := 4) C.1 C.2.1 dX12_init_719 (by decide) ?_
  refine lv_iconst (v := 4) C.1 C.2.1 dX12_init_720 (by decide) ?_
  refine x_iast C h 0 2 dX12_init_721 rfl rfl (by unfold vp_in; decide) (fun H locs h => ?_)
  have h : Hp D A H0 H _ ((b, .inl (k 2, 21, .inl (upd (upd (upd (upd (upd f 0 14) 1 14) 2 14) 3 14) 4 4))) :: w) := h
  refine lv_dup C.1 C.2.1 dX12_init_722 rfl ?_
  refine lv_iconst (v := 5) C.1 C.2.1 dX12_init_723 (by decide) ?_
  refine lv_sipush (v := 234) C.1 C.2.1 dX12_init_724 (by decide) ?_
  refine x_iast C h 0 2 dX12_init_727 rfl rfl (by unfold vp_in; decide) (fun H locs h => ?_)
  have h : Hp D A H0 H _ ((b, .inl (k 2, 21, .inl (upd (upd (upd (upd (upd (upd f 0 14) 1 14) 2 14) 3 14) 4 4) 5 234))) :: w) := h
  refine lv_dup C.1 C.2.1 dX12_init_728 rfl ?_
  refine lv_bipush (v := 6) C.1 C.2.1 dX12_init_729 (by decide) ?_
  refine lv_sipush (v := 2234) C.1 C.2.1 dX12_init_731 (by decide) ?_
  refine x_iast C h 0 2 dX12_init_734 rfl rfl (by unfold vp_in; decide) (fun H locs h => ?_)
  have h : Hp D A H0 H _ ((b, .inl (k 2, 21, .inl (upd (upd (upd (upd (upd (upd (upd f 0 14) 1 14) 2 14) 3 14) 4 4) 5 234) 6 2234))) :: w) := h
  refine lv_dup C.1 C.2.1 dX12_init_735 rfl ?_
  refine lv_bipush (v := 7) C.1 C.2.1 dX12_init_736 (by decide) ?_
  refine lv_sipush (v := 134) C.1 C.2.1 dX12_init_738 (by decide) ?_
  refine x_iast C h 0 2 dX12_init_741 rfl rfl (by unfold vp_in; decide) (fun H locs h => ?_)
  have h : Hp D A H0 H _ ((b, .inl (k 2, 21, .inl (upd (upd (upd (upd (upd (upd (upd (upd f 0 14) 1 14) 2 14) 3 14) 4 4) 5 234) 6 2234) 7 134))) :: w) := h
  refine lv_dup C.1 C.2.1 dX12_init_742 rfl ?_
  refine lv_bipush (v := 8) C.1 C.2.1 dX12_init_743 (by decide) ?_
  refine lv_bipush (v := 34) C.1 C.2.1 dX12_init_745 (by decide) ?_
  refine x_iast C h 0 2 dX12_init_747 rfl rfl (by unfold vp_in; decide) (fun H locs h => ?_)
  have h : Hp D A H0 H _ ((b, .inl (k 2, 21, .inl (upd (upd (upd (upd (upd (upd (upd (upd (upd f 0 14) 1 14) 2 14) 3 14) 4 4) 5 234) 6 2234) 7 134) 8 34))) :: w) := h
  refine lv_dup C.1 C.2.1 dX12_init_748 rfl ?_
  refine lv_bipush (v := 9) C.1 C.2.1 dX12_init_749 (by decide) ?_
  refine lv_bipush (v := 24) C.1 C.2.1 dX12_init_751 (by decide) ?_
  refine x_iast C h 0 2 dX12_init_753 rfl rfl (by unfold vp_in; decide) (fun H locs h => ?_)
  have h : Hp D A H0 H _ ((b, .inl (k 2, 21, .inl (upd (upd (upd (upd (upd (upd (upd (upd (upd (upd f 0 14) 1 14) 2 14) 3 14) 4 4) 5 234) 6 2234) 7 134) 8 34) 9 24))) :: w) := h
  refine lv_dup C.1 C.2.1 dX12_init_754 rfl ?_
  refine lv_bipush (v := 10) C.1 C.2.1 dX12_init_755 (by decide) ?_
  refine lv_bipush (v := 24) C.1 C.2.1 dX12_init_757 (by decide) ?_
  refine x_iast C h 0 2 dX12_init_759 rfl rfl (by unfold vp_in; decide) (fun H locs h => ?_)
  have h : Hp D A H0 H _ ((b, .inl (k 2, 21, .inl (upd (upd (upd (upd (upd (upd (upd (upd (upd (upd (upd f 0 14) 1 14) 2 14) 3 14) 4 4) 5 234) 6 2234) 7 134) 8 34) 9 24) 10 24))) :: w) := h
  refine lv_dup C.1 C.2.1 dX12_init_760 rfl ?_
  refine lv_bipush (v := 11) C.1 C.2.1 dX12_init_761 (by decide) ?_
  refine lv_sipush (v := 234) C.1 C.2.1 dX12_init_763 (by decide) ?_
  refine x_iast C h 0 2 dX12_init_766 rfl rfl (by unfold vp_in; decide) (fun H locs h => ?_)
  have h : Hp D A H0 H _ ((b, .inl (k 2, 21, .inl (upd (upd (upd (upd (upd (upd (upd (upd (upd (upd (upd (upd f 0 14) 1 14) 2 14) 3 14) 4 4) 5 234) 6 2234) 7 134) 8 34) 9 24) 10 24) 11 234))) :: w) := h
  refine lv_dup C.1 C.2.1 dX12_init_767 rfl ?_
  refine lv_bipush (v := 12) C.1 C.2.1 dX12_init_768 (by decide) ?_
  refine lv_sipush (v := 234) C.1 C.2.1 dX12_init_770 (by decide) ?_
  refine x_iast C h 0 2 dX12_init_773 rfl rfl (by unfold vp_in; decide) (fun H locs h => ?_)
  have h : Hp D A H0 H _ ((b, .inl (k 2, 21, .inl (upd (upd (upd (upd (upd (upd (upd (upd (upd (upd (upd (upd (upd f 0 14) 1 14) 2 14) 3 14) 4 4) 5 234) 6 2234) 7 134) 8 34) 9 24) 10 24) 11 234) 12 234))) :: w) := h
  refine lv_dup C.1 C.2.1 dX12_init_774 rfl ?_
  refine lv_bipush (v := 13) C.1 C.2.1 dX12_init_775 (by decide) ?_
  refine lv_bipush (v := 24) C.1 C.2.1 dX12_init_777 (by decide) ?_
  refine x_iast C h 0 2 dX12_init_779 rfl rfl (by unfold vp_in; decide) (fun H locs h => ?_)
  have h : Hp D A H0 H _ ((b, .inl (k 2, 21, .inl (upd (upd (upd (upd (upd (upd (upd (upd (upd (upd (upd (upd (upd (upd f 0 14) 1 14) 2 14) 3 14) 4 4) 5 234) 6 2234) 7 134) 8 34) 9 24) 10 24) 11 234) 12 234) 13 24))) :: w) := h
  refine lv_dup C.1 C.2.1 dX12_init_780 rfl ?_
  refine lv_bipush (v := 14) C.1 C.2.1 dX12_init_781 (by decide) ?_
  refine lv_bipush (v := 44) C.1 C.2.1 dX12_init_783 (by decide) ?_
  refine x_iast C h 0 2 dX12_init_785 rfl rfl (by unfold vp_in; decide) (fun H locs h => ?_)
  have h : Hp D A H0 H _ ((b, .inl (k 2, 21, .inl (upd (upd (upd (upd (upd (upd (upd (upd (upd (upd (upd (upd (upd (upd (upd f 0 14) 1 14) 2 14) 3 14) 4 4) 5 234) 6 2234) 7 134) 8 34) 9 24) 10 24) 11 234) 12 234) 13 24) 14 44))) :: w) := h
  refine lv_dup C.1 C.2.1 dX12_init_786 rfl ?_
  refine lv_bipush (v := 15) C.1 C.2.1 dX12_init_787 (by decide) ?_
  refine lv_bipush (v := 44) C.1 C.2.1 dX12_init_789 (by decide) ?_
  refine x_iast C h 0 2 dX12_init_791 rfl rfl (by unfold vp_in; decide) (fun H locs h => ?_)
  have h : Hp D A H0 H _ ((b, .inl (k 2, 21, .inl (upd (upd (upd (upd (upd (upd (upd (upd (upd (upd (upd (upd (upd (upd (upd (upd f 0 14) 1 14) 2 14) 3 14) 4 4) 5 234) 6 2234) 7 134) 8 34) 9 24) 10 24) 11 234) 12 234) 13 24) 14 44) 15 44))) :: w) := h
  refine lv_dup C.1 C.2.1 dX12_init_792 rfl ?_
  refine lv_bipush (v := 16) C.1 C.2.1 dX12_init_793 (by decide) ?_
  refine lv_bipush (v := 24) C.1 C.2.1 dX12_init_795 (by decide) ?_
  refine x_iast C h 0 2 dX12_init_797 rfl rfl (by unfold vp_in; decide) (fun H locs h => ?_)
  have h : Hp D A H0 H _ ((b, .inl (k 2, 21, .inl (upd (upd (upd (upd (upd (upd (upd (upd (upd (upd (upd (upd (upd (upd (upd (upd (upd f 0 14) 1 14) 2 14) 3 14) 4 4) 5 234) 6 2234) 7 134) 8 34) 9 24) 10 24) 11 234) 12 234) 13 24) 14 44) 15 44) 16 24))) :: w) := h
  refine lv_dup C.1 C.2.1 dX12_init_798 rfl ?_
  refine lv_bipush (v := 17) C.1 C.2.1 dX12_init_799 (by decide) ?_
  refine lv_bipush (v := 24) C.1 C.2.1 dX12_init_801 (by decide) ?_
  refine x_iast C h 0 2 dX12_init_803 rfl rfl (by unfold vp_in; decide) (fun H locs h => ?_)
  have h : Hp D A H0 H _ ((b, .inl (k 2, 21, .inl (upd (upd (upd (upd (upd (upd (upd (upd (upd (upd (upd (upd (upd (upd (upd (upd (upd (upd f 0 14) 1 14) 2 14) 3 14) 4 4) 5 234) 6 2234) 7 134) 8 34) 9 24) 10 24) 11 234) 12 234) 13 24) 14 44) 15 44) 16 24) 17 24))) :: w) := h
  refine lv_dup C.1 C.2.1 dX12_init_804 rfl ?_
  refine lv_bipush (v := 18) C.1 C.2.1 dX12_init_805 (by decide) ?_
  refine lv_sipush (v := 234) C.1 C.2.1 dX12_init_807 (by decide) ?_
  refine x_iast C h 0 2 dX12_init_810 rfl rfl (by unfold vp_in; decide) (fun H locs h => ?_)
  have h : Hp D A H0 H _ ((b, .inl (k 2, 21, .inl (upd (upd (upd (upd (upd (upd (upd (upd (upd (upd (upd (upd (upd (upd (upd (upd (upd (upd (upd f 0 14) 1 14) 2 14) 3 14) 4 4) 5 234) 6 2234) 7 134) 8 34) 9 24) 10 24) 11 234) 12 234) 13 24) 14 44) 15 44) 16 24) 17 24) 18 234))) :: w) := h
  refine lv_dup C.1 C.2.1 dX12_init_811 rfl ?_
  refine lv_bipush (v := 19) C.1 C.2.1 dX12_init_812 (by decide) ?_
  refine lv_sipush (v := 1134) C.1 C.2.1 dX12_init_814 (by decide) ?_
  refine x_iast C h 0 2 dX12_init_817 rfl rfl (by unfold vp_in; decide) (fun H locs h => ?_)
  have h : Hp D A H0 H _ ((b, .inl (k 2, 21, .inl (upd (upd (upd (upd (upd (upd (upd (upd (upd (upd (upd (upd (upd (upd (upd (upd (upd (upd (upd (upd f 0 14) 1 14) 2 14) 3 14) 4 4) 5 234) 6 2234) 7 134) 8 34) 9 24) 10 24) 11 234) 12 234) 13 24) 14 44) 15 44) 16 24) 17 24) 18 234) 19 1134))) :: w) := h
  exact kk H _ h
set_option maxHeartbeats 4000000 in
set_option maxRecDepth 100000 in
theorem sg10 {p : Program} {l : Launch} {e : Env} {R : Room} {s : State} {m : MethodId} {args : Array Value} {below : List Frame} {meth : Method} {c : Code} {H : Heap} {locs : List Loc} {cells slots : Nat} {Q : State → Prop} {ls : Array Slot} {D : va_G} {A : Nat → Prop} {k : Nat → ClassId} {H0 : Heap} {a : Nat} {fs : List Value} {w : va_W} {b : Nat} {rest : List Value} {f : Nat → Int32} (C : Cx p s m args c cX12_init RX12 wsX12_init D (TYs k) 2) (hmn : meth.name = "<init>") (h : Hp D A H0 H locs ((b, .inl (k 2, 21, .inl f)) :: w)) (kk : ∀ (H : Heap) (locs : List Loc), Hp D A H0 H locs ((b, .inl (k 2, 21, .inl (upd f 20 114))) :: w) → W p l e R s m args below meth c H locs cells slots Q (F0 m 824 ls (.ref b :: rest))) : W p l e R s m args below meth c H locs cells slots Q (F0 m 818 ls (.ref b :: rest)) := by
  refine lv_dup C.1 C.2.1 dX12_init_818 rfl ?_
  refine lv_bipush (v := 20) C.1 C.2.1 dX12_init_819 (by decide) ?_
  refine lv_bipush (v := 114) C.1 C.2.1 dX12_init_821 (by decide) ?_
  refine x_iast C h 0 2 dX12_init_823 rfl rfl (by unfold vp_in; decide) (fun H locs h => ?_)
  have h : Hp D A H0 H _ ((b, .inl (k 2, 21, .inl (upd f 20 114))) :: w) := h
  exact kk H _ h
set_option maxHeartbeats 4000000 in
set_option maxRecDepth 100000 in
theorem sg11 {p : Program} {l : Launch} {e : Env} {R : Room} {s : State} {m : MethodId} {args : Array Value} {below : List Frame} {meth : Method} {c : Code} {H : Heap} {locs : List Loc} {cells slots : Nat} {Q : State → Prop} {ls : Array Slot} {D : va_G} {A : Nat → Prop} {k : Nat → ClassId} {H0 : Heap} {a : Nat} {fs : List Value} {w : va_W} (C : Cx p s m args c cX12_init RX12 wsX12_init D (TYs k) 2) (hmn : meth.name = "<init>") (hl : lv_has ls 2 [(0, .ref a)]) (hn : fs.length = 153) (hcl : cells + 1 ≤ R.cells) (hsl : slots + 21 ≤ R.slots) (h : Hp D A H0 H locs ((a, .inr (13, fs)) :: w)) (kk : ∀ (q696 : Nat) (H : Heap) (locs : List Loc), Hp D A H0 H locs ((a, .inr (13, (fs.set 15 (.ref q696)))) :: ((q696, .inl (k 2, 21, .inl (upd (upd (upd (upd (upd (upd (upd (upd (upd (upd (upd (upd (upd (upd (upd (upd (upd (upd (upd (upd (upd (fun _ => 0) 0 14) 1 14) 2 14) 3 14) 4 4) 5 234) 6 2234) 7 134) 8 34) 9 24) 10 24) 11 234) 12 234) 13 24) 14 44) 15 44) 16 24) 17 24) 18 234) 19 1134) 20 114))) :: w)) → W p l e R s m args below meth c H locs (cells + 1) (slots + 21) Q (F0 m 827 ls [])) : W p l e R s m args below meth c H locs cells slots Q (F0 m 693 ls []) := by
  refine lv_aload_n C.1 C.2.1 dX12_init_693 rfl (lv_at hl 0 rfl) ?_
  refine lv_bipush (v := 21) C.1 C.2.1 dX12_init_694 (by decide) ?_
  refine x_newa (a0 := (21, .inl (fun _ => 0))) C h 2 dX12_init_696 rfl rfl (List.mem_of_getElem? (i := 8) rfl) (fun _ => rfl) (by decide) (by decide) (by decide) (by omega) (by omega) (fun q696 H h => ?_)
  have h := Hp.front h
  refine sg9 (fs := []) (a := 0) C hmn h (fun H locs h => ?_)
  refine sg10 (fs := []) (a := 0) C hmn h (fun H locs h => ?_)
  refine x_putFT tX12_15 yX12_15 C hmn h 1 dX12_init_824 rfl rfl iX12m (Nat.le_of_ble_eq_true rfl) (List.mem_of_getElem? (i := 9) rfl) tyX12_ok nmX12 (by rw [hn]; decide) rfl rfl rfl (fun H locs h => ?_)
  have h : Hp D A H0 H _ ((a, .inr (13, (fs.set 15 (.ref q696)))) :: ((q696, .inl (k 2, 21, .inl (upd (upd (upd (upd (upd (upd (upd (upd (upd (upd (upd (upd (upd (upd (upd (upd (upd (upd (upd (upd (upd (fun _ => 0) 0 14) 1 14) 2 14) 3 14) 4 4) 5 234) 6 2234) 7 134) 8 34) 9 24) 10 24) 11 234) 12 234) 13 24) 14 44) 15 44) 16 24) 17 24) 18 234) 19 1134) 20 114))) :: w)) := Hp.swap h
  exact kk q696 H _ h
set_option maxHeartbeats 4000000 in
set_option maxRecDepth 100000 in
theorem sg12 {p : Program} {l : Launch} {e : Env} {R : Room} {s : State} {m : MethodId} {args : Array Value} {below : List Frame} {meth : Method} {c : Code} {H : Heap} {locs : List Loc} {cells slots : Nat} {Q : State → Prop} {ls : Array Slot} {D : va_G} {A : Nat → Prop} {k : Nat → ClassId} {H0 : Heap} {a : Nat} {fs : List Value} {w : va_W} (C : Cx p s m args c cX12_init RX12 wsX12_init D (TYs k) 2) (hmn : meth.name = "<init>") (hl : lv_has ls 2 [(0, .ref a)]) (hn : fs.length = 153) (hcl : cells + 8 ≤ R.cells) (hsl : slots + 262144 ≤ R.slots) (h : Hp D A H0 H locs ((a, .inr (13, fs)) :: w)) (kk : ∀ (q831 q840 q849 q858 q867 q876 q885 q894 : Nat) (H : Heap) (locs : List Loc), Hp D A H0 H locs ((a, .inr (13, ((((((((fs.set 17 (.ref q831)).set 18 (.ref q840)).set 19 (.ref q849)).set 20 (.ref q858)).set 21 (.ref q867)).set 22 (.ref q876)).set 23 (.ref q885)).set 24 (.ref q894)))) :: ((q894, .inl (k 2, 32768, .inl (fun _ => 0))) :: ((q885, .inl (k 2, 32768, .inl (fun _ => 0))) :: ((q876, .inl (k 2, 32768, .inl (fun _ => 0))) :: ((q867, .inl (k 2, 32768, .inl (fun _ => 0))) :: ((q858, .inl (k 2, 32768, .inl (fun _ => 0))) :: ((q849, .inl (k 2, 32768, .inl (fun _ => 0))) :: ((q840, .inl (k 2, 32768, .inl (fun _ => 0))) :: ((q831, .inl (k 2, 32768, .inl (fun _ => 0))) :: w))))))))) → W p l e R s m args below meth c H locs (cells + 1 + 1 + 1 + 1 + 1 + 1 + 1 + 1) (slots + 32768 + 32768 + 32768 + 32768 + 32768 + 32768 + 32768 + 32768) Q (F0 m 899 ls [])) : W p l e R s m args below meth c H locs cells slots Q (F0 m 827 ls []) := by
  refine lv_aload_n C.1 C.2.1 dX12_init_827 rfl (lv_at hl 0 rfl) ?_
  refine lv_ldcw (v := 32768) C.1 C.2.1 C.2.2.2.1 (C.2.2.1 _ (List.mem_of_getElem? (i := 10) rfl)) dX12_init_828 ?_
  refine x_newa (a0 := (32768, .inl (fun _ => 0))) C h 2 dX12_init_831 rfl rfl (List.mem_of_getElem? (i := 8) rfl) (fun _ => rfl) (by decide) (by decide) (by decide) (by omega) (by omega) (fun q831 H h => ?_)
  have h : Hp D A H0 H _ ((q831, .inl (k 2, 32768, .inl (fun _ => 0))) :: (a, .inr (13, fs)) :: w) := Hp.front h
  refine x_putFT tX12_17 yX12_17 C hmn h 1 dX12_init_833 rfl rfl iX12m (Nat.le_of_ble_eq_true rfl) (List.mem_of_getElem? (i := 11) rfl) tyX12_ok nmX12 (by (try simp only [List.length_set]); rw [hn]; decide) rfl rfl rfl (fun H locs h => ?_)
  have h : Hp D A H0 H _ ((a, .inr (13, (fs.set 17 (.ref q831)))) :: ((q831, .inl (k 2, 32768, .inl (fun _ => 0))) :: w)) := Hp.swap h
  refine lv_aload_n C.1 C.2.1 dX12_init_836 rfl (lv_at hl 0 rfl) ?_
  refine lv_ldcw (v := 32768) C.1 C.2.1 C.2.2.2.1 (C.2.2.1 _ (List.mem_of_getElem? (i := 10) rfl)) dX12_init_837 ?_
  refine x_newa (a0 := (32768, .inl (fun _ => 0))) C h 2 dX12_init_840 rfl rfl (List.mem_of_getElem? (i := 8) rfl) (fun _ => rfl) (by decide) (by decide) (by decide) (by omega) (by omega) (fun q840 H h => ?_)
  have h : Hp D A H0 H _ ((q840, .inl (k 2, 32768, .inl (fun _ => 0))) :: (a, .inr (13, (fs.set 17 (.ref q831)))) :: ((q831, .inl (k 2, 32768, .inl (fun _ => 0))) :: w)) := Hp.front h
  refine x_putFT tX12_18 yX12_18 C hmn h 1 dX12_init_842 rfl rfl iX12m (Nat.le_of_ble_eq_true rfl) (List.mem_of_getElem? (i := 12) rfl) tyX12_ok nmX12 (by (try simp only [List.length_set]); rw [hn]; decide) rfl rfl rfl (fun H locs h => ?_)
  have h : Hp D A H0 H _ ((a, .inr (13, ((fs.set 17 (.ref q831)).set 18 (.ref q840)))) :: ((q840, .inl (k 2, 32768, .inl (fun _ => 0))) :: ((q831, .inl (k 2, 32768, .inl (fun _ => 0))) :: w))) := Hp.swap h
  refine lv_aload_n C.1 C.2.1 dX12_init_845 rfl (lv_at hl 0 rfl) ?_
  refine lv_ldcw (v := 32768) C.1 C.2.1 C.2.2.2.1 (C.2.2.1 _ (List.mem_of_getElem? (i := 10) rfl)) dX12_init_846 ?_
  refine x_newa (a0 := (32768, .inl (fun _ => 0))) C h 2 dX12_init_849 rfl rfl (List.mem_of_getElem? (i := 8) rfl) (fun _ => rfl) (by decide) (by decide) (by decide) (by omega) (by omega) (fun q849 H h => ?_)
  have h : Hp D A H0 H _ ((q849, .inl (k 2, 32768, .inl (fun _ => 0))) :: (a, .inr (13, ((fs.set 17 (.ref q831)).set 18 (.ref q840)))) :: ((q840, .inl (k 2, 32768, .inl (fun _ => 0))) :: ((q831, .inl (k 2, 32768, .inl (fun _ => 0))) :: w))) := Hp.front h
  refine x_putFT tX12_19 yX12_19 C hmn h 1 dX12_init_851 rfl rfl iX12m (Nat.le_of_ble_eq_true rfl) (List.mem_of_getElem? (i := 13) rfl) tyX12_ok nmX12 (by (try simp only [List.length_set]); rw [hn]; decide) rfl rfl rfl (fun H locs h => ?_)
  have h : Hp D A H0 H _ ((a, .inr (13, (((fs.set 17 (.ref q831)).set 18 (.ref q840)).set 19 (.ref q849)))) :: ((q849, .inl (k 2, 32768, .inl (fun _ => 0))) :: ((q840, .inl (k 2, 32768, .inl (fun _ => 0))) :: ((q831, .inl (k 2, 32768, .inl (fun _ => 0))) :: w)))) := Hp.swap h
  refine lv_aload_n C.1 C.2.1 dX12_init_854 rfl (lv_at hl 0 rfl) ?_
  refine lv_ldcw (v := 32768) C.1 C.2.1 C.2.2.2.1 (C.2.2.1 _ (List.mem_of_getElem? (i := 10) rfl)) dX12_init_855 ?_
  refine x_newa (a0 := (32768, .inl (fun _ => 0))) C h 2 dX12_init_858 rfl rfl (List.mem_of_getElem? (i := 8) rfl) (fun _ => rfl) (by decide) (by decide) (by decide) (by omega) (by omega) (fun q858 H h => ?_)
  have h : Hp D A H0 H _ ((q858, .inl (k 2, 32768, .inl (fun _ => 0))) :: (a, .inr (13, (((fs.set 17 (.ref q831)).set 18 (.ref q840)).set 19 (.ref q849)))) :: ((q849, .inl (k 2, 32768, .inl (fun _ => 0))) :: ((q840, .inl (k 2, 32768, .inl (fun _ => 0))) :: ((q831, .inl (k 2, 32768, .inl (fun _ => 0))) :: w)))) := Hp.front h
  refine x_putFT tX12_20 yX12_20 C hmn h 1 dX12_init_860 rfl rfl iX12m (Nat.le_of_ble_eq_true rfl) (List.mem_of_getElem? (i := 14) rfl) tyX12_ok nmX12 (by (try simp only [List.length_set]); rw [hn]; decide) rfl rfl rfl (fun H locs h => ?_)
  have h : Hp D A H0 H _ ((a, .inr (13, ((((fs.set 17 (.ref q831)).set 18 (.ref q840)).set 19 (.ref q849)).set 20 (.ref q858)))) :: ((q858, .inl (k 2, 32768, .inl (fun _ => 0))) :: ((q849, .inl (k 2, 32768, .inl (fun _ => 0))) :: ((q840, .inl (k 2, 32768, .inl (fun _ => 0))) :: ((q831, .inl (k 2, 32768, .inl (fun _ => 0))) :: w))))) := Hp.swap h
  refine lv_aload_n C.1 C.2.1 dX12_init_863 rfl (lv_at hl 0 rfl) ?_
  refine lv_ldcw (v := 32768) C.1 C.2.1 C.2.2.2.1 (C.2.2.1 _ (List.mem_of_getElem? (i := 10) rfl)) dX12_init_864 ?_
  refine x_newa (a0 := (32768, .inl (fun _ => 0))) C h 2 dX12_init_867 rfl rfl (List.mem_of_getElem? (i := 8) rfl) (fun _ => rfl) (by decide) (by decide) (by decide) (by omega) (by omega) (fun q867 H h => ?_)
  have h : Hp D A H0 H _ ((q867, .inl (k 2, 32768, .inl (fun _ => 0))) :: (a, .inr (13, ((((fs.set 17 (.ref q831)).set 18 (.ref q840)).set 19 (.ref q849)).set 20 (.ref q858)))) :: ((q858, .inl (k 2, 32768, .inl (fun _ => 0))) :: ((q849, .inl (k 2, 32768, .inl (fun _ => 0))) :: ((q840, .inl (k 2, 32768, .inl (fun _ => 0))) :: ((q831, .inl (k 2, 32768, .inl (fun _ => 0))) :: w))))) := Hp.front h
  refine x_putFT tX12_21 yX12_21 C hmn h 1 dX12_init_869 rfl rfl iX12m (Nat.le_of_ble_eq_true rfl) (List.mem_of_getElem? (i := 15) rfl) tyX12_ok nmX12 (by (try simp only [List.length_set]); rw [hn]; decide) rfl rfl rfl (fun H locs h => ?_)
  have h : Hp D A H0 H _ ((a, .inr (13, (((((fs.set 17 (.ref q831)).set 18 (.ref q840)).set 19 (.ref q849)).set 20 (.ref q858)).set 21 (.ref q867)))) :: ((q867, .inl (k 2, 32768, .inl (fun _ => 0))) :: ((q858, .inl (k 2, 32768, .inl (fun _ => 0))) :: ((q849, .inl (k 2, 32768, .inl (fun _ => 0))) :: ((q840, .inl (k 2, 32768, .inl (fun _ => 0))) :: ((q831, .inl (k 2, 32768, .inl (fun _ => 0))) :: w)))))) := Hp.swap h
  refine lv_aload_n C.1 C.2.1 dX12_init_872 rfl (lv_at hl 0 rfl) ?_
  refine lv_ldcw (v := 32768) C.1 C.2.1 C.2.2.2.1 (C.2.2.1 _ (List.mem_of_getElem? (i := 10) rfl)) dX12_init_873 ?_
  refine x_newa (a0 := (32768, .inl (fun _ => 0))) C h 2 dX12_init_876 rfl rfl (List.mem_of_getElem? (i := 8) rfl) (fun _ => rfl) (by decide) (by decide) (by decide) (by omega) (by omega) (fun q876 H h => ?_)
  have h : Hp D A H0 H _ ((q876, .inl (k 2, 32768, .inl (fun _ => 0))) :: (a, .inr (13, (((((fs.set 17 (.ref q831)).set 18 (.ref q840)).set 19 (.ref q849)).set 20 (.ref q858)).set 21 (.ref q867)))) :: ((q867, .inl (k 2, 32768, .inl (fun _ => 0))) :: ((q858, .inl (k 2, 32768, .inl (fun _ => 0))) :: ((q849, .inl (k 2, 32768, .inl (fun _ => 0))) :: ((q840, .inl (k 2, 32768, .inl (fun _ => 0))) :: ((q831, .inl (k 2, 32768, .inl (fun _ => 0))) :: w)))))) := Hp.front h
  refine x_putFT tX12_22 yX12_22 C hmn h 1 dX12_init_878 rfl rfl iX12m (Nat.le_of_ble_eq_true rfl) (List.mem_of_getElem? (i := 16) rfl) tyX12_ok nmX12 (by (try simp only [List.length_set]); rw [hn]; decide) rfl rfl rfl (fun H locs h => ?_)
  have h : Hp D A H0 H _ ((a, .inr (13, ((((((fs.set 17 (.ref q831)).set 18 (.ref q840)).set 19 (.ref q849)).set 20 (.ref q858)).set 21 (.ref q867)).set 22 (.ref q876)))) :: ((q876, .inl (k 2, 32768, .inl (fun _ => 0))) :: ((q867, .inl (k 2, 32768, .inl (fun _ => 0))) :: ((q858, .inl (k 2, 32768, .inl (fun _ => 0))) :: ((q849, .inl (k 2, 32768, .inl (fun _ => 0))) :: ((q840, .inl (k 2, 32768, .inl (fun _ => 0))) :: ((q831, .inl (k 2, 32768, .inl (fun _ => 0))) :: w))))))) := Hp.swap h
  refine lv_aload_n C.1 C.2.1 dX12_init_881 rfl (lv_at hl 0 rfl) ?_
  refine lv_ldcw (v := 32768) C.1 C.2.1 C.2.2.2.1 (C.2.2.1 _ (List.mem_of_getElem? (i := 10) rfl)) dX12_init_882 ?_
  refine x_newa (a0 := (32768, .inl (fun _ => 0))) C h 2 dX12_init_885 rfl rfl (List.mem_of_getElem? (i := 8) rfl) (fun _ => rfl) (by decide) (by decide) (by decide) (by omega) (by omega) (fun q885 H h => ?_)
  have h : Hp D A H0 H _ ((q885, .inl (k 2, 32768, .inl (fun _ => 0))) :: (a, .inr (13, ((((((fs.set 17 (.ref q831)).set 18 (.ref q840)).set 19 (.ref q849)).set 20 (.ref q858)).set 21 (.ref q867)).set 22 (.ref q876)))) :: ((q876, .inl (k 2, 32768, .inl (fun _ => 0))) :: ((q867, .inl (k 2, 32768, .inl (fun _ => 0))) :: ((q858, .inl (k 2, 32768, .inl (fun _ => 0))) :: ((q849, .inl (k 2, 32768, .inl (fun _ => 0))) :: ((q840, .inl (k 2, 32768, .inl (fun _ => 0))) :: ((q831, .inl (k 2, 32768, .inl (fun _ => 0))) :: w))))))) := Hp.front h
  refine x_putFT tX12_23 yX12_23 C hmn h 1 dX12_init_887 rfl rfl iX12m (Nat.le_of_ble_eq_true rfl) (List.mem_of_getElem? (i := 17) rfl) tyX12_ok nmX12 (by (try simp only [List.length_set]); rw [hn]; decide) rfl rfl rfl (fun H locs h => ?_)
  have h : Hp D A H0 H _ ((a, .inr (13, (((((((fs.set 17 (.ref q831)).set 18 (.ref q840)).set 19 (.ref q849)).set 20 (.ref q858)).set 21 (.ref q867)).set 22 (.ref q876)).set 23 (.ref q885)))) :: ((q885, .inl (k 2, 32768, .inl (fun _ => 0))) :: ((q876, .inl (k 2, 32768, .inl (fun _ => 0))) :: ((q867, .inl (k 2, 32768, .inl (fun _ => 0))) :: ((q858, .inl (k 2, 32768, .inl (fun _ => 0))) :: ((q849, .inl (k 2, 32768, .inl (fun _ => 0))) :: ((q840, .inl (k 2, 32768, .inl (fun _ => 0))) :: ((q831, .inl (k 2, 32768, .inl (fun _ => 0))) :: w)))))))) := Hp.swap h
  refine lv_aload_n C.1 C.2.1 dX12_init_890 rfl (lv_at hl 0 rfl) ?_
  refine lv_ldcw (v := 32768) C.1 C.2.1 C.2.2.2.1 (C.2.2.1 _ (List.mem_of_getElem? (i := 10) rfl)) dX12_init_891 ?_
  refine x_newa (a0 := (32768, .inl (fun _ => 0))) C h 2 dX12_init_894 rfl rfl (List.mem_of_getElem? (i := 8) rfl) (fun _ => rfl) (by decide) (by decide) (by decide) (by omega) (by omega) (fun q894 H h => ?_)
  have h : Hp D A H0 H _ ((q894, .inl (k 2, 32768, .inl (fun _ => 0))) :: (a, .inr (13, (((((((fs.set 17 (.ref q831)).set 18 (.ref q840)).set 19 (.ref q849)).set 20 (.ref q858)).set 21 (.ref q867)).set 22 (.ref q876)).set 23 (.ref q885)))) :: ((q885, .inl (k 2, 32768, .inl (fun _ => 0))) :: ((q876, .inl (k 2, 32768, .inl (fun _ => 0))) :: ((q867, .inl (k 2, 32768, .inl (fun _ => 0))) :: ((q858, .inl (k 2, 32768, .inl (fun _ => 0))) :: ((q849, .inl (k 2, 32768, .inl (fun _ => 0))) :: ((q840, .inl (k 2, 32768, .inl (fun _ => 0))) :: ((q831, .inl (k 2, 32768, .inl (fun _ => 0))) :: w)))))))) := Hp.front h
  refine x_putFT tX12_24 yX12_24 C hmn h 1 dX12_init_896 rfl rfl iX12m (Nat.le_of_ble_eq_true rfl) (List.mem_of_getElem? (i := 18) rfl) tyX12_ok nmX12 (by (try simp only [List.length_set]); rw [hn]; decide) rfl rfl rfl (fun H locs h => ?_)
  have h : Hp D A H0 H _ ((a, .inr (13, ((((((((fs.set 17 (.ref q831)).set 18 (.ref q840)).set 19 (.ref q849)).set 20 (.ref q858)).set 21 (.ref q867)).set 22 (.ref q876)).set 23 (.ref q885)).set 24 (.ref q894)))) :: ((q894, .inl (k 2, 32768, .inl (fun _ => 0))) :: ((q885, .inl (k 2, 32768, .inl (fun _ => 0))) :: ((q876, .inl (k 2, 32768, .inl (fun _ => 0))) :: ((q867, .inl (k 2, 32768, .inl (fun _ => 0))) :: ((q858, .inl (k 2, 32768, .inl (fun _ => 0))) :: ((q849, .inl (k 2, 32768, .inl (fun _ => 0))) :: ((q840, .inl (k 2, 32768, .inl (fun _ => 0))) :: ((q831, .inl (k 2, 32768, .inl (fun _ => 0))) :: w))))))))) := Hp.swap h
  exact kk q831 q840 q849 q858 q867 q876 q885 q894 H _ h
set_option maxHeartbeats 4000000 in
set_option maxRecDepth 100000 in
theorem sg13 {p : Program} {l : Launch} {e : Env} {R : Room} {s : State} {m : MethodId} {args : Array Value} {below : List Frame} {meth : Method} {c : Code} {H : Heap} {locs : List Loc} {cells slots : Nat} {Q : State → Prop} {ls : Array Slot} {D : va_G} {A : Nat → Prop} {k : Nat → ClassId} {H0 : Heap} {a : Nat} {fs : List Value} {w : va_W} (C : Cx p s m args c cX12_init RX12 wsX12_init D (TYs k) 2) (hmn : meth.name = "<init>") (hl : lv_has ls 2 [(0, .ref a)]) (hn : fs.length = 153) (hcl : cells + 8 ≤ R.cells) (hsl : slots + 128304 ≤ R.slots) (h : Hp D A H0 H locs ((a, .inr (13, fs)) :: w)) (kk : ∀ (q903 q912 q921 q930 q939 q948 q957 q966 : Nat) (H : Heap) (locs : List Loc), Hp D A H0 H locs ((a, .inr (13, ((((((((fs.set 25 (.ref q903)).set 26 (.ref q912)).set 27 (.ref q921)).set 29 (.ref q930)).set 30 (.ref q939)).set 31 (.ref q948)).set 32 (.ref q957)).set 33 (.ref q966)))) :: ((q966, .inl (k 2, 6000, .inl (fun _ => 0))) :: ((q957, .inl (k 2, 6000, .inl (fun _ => 0))) :: ((q948, .inl (k 2, 6000, .inl (fun _ => 0))) :: ((q939, .inl (k 3, 6000, .inr (.inl (fun _ => 0)))) :: ((q930, .inl (k 3, 6000, .inr (.inl (fun _ => 0)))) :: ((q921, .inl (k 2, 32768, .inl (fun _ => 0))) :: ((q912, .inl (k 2, 32768, .inl (fun _ => 0))) :: ((q903, .inl (k 2, 32768, .inl (fun _ => 0))) :: w))))))))) → W p l e R s m args below meth c H locs (cells + 1 + 1 + 1 + 1 + 1 + 1 + 1 + 1) (slots + 32768 + 32768 + 32768 + 6000 + 6000 + 6000 + 6000 + 6000) Q (F0 m 971 ls [])) : W p l e R s m args below meth c H locs cells slots Q (F0 m 899 ls []) := by
  refine lv_aload_n C.1 C.2.1 dX12_init_899 rfl (lv_at hl 0 rfl) ?_
  refine lv_ldcw (v := 32768) C.1 C.2.1 C.2.2.2.1 (C.2.2.1 _ (List.mem_of_getElem? (i := 10) rfl)) dX12_init_900 ?_
  refine x_newa (a0 := (32768, .inl (fun _ => 0))) C h 2 dX12_init_903 rfl rfl (List.mem_of_getElem? (i := 8) rfl) (fun _ => rfl) (by decide) (by decide) (by decide) (by omega) (by omega) (fun q903 H h => ?_)
  have h : Hp D A H0 H _ ((q903, .inl (k 2, 32768, .inl (fun _ => 0))) :: (a, .inr (13, fs)) :: w) := Hp.front h
  refine x_putFT tX12_25 yX12_25 C hmn h 1 dX12_init_905 rfl rfl iX12m (Nat.le_of_ble_eq_true rfl) (List.mem_of_getElem? (i := 19) rfl) tyX12_ok nmX12 (by (try simp only [List.length_set]); rw [hn]; decide) rfl rfl rfl (fun H locs h => ?_)
  have h : Hp D A H0 H _ ((a, .inr (13, (fs.set 25 (.ref q903)))) :: ((q903, .inl (k 2, 32768, .inl (fun _ => 0))) :: w)) := Hp.swap h
  refine lv_aload_n C.1 C.2.1 dX12_init_908 rfl (lv_at hl 0 rfl) ?_
  refine lv_ldcw (v := 32768) C.1 C.2.1 C.2.2.2.1 (C.2.2.1 _ (List.mem_of_getElem? (i := 10) rfl)) dX12_init_909 ?_
  refine x_newa (a0 := (32768, .inl (fun _ => 0))) C h 2 dX12_init_912 rfl rfl (List.mem_of_getElem? (i := 8) rfl) (fun _ => rfl) (by decide) (by decide) (by decide) (by omega) (by omega) (fun q912 H h => ?_)
  have h : Hp D A H0 H _ ((q912, .inl (k 2, 32768, .inl (fun _ => 0))) :: (a, .inr (13, (fs.set 25 (.ref q903)))) :: ((q903, .inl (k 2, 32768, .inl (fun _ => 0))) :: w)) := Hp.front h
  refine x_putFT tX12_26 yX12_26 C hmn h 1 dX12_init_914 rfl rfl iX12m (Nat.le_of_ble_eq_true rfl) (List.mem_of_getElem? (i := 20) rfl) tyX12_ok nmX12 (by (try simp only [List.length_set]); rw [hn]; decide) rfl rfl rfl (fun H locs h => ?_)
  have h : Hp D A H0 H _ ((a, .inr (13, ((fs.set 25 (.ref q903)).set 26 (.ref q912)))) :: ((q912, .inl (k 2, 32768, .inl (fun _ => 0))) :: ((q903, .inl (k 2, 32768, .inl (fun _ => 0))) :: w))) := Hp.swap h
  refine lv_aload_n C.1 C.2.1 dX12_init_917 rfl (lv_at hl 0 rfl) ?_
  refine lv_ldcw (v := 32768) C.1 C.2.1 C.2.2.2.1 (C.2.2.1 _ (List.mem_of_getElem? (i := 10) rfl)) dX12_init_918 ?_
  refine x_newa (a0 := (32768, .inl (fun _ => 0))) C h 2 dX12_init_921 rfl rfl (List.mem_of_getElem? (i := 8) rfl) (fun _ => rfl) (by decide) (by decide) (by decide) (by omega) (by omega) (fun q921 H h => ?_)
  have h : Hp D A H0 H _ ((q921, .inl (k 2, 32768, .inl (fun _ => 0))) :: (a, .inr (13, ((fs.set 25 (.ref q903)).set 26 (.ref q912)))) :: ((q912, .inl (k 2, 32768, .inl (fun _ => 0))) :: ((q903, .inl (k 2, 32768, .inl (fun _ => 0))) :: w))) := Hp.front h
  refine x_putFT tX12_27 yX12_27 C hmn h 1 dX12_init_923 rfl rfl iX12m (Nat.le_of_ble_eq_true rfl) (List.mem_of_getElem? (i := 21) rfl) tyX12_ok nmX12 (by (try simp only [List.length_set]); rw [hn]; decide) rfl rfl rfl (fun H locs h => ?_)
  have h : Hp D A H0 H _ ((a, .inr (13, (((fs.set 25 (.ref q903)).set 26 (.ref q912)).set 27 (.ref q921)))) :: ((q921, .inl (k 2, 32768, .inl (fun _ => 0))) :: ((q912, .inl (k 2, 32768, .inl (fun _ => 0))) :: ((q903, .inl (k 2, 32768, .inl (fun _ => 0))) :: w)))) := Hp.swap h
  refine lv_aload_n C.1 C.2.1 dX12_init_926 rfl (lv_at hl 0 rfl) ?_
  refine lv_sipush (v := 6000) C.1 C.2.1 dX12_init_927 (by decide) ?_
  refine x_newa (a0 := (6000, .inr (.inl (fun _ => 0)))) C h 3 dX12_init_930 rfl rfl (List.mem_of_getElem? (i := 22) rfl) (fun _ => rfl) (by decide) (by decide) (by decide) (by omega) (by omega) (fun q930 H h => ?_)
  have h : Hp D A H0 H _ ((q930, .inl (k 3, 6000, .inr (.inl (fun _ => 0)))) :: (a, .inr (13, (((fs.set 25 (.ref q903)).set 26 (.ref q912)).set 27 (.ref q921)))) :: ((q921, .inl (k 2, 32768, .inl (fun _ => 0))) :: ((q912, .inl (k 2, 32768, .inl (fun _ => 0))) :: ((q903, .inl (k 2, 32768, .inl (fun _ => 0))) :: w)))) := Hp.front h
  refine x_putFT tX12_29 yX12_29 C hmn h 1 dX12_init_932 rfl rfl iX12m (Nat.le_of_ble_eq_true rfl) (List.mem_of_getElem? (i := 23) rfl) tyX12_ok nmX12 (by (try simp only [List.length_set]); rw [hn]; decide) rfl rfl rfl (fun H locs h => ?_)
  have h : Hp D A H0 H _ ((a, .inr (13, ((((fs.set 25 (.ref q903)).set 26 (.ref q912)).set 27 (.ref q921)).set 29 (.ref q930)))) :: ((q930, .inl (k 3, 6000, .inr (.inl (fun _ => 0)))) :: ((q921, .inl (k 2, 32768, .inl (fun _ => 0))) :: ((q912, .inl (k 2, 32768, .inl (fun _ => 0))) :: ((q903, .inl (k 2, 32768, .inl (fun _ => 0))) :: w))))) := Hp.swap h
  refine lv_aload_n C.1 C.2.1 dX12_init_935 rfl (lv_at hl 0 rfl) ?_
  refine lv_sipush (v := 6000) C.1 C.2.1 dX12_init_936 (by decide) ?_
  refine x_newa (a0 := (6000, .inr (.inl (fun _ => 0)))) C h 3 dX12_init_939 rfl rfl (List.mem_of_getElem? (i := 22) rfl) (fun _ => rfl) (by decide) (by decide) (by decide) (by omega) (by omega) (fun q939 H h => ?_)
  have h : Hp D A H0 H _ ((q939, .inl (k 3, 6000, .inr (.inl (fun _ => 0)))) :: (a, .inr (13, ((((fs.set 25 (.ref q903)).set 26 (.ref q912)).set 27 (.ref q921)).set 29 (.ref q930)))) :: ((q930, .inl (k 3, 6000, .inr (.inl (fun _ => 0)))) :: ((q921, .inl (k 2, 32768, .inl (fun _ => 0))) :: ((q912, .inl (k 2, 32768, .inl (fun _ => 0))) :: ((q903, .inl (k 2, 32768, .inl (fun _ => 0))) :: w))))) := Hp.front h
  refine x_putFT tX12_30 yX12_30 C hmn h 1 dX12_init_941 rfl rfl iX12m (Nat.le_of_ble_eq_true rfl) (List.mem_of_getElem? (i := 24) rfl) tyX12_ok nmX12 (by (try simp only [List.length_set]); rw [hn]; decide) rfl rfl rfl (fun H locs h => ?_)
  have h : Hp D A H0 H _ ((a, .inr (13, (((((fs.set 25 (.ref q903)).set 26 (.ref q912)).set 27 (.ref q921)).set 29 (.ref q930)).set 30 (.ref q939)))) :: ((q939, .inl (k 3, 6000, .inr (.inl (fun _ => 0)))) :: ((q930, .inl (k 3, 6000, .inr (.inl (fun _ => 0)))) :: ((q921, .inl (k 2, 32768, .inl (fun _ => 0))) :: ((q912, .inl (k 2, 32768, .inl (fun _ => 0))) :: ((q903, .inl (k 2, 32768, .inl (fun _ => 0))) :: w)))))) := Hp.swap h
  refine lv_aload_n C.1 C.2.1 dX12_init_944 rfl (lv_at hl 0 rfl) ?_
  refine lv_sipush (v := 6000) C.1 C.2.1 dX12_init_945 (by decide) ?_
  refine x_newa (a0 := (6000, .inl (fun _ => 0))) C h 2 dX12_init_948 rfl rfl (List.mem_of_getElem? (i := 8) rfl) (fun _ => rfl) (by decide) (by decide) (by decide) (by omega) (by omega) (fun q948 H h => ?_)
  have h : Hp D A H0 H _ ((q948, .inl (k 2, 6000, .inl (fun _ => 0))) :: (a, .inr (13, (((((fs.set 25 (.ref q903)).set 26 (.ref q912)).set 27 (.ref q921)).set 29 (.ref q930)).set 30 (.ref q939)))) :: ((q939, .inl (k 3, 6000, .inr (.inl (fun _ => 0)))) :: ((q930, .inl (k 3, 6000, .inr (.inl (fun _ => 0)))) :: ((q921, .inl (k 2, 32768, .inl (fun _ => 0))) :: ((q912, .inl (k 2, 32768, .inl (fun _ => 0))) :: ((q903, .inl (k 2, 32768, .inl (fun _ => 0))) :: w)))))) := Hp.front h
  refine x_putFT tX12_31 yX12_31 C hmn h 1 dX12_init_950 rfl rfl iX12m (Nat.le_of_ble_eq_true rfl) (List.mem_of_getElem? (i := 25) rfl) tyX12_ok nmX12 (by (try simp only [List.length_set]); rw [hn]; decide) rfl rfl rfl (fun H locs h => ?_)
  have h : Hp D A H0 H _ ((a, .inr (13, ((((((fs.set 25 (.ref q903)).set 26 (.ref q912)).set 27 (.ref q921)).set 29 (.ref q930)).set 30 (.ref q939)).set 31 (.ref q948)))) :: ((q948, .inl (k 2, 6000, .inl (fun _ => 0))) :: ((q939, .inl (k 3, 6000, .inr (.inl (fun _ => 0)))) :: ((q930, .inl (k 3, 6000, .inr (.inl (fun _ => 0)))) :: ((q921, .inl (k 2, 32768, .inl (fun _ => 0))) :: ((q912, .inl (k 2, 32768, .inl (fun _ => 0))) :: ((q903, .inl (k 2, 32768, .inl (fun _ => 0))) :: w))))))) := Hp.swap h
  refine lv_aload_n C.1 C.2.1 dX12_init_953 rfl (lv_at hl 0 rfl) ?_
  refine lv_sipush (v := 6000) C.1 C.2.1 dX12_init_954 (by decide) ?_
  refine x_newa (a0 := (6000, .inl (fun _ => 0))) C h 2 dX12_init_957 rfl rfl (List.mem_of_getElem? (i := 8) rfl) (fun _ => rfl) (by decide) (by decide) (by decide) (by omega) (by omega) (fun q957 H h => ?_)
  have h : Hp D A H0 H _ ((q957, .inl (k 2, 6000, .inl (fun _ => 0))) :: (a, .inr (13, ((((((fs.set 25 (.ref q903)).set 26 (.ref q912)).set 27 (.ref q921)).set 29 (.ref q930)).set 30 (.ref q939)).set 31 (.ref q948)))) :: ((q948, .inl (k 2, 6000, .inl (fun _ => 0))) :: ((q939, .inl (k 3, 6000, .inr (.inl (fun _ => 0)))) :: ((q930, .inl (k 3, 6000, .inr (.inl (fun _ => 0)))) :: ((q921, .inl (k 2, 32768, .inl (fun _ => 0))) :: ((q912, .inl (k 2, 32768, .inl (fun _ => 0))) :: ((q903, .inl (k 2, 32768, .inl (fun _ => 0))) :: w))))))) := Hp.front h
  refine x_putFT tX12_32 yX12_32 C hmn h 1 dX12_init_959 rfl rfl iX12m (Nat.le_of_ble_eq_true rfl) (List.mem_of_getElem? (i := 26) rfl) tyX12_ok nmX12 (by (try simp only [List.length_set]); rw [hn]; decide) rfl rfl rfl (fun H locs h => ?_)
  have h : Hp D A H0 H _ ((a, .inr (13, (((((((fs.set 25 (.ref q903)).set 26 (.ref q912)).set 27 (.ref q921)).set 29 (.ref q930)).set 30 (.ref q939)).set 31 (.ref q948)).set 32 (.ref q957)))) :: ((q957, .inl (k 2, 6000, .inl (fun _ => 0))) :: ((q948, .inl (k 2, 6000, .inl (fun _ => 0))) :: ((q939, .inl (k 3, 6000, .inr (.inl (fun _ => 0)))) :: ((q930, .inl (k 3, 6000, .inr (.inl (fun _ => 0)))) :: ((q921, .inl (k 2, 32768, .inl (fun _ => 0))) :: ((q912, .inl (k 2, 32768, .inl (fun _ => 0))) :: ((q903, .inl (k 2, 32768, .inl (fun _ => 0))) :: w)))))))) := Hp.swap h
  refine lv_aload_n C.1 C.2.1 dX12_init_962 rfl (lv_at hl 0 rfl) ?_
  refine lv_sipush (v := 6000) C.1 C.2.1 dX12_init_963 (by decide) ?_
  refine x_newa (a0 := (6000, .inl (fun _ => 0))) C h 2 dX12_init_966 rfl rfl (List.mem_of_getElem? (i := 8) rfl) (fun _ => rfl) (by decide) (by decide) (by decide) (by omega) (by omega) (fun q966 H h => ?_)
  have h : Hp D A H0 H _ ((q966, .inl (k 2, 6000, .inl (fun _ => 0))) :: (a, .inr (13, (((((((fs.set 25 (.ref q903)).set 26 (.ref q912)).set 27 (.ref q921)).set 29 (.ref q930)).set 30 (.ref q939)).set 31 (.ref q948)).set 32 (.ref q957)))) :: ((q957, .inl (k 2, 6000, .inl (fun _ => 0))) :: ((q948, .inl (k 2, 6000, .inl (fun _ => 0))) :: ((q939, .inl (k 3, 6000, .inr (.inl (fun _ => 0)))) :: ((q930, .inl (k 3, 6000, .inr (.inl (fun _ => 0)))) :: ((q921, .inl (k 2, 32768, .inl (fun _ => 0))) :: ((q912, .inl (k 2, 32768, .inl (fun _ => 0))) :: ((q903, .inl (k 2, 32768, .inl (fun _ => 0))) :: w)))))))) := Hp.front h
  refine x_putFT tX12_33 yX12_33 C hmn h 1 dX12_init_968 rfl rfl iX12m (Nat.le_of_ble_eq_true rfl) (List.mem_of_getElem? (i := 27) rfl) tyX12_ok nmX12 (by (try simp only [List.length_set]); rw [hn]; decide) rfl rfl rfl (fun H locs h => ?_)
  have h : Hp D A H0 H _ ((a, .inr (13, ((((((((fs.set 25 (.ref q903)).set 26 (.ref q912)).set 27 (.ref q921)).set 29 (.ref q930)).set 30 (.ref q939)).set 31 (.ref q948)).set 32 (.ref q957)).set 33 (.ref q966)))) :: ((q966, .inl (k 2, 6000, .inl (fun _ => 0))) :: ((q957, .inl (k 2, 6000, .inl (fun _ => 0))) :: ((q948, .inl (k 2, 6000, .inl (fun _ => 0))) :: ((q939, .inl (k 3, 6000, .inr (.inl (fun _ => 0)))) :: ((q930, .inl (k 3, 6000, .inr (.inl (fun _ => 0)))) :: ((q921, .inl (k 2, 32768, .inl (fun _ => 0))) :: ((q912, .inl (k 2, 32768, .inl (fun _ => 0))) :: ((q903, .inl (k 2, 32768, .inl (fun _ => 0))) :: w))))))))) := Hp.swap h
  exact kk q903 q912 q921 q930 q939 q948 q957 q966 H _ h
set_option maxHeartbeats 4000000 in
set_option maxRecDepth 100000 in
theorem sg14 {p : Program} {l : Launch} {e : Env} {R : Room} {s : State} {m : MethodId} {args : Array Value} {below : List Frame} {meth : Method} {c : Code} {H : Heap} {locs : List Loc} {cells slots : Nat} {Q : State → Prop} {ls : Array Slot} {D : va_G} {A : Nat → Prop} {k : Nat → ClassId} {H0 : Heap} {a : Nat} {fs : List Value} {w : va_W} (C : Cx p s m args c cX12_init RX12 wsX12_init D (TYs k) 2) (hmn : meth.name = "<init>") (hl : lv_has ls 2 [(0, .ref a)]) (hn : fs.length = 153) (hcl : cells + 8 ≤ R.cells) (hsl : slots + 3148 ≤ R.slots) (h : Hp D A H0 H locs ((a, .inr (13, fs)) :: w)) (kk : ∀ (q974 q983 q990 q997 q1006 q1015 q1024 q1033 : Nat) (H : Heap) (locs : List Loc), Hp D A H0 H locs ((a, .inr (13, ((((((((fs.set 35 (.ref q974)).set 37 (.ref q983)).set 39 (.ref q990)).set 40 (.ref q997)).set 42 (.ref q1006)).set 43 (.ref q1015)).set 44 (.ref q1024)).set 45 (.ref q1033)))) :: ((q1033, .inl (k 2, 600, .inl (fun _ => 0))) :: ((q1024, .inl (k 2, 600, .inl (fun _ => 0))) :: ((q1015, .inl (k 2, 600, .inl (fun _ => 0))) :: ((q1006, .inl (k 2, 600, .inl (fun _ => 0))) :: ((q997, .inl (k 3, 4, .inr (.inl (fun _ => 0)))) :: ((q990, .inl (k 3, 4, .inr (.inl (fun _ => 0)))) :: ((q983, .inl (k 2, 700, .inl (fun _ => 0))) :: ((q974, .inl (k 2, 40, .inl (fun _ => 0))) :: w))))))))) → W p l e R s m args below meth c H locs (cells + 1 + 1 + 1 + 1 + 1 + 1 + 1 + 1) (slots + 40 + 700 + 4 + 4 + 600 + 600 + 600 + 600) Q (F0 m 1038 ls [])) : W p l e R s m args below meth c H locs cells slots Q (F0 m 971 ls []) := by
  refine lv_aload_n C.1 C.2.1 dX12_init_971 rfl (lv_at hl 0 rfl) ?_
  refine lv_bipush (v := 40) C.1 C.2.1 dX12_init_972 (by decide) ?_
  refine x_newa (a0 := (40, .inl (fun _ => 0))) C h 2 dX12_init_974 rfl rfl (List.mem_of_getElem? (i := 8) rfl) (fun _ => rfl) (by decide) (by decide) (by decide) (by omega) (by omega) (fun q974 H h => ?_)
  have h : Hp D A H0 H _ ((q974, .inl (k 2, 40, .inl (fun _ => 0))) :: (a, .inr (13, fs)) :: w) := Hp.front h
  refine x_putFT tX12_35 yX12_35 C hmn h 1 dX12_init_976 rfl rfl iX12m (Nat.le_of_ble_eq_true rfl) (List.mem_of_getElem? (i := 28) rfl) tyX12_ok nmX12 (by (try simp only [List.length_set]); rw [hn]; decide) rfl rfl rfl (fun H locs h => ?_)
  have h : Hp D A H0 H _ ((a, .inr (13, (fs.set 35 (.ref q974)))) :: ((q974, .inl (k 2, 40, .inl (fun _ => 0))) :: w)) := Hp.swap h
  refine lv_aload_n C.1 C.2.1 dX12_init_979 rfl (lv_at hl 0 rfl) ?_
  refine lv_sipush (v := 700) C.1 C.2.1 dX12_init_980 (by decide) ?_
  refine x_newa (a0 := (700, .inl (fun _ => 0))) C h 2 dX12_init_983 rfl rfl (List.mem_of_getElem? (i := 8) rfl) (fun _ => rfl) (by decide) (by decide) (by decide) (by omega) (by omega) (fun q983 H h => ?_)
  have h : Hp D A H0 H _ ((q983, .inl (k 2, 700, .inl (fun _ => 0))) :: (a, .inr (13, (fs.set 35 (.ref q974)))) :: ((q974, .inl (k 2, 40, .inl (fun _ => 0))) :: w)) := Hp.front h
  refine x_putFT tX12_37 yX12_37 C hmn h 1 dX12_init_985 rfl rfl iX12m (Nat.le_of_ble_eq_true rfl) (List.mem_of_getElem? (i := 29) rfl) tyX12_ok nmX12 (by (try simp only [List.length_set]); rw [hn]; decide) rfl rfl rfl (fun H locs h => ?_)
  have h : Hp D A H0 H _ ((a, .inr (13, ((fs.set 35 (.ref q974)).set 37 (.ref q983)))) :: ((q983, .inl (k 2, 700, .inl (fun _ => 0))) :: ((q974, .inl (k 2, 40, .inl (fun _ => 0))) :: w))) := Hp.swap h
  refine lv_aload_n C.1 C.2.1 dX12_init_988 rfl (lv_at hl 0 rfl) ?_
  refine lv_iconst (v := 4) C.1 C.2.1 dX12_init_989 (by decide) ?_
  refine x_newa (a0 := (4, .inr (.inl (fun _ => 0)))) C h 3 dX12_init_990 rfl rfl (List.mem_of_getElem? (i := 22) rfl) (fun _ => rfl) (by decide) (by decide) (by decide) (by omega) (by omega) (fun q990 H h => ?_)
  have h : Hp D A H0 H _ ((q990, .inl (k 3, 4, .inr (.inl (fun _ => 0)))) :: (a, .inr (13, ((fs.set 35 (.ref q974)).set 37 (.ref q983)))) :: ((q983, .inl (k 2, 700, .inl (fun _ => 0))) :: ((q974, .inl (k 2, 40, .inl (fun _ => 0))) :: w))) := Hp.front h
  refine x_putFT tX12_39 yX12_39 C hmn h 1 dX12_init_992 rfl rfl iX12m (Nat.le_of_ble_eq_true rfl) (List.mem_of_getElem? (i := 30) rfl) tyX12_ok nmX12 (by (try simp only [List.length_set]); rw [hn]; decide) rfl rfl rfl (fun H locs h => ?_)
  have h : Hp D A H0 H _ ((a, .inr (13, (((fs.set 35 (.ref q974)).set 37 (.ref q983)).set 39 (.ref q990)))) :: ((q990, .inl (k 3, 4, .inr (.inl (fun _ => 0)))) :: ((q983, .inl (k 2, 700, .inl (fun _ => 0))) :: ((q974, .inl (k 2, 40, .inl (fun _ => 0))) :: w)))) := Hp.swap h
  refine lv_aload_n C.1 C.2.1 dX12_init_995 rfl (lv_at hl 0 rfl) ?_
  refine lv_iconst (v := 4) C.1 C.2.1 dX12_init_996 (by decide) ?_
  refine x_newa (a0 := (4, .inr (.inl (fun _ => 0)))) C h 3 dX12_init_997 rfl rfl (List.mem_of_getElem? (i := 22) rfl) (fun _ => rfl) (by decide) (by decide) (by decide) (by omega) (by omega) (fun q997 H h => ?_)
  have h : Hp D A H0 H _ ((q997, .inl (k 3, 4, .inr (.inl (fun _ => 0)))) :: (a, .inr (13, (((fs.set 35 (.ref q974)).set 37 (.ref q983)).set 39 (.ref q990)))) :: ((q990, .inl (k 3, 4, .inr (.inl (fun _ => 0)))) :: ((q983, .inl (k 2, 700, .inl (fun _ => 0))) :: ((q974, .inl (k 2, 40, .inl (fun _ => 0))) :: w)))) := Hp.front h
  refine x_putFT tX12_40 yX12_40 C hmn h 1 dX12_init_999 rfl rfl iX12m (Nat.le_of_ble_eq_true rfl) (List.mem_of_getElem? (i := 31) rfl) tyX12_ok nmX12 (by (try simp only [List.length_set]); rw [hn]; decide) rfl rfl rfl (fun H locs h => ?_)
  have h : Hp D A H0 H _ ((a, .inr (13, ((((fs.set 35 (.ref q974)).set 37 (.ref q983)).set 39 (.ref q990)).set 40 (.ref q997)))) :: ((q997, .inl (k 3, 4, .inr (.inl (fun _ => 0)))) :: ((q990, .inl (k 3, 4, .inr (.inl (fun _ => 0)))) :: ((q983, .inl (k 2, 700, .inl (fun _ => 0))) :: ((q974, .inl (k 2, 40, .inl (fun _ => 0))) :: w))))) := Hp.swap h
  refine lv_aload_n C.1 C.2.1 dX12_init_1002 rfl (lv_at hl 0 rfl) ?_
  refine lv_sipush (v := 600) C.1 C.2.1 dX12_init_1003 (by decide) ?_
  refine x_newa (a0 := (600, .inl (fun _ => 0))) C h 2 dX12_init_1006 rfl rfl (List.mem_of_getElem? (i := 8) rfl) (fun _ => rfl) (by decide) (by decide) (by decide) (by omega) (by omega) (fun q1006 H h => ?_)
  have h : Hp D A H0 H _ ((q1006, .inl (k 2, 600, .inl (fun _ => 0))) :: (a, .inr (13, ((((fs.set 35 (.ref q974)).set 37 (.ref q983)).set 39 (.ref q990)).set 40 (.ref q997)))) :: ((q997, .inl (k 3, 4, .inr (.inl (fun _ => 0)))) :: ((q990, .inl (k 3, 4, .inr (.inl (fun _ => 0)))) :: ((q983, .inl (k 2, 700, .inl (fun _ => 0))) :: ((q974, .inl (k 2, 40, .inl (fun _ => 0))) :: w))))) := Hp.front h
  refine x_putFT tX12_42 yX12_42 C hmn h 1 dX12_init_1008 rfl rfl iX12m (Nat.le_of_ble_eq_true rfl) (List.mem_of_getElem? (i := 32) rfl) tyX12_ok nmX12 (by (try simp only [List.length_set]); rw [hn]; decide) rfl rfl rfl (fun H locs h => ?_)
  have h : Hp D A H0 H _ ((a, .inr (13, (((((fs.set 35 (.ref q974)).set 37 (.ref q983)).set 39 (.ref q990)).set 40 (.ref q997)).set 42 (.ref q1006)))) :: ((q1006, .inl (k 2, 600, .inl (fun _ => 0))) :: ((q997, .inl (k 3, 4, .inr (.inl (fun _ => 0)))) :: ((q990, .inl (k 3, 4, .inr (.inl (fun _ => 0)))) :: ((q983, .inl (k 2, 700, .inl (fun _ => 0))) :: ((q974, .inl (k 2, 40, .inl (fun _ => 0))) :: w)))))) := Hp.swap h
  refine lv_aload_n C.1 C.2.1 dX12_init_1011 rfl (lv_at hl 0 rfl) ?_
  refine lv_sipush (v := 600) C.1 C.2.1 dX12_init_1012 (by decide) ?_
  refine x_newa (a0 := (600, .inl (fun _ => 0))) C h 2 dX12_init_1015 rfl rfl (List.mem_of_getElem? (i := 8) rfl) (fun _ => rfl) (by decide) (by decide) (by decide) (by omega) (by omega) (fun q1015 H h => ?_)
  have h : Hp D A H0 H _ ((q1015, .inl (k 2, 600, .inl (fun _ => 0))) :: (a, .inr (13, (((((fs.set 35 (.ref q974)).set 37 (.ref q983)).set 39 (.ref q990)).set 40 (.ref q997)).set 42 (.ref q1006)))) :: ((q1006, .inl (k 2, 600, .inl (fun _ => 0))) :: ((q997, .inl (k 3, 4, .inr (.inl (fun _ => 0)))) :: ((q990, .inl (k 3, 4, .inr (.inl (fun _ => 0)))) :: ((q983, .inl (k 2, 700, .inl (fun _ => 0))) :: ((q974, .inl (k 2, 40, .inl (fun _ => 0))) :: w)))))) := Hp.front h
  refine x_putFT tX12_43 yX12_43 C hmn h 1 dX12_init_1017 rfl rfl iX12m (Nat.le_of_ble_eq_true rfl) (List.mem_of_getElem? (i := 33) rfl) tyX12_ok nmX12 (by (try simp only [List.length_set]); rw [hn]; decide) rfl rfl rfl (fun H locs h => ?_)
  have h : Hp D A H0 H _ ((a, .inr (13, ((((((fs.set 35 (.ref q974)).set 37 (.ref q983)).set 39 (.ref q990)).set 40 (.ref q997)).set 42 (.ref q1006)).set 43 (.ref q1015)))) :: ((q1015, .inl (k 2, 600, .inl (fun _ => 0))) :: ((q1006, .inl (k 2, 600, .inl (fun _ => 0))) :: ((q997, .inl (k 3, 4, .inr (.inl (fun _ => 0)))) :: ((q990, .inl (k 3, 4, .inr (.inl (fun _ => 0)))) :: ((q983, .inl (k 2, 700, .inl (fun _ => 0))) :: ((q974, .inl (k 2, 40, .inl (fun _ => 0))) :: w))))))) := Hp.swap h
  refine lv_aload_n C.1 C.2.1 dX12_init_1020 rfl (lv_at hl 0 rfl) ?_
  refine lv_sipush (v := 600) C.1 C.2.1 dX12_init_1021 (by decide) ?_
  refine x_newa (a0 := (600, .inl (fun _ => 0))) C h 2 dX12_init_1024 rfl rfl (List.mem_of_getElem? (i := 8) rfl) (fun _ => rfl) (by decide) (by decide) (by decide) (by omega) (by omega) (fun q1024 H h => ?_)
  have h : Hp D A H0 H _ ((q1024, .inl (k 2, 600, .inl (fun _ => 0))) :: (a, .inr (13, ((((((fs.set 35 (.ref q974)).set 37 (.ref q983)).set 39 (.ref q990)).set 40 (.ref q997)).set 42 (.ref q1006)).set 43 (.ref q1015)))) :: ((q1015, .inl (k 2, 600, .inl (fun _ => 0))) :: ((q1006, .inl (k 2, 600, .inl (fun _ => 0))) :: ((q997, .inl (k 3, 4, .inr (.inl (fun _ => 0)))) :: ((q990, .inl (k 3, 4, .inr (.inl (fun _ => 0)))) :: ((q983, .inl (k 2, 700, .inl (fun _ => 0))) :: ((q974, .inl (k 2, 40, .inl (fun _ => 0))) :: w))))))) := Hp.front h
  refine x_putFT tX12_44 yX12_44 C hmn h 1 dX12_init_1026 rfl rfl iX12m (Nat.le_of_ble_eq_true rfl) (List.mem_of_getElem? (i := 34) rfl) tyX12_ok nmX12 (by (try simp only [List.length_set]); rw [hn]; decide) rfl rfl rfl (fun H locs h => ?_)
  have h : Hp D A H0 H _ ((a, .inr (13, (((((((fs.set 35 (.ref q974)).set 37 (.ref q983)).set 39 (.ref q990)).set 40 (.ref q997)).set 42 (.ref q1006)).set 43 (.ref q1015)).set 44 (.ref q1024)))) :: ((q1024, .inl (k 2, 600, .inl (fun _ => 0))) :: ((q1015, .inl (k 2, 600, .inl (fun _ => 0))) :: ((q1006, .inl (k 2, 600, .inl (fun _ => 0))) :: ((q997, .inl (k 3, 4, .inr (.inl (fun _ => 0)))) :: ((q990, .inl (k 3, 4, .inr (.inl (fun _ => 0)))) :: ((q983, .inl (k 2, 700, .inl (fun _ => 0))) :: ((q974, .inl (k 2, 40, .inl (fun _ => 0))) :: w)))))))) := Hp.swap h
  refine lv_aload_n C.1 C.2.1 dX12_init_1029 rfl (lv_at hl 0 rfl) ?_
  refine lv_sipush (v := 600) C.1 C.2.1 dX12_init_1030 (by decide) ?_
  refine x_newa (a0 := (600, .inl (fun _ => 0))) C h 2 dX12_init_1033 rfl rfl (List.mem_of_getElem? (i := 8) rfl) (fun _ => rfl) (by decide) (by decide) (by decide) (by omega) (by omega) (fun q1033 H h => ?_)
  have h : Hp D A H0 H _ ((q1033, .inl (k 2, 600, .inl (fun _ => 0))) :: (a, .inr (13, (((((((fs.set 35 (.ref q974)).set 37 (.ref q983)).set 39 (.ref q990)).set 40 (.ref q997)).set 42 (.ref q1006)).set 43 (.ref q1015)).set 44 (.ref q1024)))) :: ((q1024, .inl (k 2, 600, .inl (fun _ => 0))) :: ((q1015, .inl (k 2, 600, .inl (fun _ => 0))) :: ((q1006, .inl (k 2, 600, .inl (fun _ => 0))) :: ((q997, .inl (k 3, 4, .inr (.inl (fun _ => 0)))) :: ((q990, .inl (k 3, 4, .inr (.inl (fun _ => 0)))) :: ((q983, .inl (k 2, 700, .inl (fun _ => 0))) :: ((q974, .inl (k 2, 40, .inl (fun _ => 0))) :: w)))))))) := Hp.front h
  refine x_putFT tX12_45 yX12_45 C hmn h 1 dX12_init_1035 rfl rfl iX12m (Nat.le_of_ble_eq_true rfl) (List.mem_of_getElem? (i := 35) rfl) tyX12_ok nmX12 (by (try simp only [List.length_set]); rw [hn]; decide) rfl rfl rfl (fun H locs h => ?_)
  have h : Hp D A H0 H _ ((a, .inr (13, ((((((((fs.set 35 (.ref q974)).set 37 (.ref q983)).set 39 (.ref q990)).set 40 (.ref q997)).set 42 (.ref q1006)).set 43 (.ref q1015)).set 44 (.ref q1024)).set 45 (.ref q1033)))) :: ((q1033, .inl (k 2, 600, .inl (fun _ => 0))) :: ((q1024, .inl (k 2, 600, .inl (fun _ => 0))) :: ((q1015, .inl (k 2, 600, .inl (fun _ => 0))) :: ((q1006, .inl (k 2, 600, .inl (fun _ => 0))) :: ((q997, .inl (k 3, 4, .inr (.inl (fun _ => 0)))) :: ((q990, .inl (k 3, 4, .inr (.inl (fun _ => 0)))) :: ((q983, .inl (k 2, 700, .inl (fun _ => 0))) :: ((q974, .inl (k 2, 40, .inl (fun _ => 0))) :: w))))))))) := Hp.swap h
  exact kk q974 q983 q990 q997 q1006 q1015 q1024 q1033 H _ h
set_option maxHeartbeats 4000000 in
set_option maxRecDepth 100000 in
theorem sg15 {p : Program} {l : Launch} {e : Env} {R : Room} {s : State} {m : MethodId} {args : Array Value} {below : List Frame} {meth : Method} {c : Code} {H : Heap} {locs : List Loc} {cells slots : Nat} {Q : State → Prop} {ls : Array Slot} {D : va_G} {A : Nat → Prop} {k : Nat → ClassId} {H0 : Heap} {a : Nat} {fs : List Value} {w : va_W} (C : Cx p s m args c cX12_init RX12 wsX12_init D (TYs k) 2) (hmn : meth.name = "<init>") (hl : lv_has ls 2 [(0, .ref a)]) (hn : fs.length = 153) (hcl : cells + 8 ≤ R.cells) (hsl : slots + 824000 ≤ R.slots) (h : Hp D A H0 H locs ((a, .inr (13, fs)) :: w)) (kk : ∀ (q1042 q1051 q1060 q1069 q1078 q1087 q1096 q1105 : Nat) (H : Heap) (locs : List Loc), Hp D A H0 H locs ((a, .inr (13, ((((((((fs.set 49 (.ref q1042)).set 50 (.ref q1051)).set 51 (.ref q1060)).set 52 (.ref q1069)).set 53 (.ref q1078)).set 54 (.ref q1087)).set 55 (.ref q1096)).set 56 (.ref q1105)))) :: ((q1105, .inl (k 2, 103000, .inl (fun _ => 0))) :: ((q1096, .inl (k 2, 103000, .inl (fun _ => 0))) :: ((q1087, .inl (k 2, 103000, .inl (fun _ => 0))) :: ((q1078, .inl (k 2, 103000, .inl (fun _ => 0))) :: ((q1069, .inl (k 2, 103000, .inl (fun _ => 0))) :: ((q1060, .inl (k 2, 103000, .inl (fun _ => 0))) :: ((q1051, .inl (k 2, 103000, .inl (fun _ => 0))) :: ((q1042, .inl (k 2, 103000, .inl (fun _ => 0))) :: w))))))))) → W p l e R s m args below meth c H locs (cells + 1 + 1 + 1 + 1 + 1 + 1 + 1 + 1) (slots + 103000 + 103000 + 103000 + 103000 + 103000 + 103000 + 103000 + 103000) Q (F0 m 1110 ls [])) : W p l e R s m args below meth c H locs cells slots Q (F0 m 1038 ls []) := by
  refine lv_aload_n C.1 C.2.1 dX12_init_1038 rfl (lv_at hl 0 rfl) ?_
  refine lv_ldcw (v := 103000) C.1 C.2.1 C.2.2.2.1 (C.2.2.1 _ (List.mem_of_getElem? (i := 36) rfl)) dX12_init_1039 ?_
  refine x_newa (a0 := (103000, .inl (fun _ => 0))) C h 2 dX12_init_1042 rfl rfl (List.mem_of_getElem? (i := 8) rfl) (fun _ => rfl) (by decide) (by decide) (by decide) (by omega) (by omega) (fun q1042 H h => ?_)
  have h : Hp D A H0 H _ ((q1042, .inl (k 2, 103000, .inl (fun _ => 0))) :: (a, .inr (13, fs)) :: w) := Hp.front h
  refine x_putFT tX12_49 yX12_49 C hmn h 1 dX12_init_1044 rfl rfl iX12m (Nat.le_of_ble_eq_true rfl) (List.mem_of_getElem? (i := 37) rfl) tyX12_ok nmX12 (by (try simp only [List.length_set]); rw [hn]; decide) rfl rfl rfl (fun H locs h => ?_)
  have h : Hp D A H0 H _ ((a, .inr (13, (fs.set 49 (.ref q1042)))) :: ((q1042, .inl (k 2, 103000, .inl (fun _ => 0))) :: w)) := Hp.swap h
  refine lv_aload_n C.1 C.2.1 dX12_init_1047 rfl (lv_at hl 0 rfl) ?_
  refine lv_ldcw (v := 103000) C.1 C.2.1 C.2.2.2.1 (C.2.2.1 _ (List.mem_of_getElem? (i := 36) rfl)) dX12_init_1048 ?_
  refine x_newa (a0 := (103000, .inl (fun _ => 0))) C h 2 dX12_init_1051 rfl rfl (List.mem_of_getElem? (i := 8) rfl) (fun _ => rfl) (by decide) (by decide) (by decide) (by omega) (by omega) (fun q1051 H h => ?_)
  have h : Hp D A H0 H _ ((q1051, .inl (k 2, 103000, .inl (fun _ => 0))) :: (a, .inr (13, (fs.set 49 (.ref q1042)))) :: ((q1042, .inl (k 2, 103000, .inl (fun _ => 0))) :: w)) := Hp.front h
  refine x_putFT tX12_50 yX12_50 C hmn h 1 dX12_init_1053 rfl rfl iX12m (Nat.le_of_ble_eq_true rfl) (List.mem_of_getElem? (i := 38) rfl) tyX12_ok nmX12 (by (try simp only [List.length_set]); rw [hn]; decide) rfl rfl rfl (fun H locs h => ?_)
  have h : Hp D A H0 H _ ((a, .inr (13, ((fs.set 49 (.ref q1042)).set 50 (.ref q1051)))) :: ((q1051, .inl (k 2, 103000, .inl (fun _ => 0))) :: ((q1042, .inl (k 2, 103000, .inl (fun _ => 0))) :: w))) := Hp.swap h
  refine lv_aload_n C.1 C.2.1 dX12_init_1056 rfl (lv_at hl 0 rfl) ?_
  refine lv_ldcw (v := 103000) C.1 C.2.1 C.2.2.2.1 (C.2.2.1 _ (List.mem_of_getElem? (i := 36) rfl)) dX12_init_1057 ?_
  refine x_newa (a0 := (103000, .inl (fun _ => 0))) C h 2 dX12_init_1060 rfl rfl (List.mem_of_getElem? (i := 8) rfl) (fun _ => rfl) (by decide) (by decide) (by decide) (by omega) (by omega) (fun q1060 H h => ?_)
  have h : Hp D A H0 H _ ((q1060, .inl (k 2, 103000, .inl (fun _ => 0))) :: (a, .inr (13, ((fs.set 49 (.ref q1042)).set 50 (.ref q1051)))) :: ((q1051, .inl (k 2, 103000, .inl (fun _ => 0))) :: ((q1042, .inl (k 2, 103000, .inl (fun _ => 0))) :: w))) := Hp.front h
  refine x_putFT tX12_51 yX12_51 C hmn h 1 dX12_init_1062 rfl rfl iX12m (Nat.le_of_ble_eq_true rfl) (List.mem_of_getElem? (i := 39) rfl) tyX12_ok nmX12 (by (try simp only [List.length_set]); rw [hn]; decide) rfl rfl rfl (fun H locs h => ?_)
  have h : Hp D A H0 H _ ((a, .inr (13, (((fs.set 49 (.ref q1042)).set 50 (.ref q1051)).set 51 (.ref q1060)))) :: ((q1060, .inl (k 2, 103000, .inl (fun _ => 0))) :: ((q1051, .inl (k 2, 103000, .inl (fun _ => 0))) :: ((q1042, .inl (k 2, 103000, .inl (fun _ => 0))) :: w)))) := Hp.swap h
  refine lv_aload_n C.1 C.2.1 dX12_init_1065 rfl (lv_at hl 0 rfl) ?_
  refine lv_ldcw (v := 103000) C.1 C.2.1 C.2.2.2.1 (C.2.2.1 _ (List.mem_of_getElem? (i := 36) rfl)) dX12_init_1066 ?_
  refine x_newa (a0 := (103000, .inl (fun _ => 0))) C h 2 dX12_init_1069 rfl rfl (List.mem_of_getElem? (i := 8) rfl) (fun _ => rfl) (by decide) (by decide) (by decide) (by omega) (by omega) (fun q1069 H h => ?_)
  have h : Hp D A H0 H _ ((q1069, .inl (k 2, 103000, .inl (fun _ => 0))) :: (a, .inr (13, (((fs.set 49 (.ref q1042)).set 50 (.ref q1051)).set 51 (.ref q1060)))) :: ((q1060, .inl (k 2, 103000, .inl (fun _ => 0))) :: ((q1051, .inl (k 2, 103000, .inl (fun _ => 0))) :: ((q1042, .inl (k 2, 103000, .inl (fun _ => 0))) :: w)))) := Hp.front h
  refine x_putFT tX12_52 yX12_52 C hmn h 1 dX12_init_1071 rfl rfl iX12m (Nat.le_of_ble_eq_true rfl) (List.mem_of_getElem? (i := 40) rfl) tyX12_ok nmX12 (by (try simp only [List.length_set]); rw [hn]; decide) rfl rfl rfl (fun H locs h => ?_)
  have h : Hp D A H0 H _ ((a, .inr (13, ((((fs.set 49 (.ref q1042)).set 50 (.ref q1051)).set 51 (.ref q1060)).set 52 (.ref q1069)))) :: ((q1069, .inl (k 2, 103000, .inl (fun _ => 0))) :: ((q1060, .inl (k 2, 103000, .inl (fun _ => 0))) :: ((q1051, .inl (k 2, 103000, .inl (fun _ => 0))) :: ((q1042, .inl (k 2, 103000, .inl (fun _ => 0))) :: w))))) := Hp.swap h
  refine lv_aload_n C.1 C.2.1 dX12_init_1074 rfl (lv_at hl 0 rfl) ?_
  refine lv_ldcw (v := 103000) C.1 C.2.1 C.2.2.2.1 (C.2.2.1 _ (List.mem_of_getElem? (i := 36) rfl)) dX12_init_1075 ?_
  refine x_newa (a0 := (103000, .inl (fun _ => 0))) C h 2 dX12_init_1078 rfl rfl (List.mem_of_getElem? (i := 8) rfl) (fun _ => rfl) (by decide) (by decide) (by decide) (by omega) (by omega) (fun q1078 H h => ?_)
  have h : Hp D A H0 H _ ((q1078, .inl (k 2, 103000, .inl (fun _ => 0))) :: (a, .inr (13, ((((fs.set 49 (.ref q1042)).set 50 (.ref q1051)).set 51 (.ref q1060)).set 52 (.ref q1069)))) :: ((q1069, .inl (k 2, 103000, .inl (fun _ => 0))) :: ((q1060, .inl (k 2, 103000, .inl (fun _ => 0))) :: ((q1051, .inl (k 2, 103000, .inl (fun _ => 0))) :: ((q1042, .inl (k 2, 103000, .inl (fun _ => 0))) :: w))))) := Hp.front h
  refine x_putFT tX12_53 yX12_53 C hmn h 1 dX12_init_1080 rfl rfl iX12m (Nat.le_of_ble_eq_true rfl) (List.mem_of_getElem? (i := 41) rfl) tyX12_ok nmX12 (by (try simp only [List.length_set]); rw [hn]; decide) rfl rfl rfl (fun H locs h => ?_)
  have h : Hp D A H0 H _ ((a, .inr (13, (((((fs.set 49 (.ref q1042)).set 50 (.ref q1051)).set 51 (.ref q1060)).set 52 (.ref q1069)).set 53 (.ref q1078)))) :: ((q1078, .inl (k 2, 103000, .inl (fun _ => 0))) :: ((q1069, .inl (k 2, 103000, .inl (fun _ => 0))) :: ((q1060, .inl (k 2, 103000, .inl (fun _ => 0))) :: ((q1051, .inl (k 2, 103000, .inl (fun _ => 0))) :: ((q1042, .inl (k 2, 103000, .inl (fun _ => 0))) :: w)))))) := Hp.swap h
  refine lv_aload_n C.1 C.2.1 dX12_init_1083 rfl (lv_at hl 0 rfl) ?_
  refine lv_ldcw (v := 103000) C.1 C.2.1 C.2.2.2.1 (C.2.2.1 _ (List.mem_of_getElem? (i := 36) rfl)) dX12_init_1084 ?_
  refine x_newa (a0 := (103000, .inl (fun _ => 0))) C h 2 dX12_init_1087 rfl rfl (List.mem_of_getElem? (i := 8) rfl) (fun _ => rfl) (by decide) (by decide) (by decide) (by omega) (by omega) (fun q1087 H h => ?_)
  have h : Hp D A H0 H _ ((q1087, .inl (k 2, 103000, .inl (fun _ => 0))) :: (a, .inr (13, (((((fs.set 49 (.ref q1042)).set 50 (.ref q1051)).set 51 (.ref q1060)).set 52 (.ref q1069)).set 53 (.ref q1078)))) :: ((q1078, .inl (k 2, 103000, .inl (fun _ => 0))) :: ((q1069, .inl (k 2, 103000, .inl (fun _ => 0))) :: ((q1060, .inl (k 2, 103000, .inl (fun _ => 0))) :: ((q1051, .inl (k 2, 103000, .inl (fun _ => 0))) :: ((q1042, .inl (k 2, 103000, .inl (fun _ => 0))) :: w)))))) := Hp.front h
  refine x_putFT tX12_54 yX12_54 C hmn h 1 dX12_init_1089 rfl rfl iX12m (Nat.le_of_ble_eq_true rfl) (List.mem_of_getElem? (i := 42) rfl) tyX12_ok nmX12 (by (try simp only [List.length_set]); rw [hn]; decide) rfl rfl rfl (fun H locs h => ?_)
  have h : Hp D A H0 H _ ((a, .inr (13, ((((((fs.set 49 (.ref q1042)).set 50 (.ref q1051)).set 51 (.ref q1060)).set 52 (.ref q1069)).set 53 (.ref q1078)).set 54 (.ref q1087)))) :: ((q1087, .inl (k 2, 103000, .inl (fun _ => 0))) :: ((q1078, .inl (k 2, 103000, .inl (fun _ => 0))) :: ((q1069, .inl (k 2, 103000, .inl (fun _ => 0))) :: ((q1060, .inl (k 2, 103000, .inl (fun _ => 0))) :: ((q1051, .inl (k 2, 103000, .inl (fun _ => 0))) :: ((q1042, .inl (k 2, 103000, .inl (fun _ => 0))) :: w))))))) := Hp.swap h
  refine lv_aload_n C.1 C.2.1 dX12_init_1092 rfl (lv_at hl 0 rfl) ?_
  refine lv_ldcw (v := 103000) C.1 C.2.1 C.2.2.2.1 (C.2.2.1 _ (List.mem_of_getElem? (i := 36) rfl)) dX12_init_1093 ?_
  refine x_newa (a0 := (103000, .inl (fun _ => 0))) C h 2 dX12_init_1096 rfl rfl (List.mem_of_getElem? (i := 8) rfl) (fun _ => rfl) (by decide) (by decide) (by decide) (by omega) (by omega) (fun q1096 H h => ?_)
  have h : Hp D A H0 H _ ((q1096, .inl (k 2, 103000, .inl (fun _ => 0))) :: (a, .inr (13, ((((((fs.set 49 (.ref q1042)).set 50 (.ref q1051)).set 51 (.ref q1060)).set 52 (.ref q1069)).set 53 (.ref q1078)).set 54 (.ref q1087)))) :: ((q1087, .inl (k 2, 103000, .inl (fun _ => 0))) :: ((q1078, .inl (k 2, 103000, .inl (fun _ => 0))) :: ((q1069, .inl (k 2, 103000, .inl (fun _ => 0))) :: ((q1060, .inl (k 2, 103000, .inl (fun _ => 0))) :: ((q1051, .inl (k 2, 103000, .inl (fun _ => 0))) :: ((q1042, .inl (k 2, 103000, .inl (fun _ => 0))) :: w))))))) := Hp.front h
  refine x_putFT tX12_55 yX12_55 C hmn h 1 dX12_init_1098 rfl rfl iX12m (Nat.le_of_ble_eq_true rfl) (List.mem_of_getElem? (i := 43) rfl) tyX12_ok nmX12 (by (try simp only [List.length_set]); rw [hn]; decide) rfl rfl rfl (fun H locs h => ?_)
  have h : Hp D A H0 H _ ((a, .inr (13, (((((((fs.set 49 (.ref q1042)).set 50 (.ref q1051)).set 51 (.ref q1060)).set 52 (.ref q1069)).set 53 (.ref q1078)).set 54 (.ref q1087)).set 55 (.ref q1096)))) :: ((q1096, .inl (k 2, 103000, .inl (fun _ => 0))) :: ((q1087, .inl (k 2, 103000, .inl (fun _ => 0))) :: ((q1078, .inl (k 2, 103000, .inl (fun _ => 0))) :: ((q1069, .inl (k 2, 103000, .inl (fun _ => 0))) :: ((q1060, .inl (k 2, 103000, .inl (fun _ => 0))) :: ((q1051, .inl (k 2, 103000, .inl (fun _ => 0))) :: ((q1042, .inl (k 2, 103000, .inl (fun _ => 0))) :: w)))))))) := Hp.swap h
  refine lv_aload_n C.1 C.2.1 dX12_init_1101 rfl (lv_at hl 0 rfl) ?_
  refine lv_ldcw (v := 103000) C.1 C.2.1 C.2.2.2.1 (C.2.2.1 _ (List.mem_of_getElem? (i := 36) rfl)) dX12_init_1102 ?_
  refine x_newa (a0 := (103000, .inl (fun _ => 0))) C h 2 dX12_init_1105 rfl rfl (List.mem_of_getElem? (i := 8) rfl) (fun _ => rfl) (by decide) (by decide) (by decide) (by omega) (by omega) (fun q1105 H h => ?_)
  have h : Hp D A H0 H _ ((q1105, .inl (k 2, 103000, .inl (fun _ => 0))) :: (a, .inr (13, (((((((fs.set 49 (.ref q1042)).set 50 (.ref q1051)).set 51 (.ref q1060)).set 52 (.ref q1069)).set 53 (.ref q1078)).set 54 (.ref q1087)).set 55 (.ref q1096)))) :: ((q1096, .inl (k 2, 103000, .inl (fun _ => 0))) :: ((q1087, .inl (k 2, 103000, .inl (fun _ => 0))) :: ((q1078, .inl (k 2, 103000, .inl (fun _ => 0))) :: ((q1069, .inl (k 2, 103000, .inl (fun _ => 0))) :: ((q1060, .inl (k 2, 103000, .inl (fun _ => 0))) :: ((q1051, .inl (k 2, 103000, .inl (fun _ => 0))) :: ((q1042, .inl (k 2, 103000, .inl (fun _ => 0))) :: w)))))))) := Hp.front h
  refine x_putFT tX12_56 yX12_56 C hmn h 1 dX12_init_1107 rfl rfl iX12m (Nat.le_of_ble_eq_true rfl) (List.mem_of_getElem? (i := 44) rfl) tyX12_ok nmX12 (by (try simp only [List.length_set]); rw [hn]; decide) rfl rfl rfl (fun H locs h => ?_)
  have h : Hp D A H0 H _ ((a, .inr (13, ((((((((fs.set 49 (.ref q1042)).set 50 (.ref q1051)).set 51 (.ref q1060)).set 52 (.ref q1069)).set 53 (.ref q1078)).set 54 (.ref q1087)).set 55 (.ref q1096)).set 56 (.ref q1105)))) :: ((q1105, .inl (k 2, 103000, .inl (fun _ => 0))) :: ((q1096, .inl (k 2, 103000, .inl (fun _ => 0))) :: ((q1087, .inl (k 2, 103000, .inl (fun _ => 0))) :: ((q1078, .inl (k 2, 103000, .inl (fun _ => 0))) :: ((q1069, .inl (k 2, 103000, .inl (fun _ => 0))) :: ((q1060, .inl (k 2, 103000, .inl (fun _ => 0))) :: ((q1051, .inl (k 2, 103000, .inl (fun _ => 0))) :: ((q1042, .inl (k 2, 103000, .inl (fun _ => 0))) :: w))))))))) := Hp.swap h
  exact kk q1042 q1051 q1060 q1069 q1078 q1087 q1096 q1105 H _ h
set_option maxHeartbeats 4000000 in
set_option maxRecDepth 100000 in
theorem sg16 {p : Program} {l : Launch} {e : Env} {R : Room} {s : State} {m : MethodId} {args : Array Value} {below : List Frame} {meth : Method} {c : Code} {H : Heap} {locs : List Loc} {cells slots : Nat} {Q : State → Prop} {ls : Array Slot} {D : va_G} {A : Nat → Prop} {k : Nat → ClassId} {H0 : Heap} {a : Nat} {fs : List Value} {w : va_W} (C : Cx p s m args c cX12_init RX12 wsX12_init D (TYs k) 2) (hmn : meth.name = "<init>") (hl : lv_has ls 2 [(0, .ref a)]) (hn : fs.length = 153) (hcl : cells + 8 ≤ R.cells) (hsl : slots + 872000 ≤ R.slots) (h : Hp D A H0 H locs ((a, .inr (13, fs)) :: w)) (kk : ∀ (q1114 q1123 q1132 q1141 q1150 q1159 q1168 q1177 : Nat) (H : Heap) (locs : List Loc), Hp D A H0 H locs ((a, .inr (13, ((((((((fs.set 57 (.ref q1114)).set 58 (.ref q1123)).set 59 (.ref q1132)).set 60 (.ref q1141)).set 62 (.ref q1150)).set 63 (.ref q1159)).set 66 (.ref q1168)).set 67 (.ref q1177)))) :: ((q1177, .inl (k 2, 20000, .inl (fun _ => 0))) :: ((q1168, .inl (k 2, 20000, .inl (fun _ => 0))) :: ((q1159, .inl (k 2, 210000, .inl (fun _ => 0))) :: ((q1150, .inl (k 2, 210000, .inl (fun _ => 0))) :: ((q1141, .inl (k 2, 103000, .inl (fun _ => 0))) :: ((q1132, .inl (k 2, 103000, .inl (fun _ => 0))) :: ((q1123, .inl (k 2, 103000, .inl (fun _ => 0))) :: ((q1114, .inl (k 2, 103000, .inl (fun _ => 0))) :: w))))))))) → W p l e R s m args below meth c H locs (cells + 1 + 1 + 1 + 1 + 1 + 1 + 1 + 1) (slots + 103000 + 103000 + 103000 + 103000 + 210000 + 210000 + 20000 + 20000) Q (F0 m 1182 ls [])) : W p l e R s m args below meth c H locs cells slots Q (F0 m 1110 ls []) := by
  refine lv_aload_n C.1 C.2.1 dX12_init_1110 rfl (lv_at hl 0 rfl) ?_
  refine lv_ldcw (v := 103000) C.1 C.2.1 C.2.2.2.1 (C.2.2.1 _ (List.mem_of_getElem? (i := 36) rfl)) dX12_init_1111 ?_
  refine x_newa (a0 := (103000, .inl (fun _ => 0))) C h 2 dX12_init_1114 rfl rfl (List.mem_of_getElem? (i := 8) rfl) (fun _ => rfl) (by decide) (by decide) (by decide) (by omega) (by omega) (fun q1114 H h => ?_)
  have h : Hp D A H0 H _ ((q1114, .inl (k 2, 103000, .inl (fun _ => 0))) :: (a, .inr (13, fs)) :: w) := Hp.front h
  refine x_putFT tX12_57 yX12_57 C hmn h 1 dX12_init_1116 rfl rfl iX12m (Nat.le_of_ble_eq_true rfl) (List.mem_of_getElem? (i := 45) rfl) tyX12_ok nmX12 (by (try simp only [List.length_set]); rw [hn]; decide) rfl rfl rfl (fun H locs h => ?_)
  have h : Hp D A H0 H _ ((a, .inr (13, (fs.set 57 (.ref q1114)))) :: ((q1114, .inl (k 2, 103000, .inl (fun _ => 0))) :: w)) := Hp.swap h
  refine lv_aload_n C.1 C.2.1 dX12_init_1119 rfl (lv_at hl 0 rfl) ?_
  refine lv_ldcw (v := 103000) C.1 C.2.1 C.2.2.2.1 (C.2.2.1 _ (List.mem_of_getElem? (i := 36) rfl)) dX12_init_1120 ?_
  refine x_newa (a0 := (103000, .inl (fun _ => 0))) C h 2 dX12_init_1123 rfl rfl (List.mem_of_getElem? (i := 8) rfl) (fun _ => rfl) (by decide) (by decide) (by decide) (by omega) (by omega) (fun q1123 H h => ?_)
  have h : Hp D A H0 H _ ((q1123, .inl (k 2, 103000, .inl (fun _ => 0))) :: (a, .inr (13, (fs.set 57 (.ref q1114)))) :: ((q1114, .inl (k 2, 103000, .inl (fun _ => 0))) :: w)) := Hp.front h
  refine x_putFT tX12_58 yX12_58 C hmn h 1 dX12_init_1125 rfl rfl iX12m (Nat.le_of_ble_eq_true rfl) (List.mem_of_getElem? (i := 46) rfl) tyX12_ok nmX12 (by (try simp only [List.length_set]); rw [hn]; decide) rfl rfl rfl (fun H locs h => ?_)
  have h : Hp D A H0 H _ ((a, .inr (13, ((fs.set 57 (.ref q1114)).set 58 (.ref q1123)))) :: ((q1123, .inl (k 2, 103000, .inl (fun _ => 0))) :: ((q1114, .inl (k 2, 103000, .inl (fun _ => 0))) :: w))) := Hp.swap h
  refine lv_aload_n C.1 C.2.1 dX12_init_1128 rfl (lv_at hl 0 rfl) ?_
  refine lv_ldcw (v := 103000) C.1 C.2.1 C.2.2.2.1 (C.2.2.1 _ (List.mem_of_getElem? (i := 36) rfl)) dX12_init_1129 ?_
  refine x_newa (a0 := (103000, .inl (fun _ => 0))) C h 2 dX12_init_1132 rfl rfl (List.mem_of_getElem? (i := 8) rfl) (fun _ => rfl) (by decide) (by decide) (by decide) (by omega) (by omega) (fun q1132 H h => ?_)
  have h : Hp D A H0 H _ ((q1132, .inl (k 2, 103000, .inl (fun _ => 0))) :: (a, .inr (13, ((fs.set 57 (.ref q1114)).set 58 (.ref q1123)))) :: ((q1123, .inl (k 2, 103000, .inl (fun _ => 0))) :: ((q1114, .inl (k 2, 103000, .inl (fun _ => 0))) :: w))) := Hp.front h
  refine x_putFT tX12_59 yX12_59 C hmn h 1 dX12_init_1134 rfl rfl iX12m (Nat.le_of_ble_eq_true rfl) (List.mem_of_getElem? (i := 47) rfl) tyX12_ok nmX12 (by (try simp only [List.length_set]); rw [hn]; decide) rfl rfl rfl (fun H locs h => ?_)
  have h : Hp D A H0 H _ ((a, .inr (13, (((fs.set 57 (.ref q1114)).set 58 (.ref q1123)).set 59 (.ref q1132)))) :: ((q1132, .inl (k 2, 103000, .inl (fun _ => 0))) :: ((q1123, .inl (k 2, 103000, .inl (fun _ => 0))) :: ((q1114, .inl (k 2, 103000, .inl (fun _ => 0))) :: w)))) := Hp.swap h
  refine lv_aload_n C.1 C.2.1 dX12_init_1137 rfl (lv_at hl 0 rfl) ?_
  refine lv_ldcw (v := 103000) C.1 C.2.1 C.2.2.2.1 (C.2.2.1 _ (List.mem_of_getElem? (i := 36) rfl)) dX12_init_1138 ?_
  refine x_newa (a0 := (103000, .inl (fun _ => 0))) C h 2 dX12_init_1141 rfl rfl (List.mem_of_getElem? (i := 8) rfl) (fun _ => rfl) (by decide) (by decide) (by decide) (by omega) (by omega) (fun q1141 H h => ?_)
  have h : Hp D A H0 H _ ((q1141, .inl (k 2, 103000, .inl (fun _ => 0))) :: (a, .inr (13, (((fs.set 57 (.ref q1114)).set 58 (.ref q1123)).set 59 (.ref q1132)))) :: ((q1132, .inl (k 2, 103000, .inl (fun _ => 0))) :: ((q1123, .inl (k 2, 103000, .inl (fun _ => 0))) :: ((q1114, .inl (k 2, 103000, .inl (fun _ => 0))) :: w)))) := Hp.front h
  refine x_putFT tX12_60 yX12_60 C hmn h 1 dX12_init_1143 rfl rfl iX12m (Nat.le_of_ble_eq_true rfl) (List.mem_of_getElem? (i := 48) rfl) tyX12_ok nmX12 (by (try simp only [List.length_set]); rw [hn]; decide) rfl rfl rfl (fun H locs h => ?_)
  have h : Hp D A H0 H _ ((a, .inr (13, ((((fs.set 57 (.ref q1114)).set 58 (.ref q1123)).set 59 (.ref q1132)).set 60 (.ref q1141)))) :: ((q1141, .inl (k 2, 103000, .inl (fun _ => 0))) :: ((q1132, .inl (k 2, 103000, .inl (fun _ => 0))) :: ((q1123, .inl (k 2, 103000, .inl (fun _ => 0))) :: ((q1114, .inl (k 2, 103000, .inl (fun _ => 0))) :: w))))) := Hp.swap h
  refine lv_aload_n C.1 C.2.1 dX12_init_1146 rfl (lv_at hl 0 rfl) ?_
  refine lv_ldcw (v := 210000) C.1 C.2.1 C.2.2.2.1 (C.2.2.1 _ (List.mem_of_getElem? (i := 49) rfl)) dX12_init_1147 ?_
  refine x_newa (a0 := (210000, .inl (fun _ => 0))) C h 2 dX12_init_1150 rfl rfl (List.mem_of_getElem? (i := 8) rfl) (fun _ => rfl) (by decide) (by decide) (by decide) (by omega) (by omega) (fun q1150 H h => ?_)
  have h : Hp D A H0 H _ ((q1150, .inl (k 2, 210000, .inl (fun _ => 0))) :: (a, .inr (13, ((((fs.set 57 (.ref q1114)).set 58 (.ref q1123)).set 59 (.ref q1132)).set 60 (.ref q1141)))) :: ((q1141, .inl (k 2, 103000, .inl (fun _ => 0))) :: ((q1132, .inl (k 2, 103000, .inl (fun _ => 0))) :: ((q1123, .inl (k 2, 103000, .inl (fun _ => 0))) :: ((q1114, .inl (k 2, 103000, .inl (fun _ => 0))) :: w))))) := Hp.front h
  refine x_putFT tX12_62 yX12_62 C hmn h 1 dX12_init_1152 rfl rfl iX12m (Nat.le_of_ble_eq_true rfl) (List.mem_of_getElem? (i := 50) rfl) tyX12_ok nmX12 (by (try simp only [List.length_set]); rw [hn]; decide) rfl rfl rfl (fun H locs h => ?_)
  have h : Hp D A H0 H _ ((a, .inr (13, (((((fs.set 57 (.ref q1114)).set 58 (.ref q1123)).set 59 (.ref q1132)).set 60 (.ref q1141)).set 62 (.ref q1150)))) :: ((q1150, .inl (k 2, 210000, .inl (fun _ => 0))) :: ((q1141, .inl (k 2, 103000, .inl (fun _ => 0))) :: ((q1132, .inl (k 2, 103000, .inl (fun _ => 0))) :: ((q1123, .inl (k 2, 103000, .inl (fun _ => 0))) :: ((q1114, .inl (k 2, 103000, .inl (fun _ => 0))) :: w)))))) := Hp.swap h
  refine lv_aload_n C.1 C.2.1 dX12_init_1155 rfl (lv_at hl 0 rfl) ?_
  refine lv_ldcw (v := 210000) C.1 C.2.1 C.2.2.2.1 (C.2.2.1 _ (List.mem_of_getElem? (i := 49) rfl)) dX12_init_1156 ?_
  refine x_newa (a0 := (210000, .inl (fun _ => 0))) C h 2 dX12_init_1159 rfl rfl (List.mem_of_getElem? (i := 8) rfl) (fun _ => rfl) (by decide) (by decide) (by decide) (by omega) (by omega) (fun q1159 H h => ?_)
  have h : Hp D A H0 H _ ((q1159, .inl (k 2, 210000, .inl (fun _ => 0))) :: (a, .inr (13, (((((fs.set 57 (.ref q1114)).set 58 (.ref q1123)).set 59 (.ref q1132)).set 60 (.ref q1141)).set 62 (.ref q1150)))) :: ((q1150, .inl (k 2, 210000, .inl (fun _ => 0))) :: ((q1141, .inl (k 2, 103000, .inl (fun _ => 0))) :: ((q1132, .inl (k 2, 103000, .inl (fun _ => 0))) :: ((q1123, .inl (k 2, 103000, .inl (fun _ => 0))) :: ((q1114, .inl (k 2, 103000, .inl (fun _ => 0))) :: w)))))) := Hp.front h
  refine x_putFT tX12_63 yX12_63 C hmn h 1 dX12_init_1161 rfl rfl iX12m (Nat.le_of_ble_eq_true rfl) (List.mem_of_getElem? (i := 51) rfl) tyX12_ok nmX12 (by (try simp only [List.length_set]); rw [hn]; decide) rfl rfl rfl (fun H locs h => ?_)
  have h : Hp D A H0 H _ ((a, .inr (13, ((((((fs.set 57 (.ref q1114)).set 58 (.ref q1123)).set 59 (.ref q1132)).set 60 (.ref q1141)).set 62 (.ref q1150)).set 63 (.ref q1159)))) :: ((q1159, .inl (k 2, 210000, .inl (fun _ => 0))) :: ((q1150, .inl (k 2, 210000, .inl (fun _ => 0))) :: ((q1141, .inl (k 2, 103000, .inl (fun _ => 0))) :: ((q1132, .inl (k 2, 103000, .inl (fun _ => 0))) :: ((q1123, .inl (k 2, 103000, .inl (fun _ => 0))) :: ((q1114, .inl (k 2, 103000, .inl (fun _ => 0))) :: w))))))) := Hp.swap h
  refine lv_aload_n C.1 C.2.1 dX12_init_1164 rfl (lv_at hl 0 rfl) ?_
  refine lv_sipush (v := 20000) C.1 C.2.1 dX12_init_1165 (by decide) ?_
  refine x_newa (a0 := (20000, .inl (fun _ => 0))) C h 2 dX12_init_1168 rfl rfl (List.mem_of_getElem? (i := 8) rfl) (fun _ => rfl) (by decide) (by decide) (by decide) (by omega) (by omega) (fun q1168 H h => ?_)
  have h : Hp D A H0 H _ ((q1168, .inl (k 2, 20000, .inl (fun _ => 0))) :: (a, .inr (13, ((((((fs.set 57 (.ref q1114)).set 58 (.ref q1123)).set 59 (.ref q1132)).set 60 (.ref q1141)).set 62 (.ref q1150)).set 63 (.ref q1159)))) :: ((q1159, .inl (k 2, 210000, .inl (fun _ => 0))) :: ((q1150, .inl (k 2, 210000, .inl (fun _ => 0))) :: ((q1141, .inl (k 2, 103000, .inl (fun _ => 0))) :: ((q1132, .inl (k 2, 103000, .inl (fun _ => 0))) :: ((q1123, .inl (k 2, 103000, .inl (fun _ => 0))) :: ((q1114, .inl (k 2, 103000, .inl (fun _ => 0))) :: w))))))) := Hp.front h
  refine x_putFT tX12_66 yX12_66 C hmn h 1 dX12_init_1170 rfl rfl iX12m (Nat.le_of_ble_eq_true rfl) (List.mem_of_getElem? (i := 52) rfl) tyX12_ok nmX12 (by (try simp only [List.length_set]); rw [hn]; decide) rfl rfl rfl (fun H locs h => ?_)
  have h : Hp D A H0 H _ ((a, .inr (13, (((((((fs.set 57 (.ref q1114)).set 58 (.ref q1123)).set 59 (.ref q1132)).set 60 (.ref q1141)).set 62 (.ref q1150)).set 63 (.ref q1159)).set 66 (.ref q1168)))) :: ((q1168, .inl (k 2, 20000, .inl (fun _ => 0))) :: ((q1159, .inl (k 2, 210000, .inl (fun _ => 0))) :: ((q1150, .inl (k 2, 210000, .inl (fun _ => 0))) :: ((q1141, .inl (k 2, 103000, .inl (fun _ => 0))) :: ((q1132, .inl (k 2, 103000, .inl (fun _ => 0))) :: ((q1123, .inl (k 2, 103000, .inl (fun _ => 0))) :: ((q1114, .inl (k 2, 103000, .inl (fun _ => 0))) :: w)))))))) := Hp.swap h
  refine lv_aload_n C.1 C.2.1 dX12_init_1173 rfl (lv_at hl 0 rfl) ?_
  refine lv_sipush (v := 20000) C.1 C.2.1 dX12_init_1174 (by decide) ?_
  refine x_newa (a0 := (20000, .inl (fun _ => 0))) C h 2 dX12_init_1177 rfl rfl (List.mem_of_getElem? (i := 8) rfl) (fun _ => rfl) (by decide) (by decide) (by decide) (by omega) (by omega) (fun q1177 H h => ?_)
  have h : Hp D A H0 H _ ((q1177, .inl (k 2, 20000, .inl (fun _ => 0))) :: (a, .inr (13, (((((((fs.set 57 (.ref q1114)).set 58 (.ref q1123)).set 59 (.ref q1132)).set 60 (.ref q1141)).set 62 (.ref q1150)).set 63 (.ref q1159)).set 66 (.ref q1168)))) :: ((q1168, .inl (k 2, 20000, .inl (fun _ => 0))) :: ((q1159, .inl (k 2, 210000, .inl (fun _ => 0))) :: ((q1150, .inl (k 2, 210000, .inl (fun _ => 0))) :: ((q1141, .inl (k 2, 103000, .inl (fun _ => 0))) :: ((q1132, .inl (k 2, 103000, .inl (fun _ => 0))) :: ((q1123, .inl (k 2, 103000, .inl (fun _ => 0))) :: ((q1114, .inl (k 2, 103000, .inl (fun _ => 0))) :: w)))))))) := Hp.front h
  refine x_putFT tX12_67 yX12_67 C hmn h 1 dX12_init_1179 rfl rfl iX12m (Nat.le_of_ble_eq_true rfl) (List.mem_of_getElem? (i := 53) rfl) tyX12_ok nmX12 (by (try simp only [List.length_set]); rw [hn]; decide) rfl rfl rfl (fun H locs h => ?_)
  have h : Hp D A H0 H _ ((a, .inr (13, ((((((((fs.set 57 (.ref q1114)).set 58 (.ref q1123)).set 59 (.ref q1132)).set 60 (.ref q1141)).set 62 (.ref q1150)).set 63 (.ref q1159)).set 66 (.ref q1168)).set 67 (.ref q1177)))) :: ((q1177, .inl (k 2, 20000, .inl (fun _ => 0))) :: ((q1168, .inl (k 2, 20000, .inl (fun _ => 0))) :: ((q1159, .inl (k 2, 210000, .inl (fun _ => 0))) :: ((q1150, .inl (k 2, 210000, .inl (fun _ => 0))) :: ((q1141, .inl (k 2, 103000, .inl (fun _ => 0))) :: ((q1132, .inl (k 2, 103000, .inl (fun _ => 0))) :: ((q1123, .inl (k 2, 103000, .inl (fun _ => 0))) :: ((q1114, .inl (k 2, 103000, .inl (fun _ => 0))) :: w))))))))) := Hp.swap h
  exact kk q1114 q1123 q1132 q1141 q1150 q1159 q1168 q1177 H _ h
set_option maxHeartbeats 4000000 in
set_option maxRecDepth 100000 in
theorem sg17 {p : Program} {l : Launch} {e : Env} {R : Room} {s : State} {m : MethodId} {args : Array Value} {below : List Frame} {meth : Method} {c : Code} {H : Heap} {locs : List Loc} {cells slots : Nat} {Q : State → Prop} {ls : Array Slot} {D : va_G} {A : Nat → Prop} {k : Nat → ClassId} {H0 : Heap} {a : Nat} {fs : List Value} {w : va_W} (C : Cx p s m args c cX12_init RX12 wsX12_init D (TYs k) 2) (hmn : meth.name = "<init>") (hl : lv_has ls 2 [(0, .ref a)]) (hn : fs.length = 153) (hcl : cells + 8 ≤ R.cells) (hsl : slots + 200060 ≤ R.slots) (h : Hp D A H0 H locs ((a, .inr (13, fs)) :: w)) (kk : ∀ (q1186 q1194 q1203 q1212 q1221 q1230 q1239 q1248 : Nat) (H : Heap) (locs : List Loc), Hp D A H0 H locs ((a, .inr (13, ((((((((fs.set 69 (.ref q1186)).set 72 (.ref q1194)).set 85 (.ref q1203)).set 86 (.ref q1212)).set 87 (.ref q1221)).set 88 (.ref q1230)).set 89 (.ref q1239)).set 90 (.ref q1248)))) :: ((q1248, .inl (k 2, 30000, .inl (fun _ => 0))) :: ((q1239, .inl (k 2, 30000, .inl (fun _ => 0))) :: ((q1230, .inl (k 2, 30000, .inl (fun _ => 0))) :: ((q1221, .inl (k 2, 30000, .inl (fun _ => 0))) :: ((q1212, .inl (k 3, 30000, .inr (.inl (fun _ => 0)))) :: ((q1203, .inl (k 3, 30000, .inr (.inl (fun _ => 0)))) :: ((q1194, .inl (k 2, 60, .inl (fun _ => 0))) :: ((q1186, .inl (k 2, 20000, .inl (fun _ => 0))) :: w))))))))) → W p l e R s m args below meth c H locs (cells + 1 + 1 + 1 + 1 + 1 + 1 + 1 + 1) (slots + 20000 + 60 + 30000 + 30000 + 30000 + 30000 + 30000 + 30000) Q (F0 m 1253 ls [])) : W p l e R s m args below meth c H locs cells slots Q (F0 m 1182 ls []) := by
  refine lv_aload_n C.1 C.2.1 dX12_init_1182 rfl (lv_at hl 0 rfl) ?_
  refine lv_sipush (v := 20000) C.1 C.2.1 dX12_init_1183 (by decide) ?_
  refine x_newa (a0 := (20000, .inl (fun _ => 0))) C h 2 dX12_init_1186 rfl rfl (List.mem_of_getElem? (i := 8) rfl) (fun _ => rfl) (by decide) (by decide) (by decide) (by omega) (by omega) (fun q1186 H h => ?_)
  have h : Hp D A H0 H _ ((q1186, .inl (k 2, 20000, .inl (fun _ => 0))) :: (a, .inr (13, fs)) :: w) := Hp.front h
  refine x_putFT tX12_69 yX12_69 C hmn h 1 dX12_init_1188 rfl rfl iX12m (Nat.le_of_ble_eq_true rfl) (List.mem_of_getElem? (i := 54) rfl) tyX12_ok nmX12 (by (try simp only [List.length_set]); rw [hn]; decide) rfl rfl rfl (fun H locs h => ?_)
  have h : Hp D A H0 H _ ((a, .inr (13, (fs.set 69 (.ref q1186)))) :: ((q1186, .inl (k 2, 20000, .inl (fun _ => 0))) :: w)) := Hp.swap h
  refine lv_aload_n C.1 C.2.1 dX12_init_1191 rfl (lv_at hl 0 rfl) ?_
  refine lv_bipush (v := 60) C.1 C.2.1 dX12_init_1192 (by decide) ?_
  refine x_newa (a0 := (60, .inl (fun _ => 0))) C h 2 dX12_init_1194 rfl rfl (List.mem_of_getElem? (i := 8) rfl) (fun _ => rfl) (by decide) (by decide) (by decide) (by omega) (by omega) (fun q1194 H h => ?_)
  have h : Hp D A H0 H _ ((q1194, .inl (k 2, 60, .inl (fun _ => 0))) :: (a, .inr (13, (fs.set 69 (.ref q1186)))) :: ((q1186, .inl (k 2, 20000, .inl (fun _ => 0))) :: w)) := Hp.front h
  refine x_putFT tX12_72 yX12_72 C hmn h 1 dX12_init_1196 rfl rfl iX12m (Nat.le_of_ble_eq_true rfl) (List.mem_of_getElem? (i := 55) rfl) tyX12_ok nmX12 (by (try simp only [List.length_set]); rw [hn]; decide) rfl rfl rfl (fun H locs h => ?_)
  have h : Hp D A H0 H _ ((a, .inr (13, ((fs.set 69 (.ref q1186)).set 72 (.ref q1194)))) :: ((q1194, .inl (k 2, 60, .inl (fun _ => 0))) :: ((q1186, .inl (k 2, 20000, .inl (fun _ => 0))) :: w))) := Hp.swap h
  refine lv_aload_n C.1 C.2.1 dX12_init_1199 rfl (lv_at hl 0 rfl) ?_
  refine lv_sipush (v := 30000) C.1 C.2.1 dX12_init_1200 (by decide) ?_
  refine x_newa (a0 := (30000, .inr (.inl (fun _ => 0)))) C h 3 dX12_init_1203 rfl rfl (List.mem_of_getElem? (i := 22) rfl) (fun _ => rfl) (by decide) (by decide) (by decide) (by omega) (by omega) (fun q1203 H h => ?_)
  have h : Hp D A H0 H _ ((q1203, .inl (k 3, 30000, .inr (.inl (fun _ => 0)))) :: (a, .inr (13, ((fs.set 69 (.ref q1186)).set 72 (.ref q1194)))) :: ((q1194, .inl (k 2, 60, .inl (fun _ => 0))) :: ((q1186, .inl (k 2, 20000, .inl (fun _ => 0))) :: w))) := Hp.front h
  refine x_putFT tX12_85 yX12_85 C hmn h 1 dX12_init_1205 rfl rfl iX12m (Nat.le_of_ble_eq_true rfl) (List.mem_of_getElem? (i := 56) rfl) tyX12_ok nmX12 (by (try simp only [List.length_set]); rw [hn]; decide) rfl rfl rfl (fun H locs h => ?_)
  have h : Hp D A H0 H _ ((a, .inr (13, (((fs.set 69 (.ref q1186)).set 72 (.ref q1194)).set 85 (.ref q1203)))) :: ((q1203, .inl (k 3, 30000, .inr (.inl (fun _ => 0)))) :: ((q1194, .inl (k 2, 60, .inl (fun _ => 0))) :: ((q1186, .inl (k 2, 20000, .inl (fun _ => 0))) :: w)))) := Hp.swap h
  refine lv_aload_n C.1 C.2.1 dX12_init_1208 rfl (lv_at hl 0 rfl) ?_
  refine lv_sipush (v := 30000) C.1 C.2.1 dX12_init_1209 (by decide) ?_
  refine x_newa (a0 := (30000, .inr (.inl (fun _ => 0)))) C h 3 dX12_init_1212 rfl rfl (List.mem_of_getElem? (i := 22) rfl) (fun _ => rfl) (by decide) (by decide) (by decide) (by omega) (by omega) (fun q1212 H h => ?_)
  have h : Hp D A H0 H _ ((q1212, .inl (k 3, 30000, .inr (.inl (fun _ => 0)))) :: (a, .inr (13, (((fs.set 69 (.ref q1186)).set 72 (.ref q1194)).set 85 (.ref q1203)))) :: ((q1203, .inl (k 3, 30000, .inr (.inl (fun _ => 0)))) :: ((q1194, .inl (k 2, 60, .inl (fun _ => 0))) :: ((q1186, .inl (k 2, 20000, .inl (fun _ => 0))) :: w)))) := Hp.front h
  refine x_putFT tX12_86 yX12_86 C hmn h 1 dX12_init_1214 rfl rfl iX12m (Nat.le_of_ble_eq_true rfl) (List.mem_of_getElem? (i := 57) rfl) tyX12_ok nmX12 (by (try simp only [List.length_set]); rw [hn]; decide) rfl rfl rfl (fun H locs h => ?_)
  have h : Hp D A H0 H _ ((a, .inr (13, ((((fs.set 69 (.ref q1186)).set 72 (.ref q1194)).set 85 (.ref q1203)).set 86 (.ref q1212)))) :: ((q1212, .inl (k 3, 30000, .inr (.inl (fun _ => 0)))) :: ((q1203, .inl (k 3, 30000, .inr (.inl (fun _ => 0)))) :: ((q1194, .inl (k 2, 60, .inl (fun _ => 0))) :: ((q1186, .inl (k 2, 20000, .inl (fun _ => 0))) :: w))))) := Hp.swap h
  refine lv_aload_n C.1 C.2.1 dX12_init_1217 rfl (lv_at hl 0 rfl) ?_
  refine lv_sipush (v := 30000) C.1 C.2.1 dX12_init_1218 (by decide) ?_
  refine x_newa (a0 := (30000, .inl (fun _ => 0))) C h 2 dX12_init_1221 rfl rfl (List.mem_of_getElem? (i := 8) rfl) (fun _ => rfl) (by decide) (by decide) (by decide) (by omega) (by omega) (fun q1221 H h => ?_)
  have h : Hp D A H0 H _ ((q1221, .inl (k 2, 30000, .inl (fun _ => 0))) :: (a, .inr (13, ((((fs.set 69 (.ref q1186)).set 72 (.ref q1194)).set 85 (.ref q1203)).set 86 (.ref q1212)))) :: ((q1212, .inl (k 3, 30000, .inr (.inl (fun _ => 0)))) :: ((q1203, .inl (k 3, 30000, .inr (.inl (fun _ => 0)))) :: ((q1194, .inl (k 2, 60, .inl (fun _ => 0))) :: ((q1186, .inl (k 2, 20000, .inl (fun _ => 0))) :: w))))) := Hp.front h
  refine x_putFT tX12_87 yX12_87 C hmn h 1 dX12_init_1223 rfl rfl iX12m (Nat.le_of_ble_eq_true rfl) (List.mem_of_getElem? (i := 58) rfl) tyX12_ok nmX12 (by (try simp only [List.length_set]); rw [hn]; decide) rfl rfl rfl (fun H locs h => ?_)
  have h : Hp D A H0 H _ ((a, .inr (13, (((((fs.set 69 (.ref q1186)).set 72 (.ref q1194)).set 85 (.ref q1203)).set 86 (.ref q1212)).set 87 (.ref q1221)))) :: ((q1221, .inl (k 2, 30000, .inl (fun _ => 0))) :: ((q1212, .inl (k 3, 30000, .inr (.inl (fun _ => 0)))) :: ((q1203, .inl (k 3, 30000, .inr (.inl (fun _ => 0)))) :: ((q1194, .inl (k 2, 60, .inl (fun _ => 0))) :: ((q1186, .inl (k 2, 20000, .inl (fun _ => 0))) :: w)))))) := Hp.swap h
  refine lv_aload_n C.1 C.2.1 dX12_init_1226 rfl (lv_at hl 0 rfl) ?_
  refine lv_sipush (v := 30000) C.1 C.2.1 dX12_init_1227 (by decide) ?_
  refine x_newa (a0 := (30000, .inl (fun _ => 0))) C h 2 dX12_init_1230 rfl rfl (List.mem_of_getElem? (i := 8) rfl) (fun _ => rfl) (by decide) (by decide) (by decide) (by omega) (by omega) (fun q1230 H h => ?_)
  have h : Hp D A H0 H _ ((q1230, .inl (k 2, 30000, .inl (fun _ => 0))) :: (a, .inr (13, (((((fs.set 69 (.ref q1186)).set 72 (.ref q1194)).set 85 (.ref q1203)).set 86 (.ref q1212)).set 87 (.ref q1221)))) :: ((q1221, .inl (k 2, 30000, .inl (fun _ => 0))) :: ((q1212, .inl (k 3, 30000, .inr (.inl (fun _ => 0)))) :: ((q1203, .inl (k 3, 30000, .inr (.inl (fun _ => 0)))) :: ((q1194, .inl (k 2, 60, .inl (fun _ => 0))) :: ((q1186, .inl (k 2, 20000, .inl (fun _ => 0))) :: w)))))) := Hp.front h
  refine x_putFT tX12_88 yX12_88 C hmn h 1 dX12_init_1232 rfl rfl iX12m (Nat.le_of_ble_eq_true rfl) (List.mem_of_getElem? (i := 59) rfl) tyX12_ok nmX12 (by (try simp only [List.length_set]); rw [hn]; decide) rfl rfl rfl (fun H locs h => ?_)
  have h : Hp D A H0 H _ ((a, .inr (13, ((((((fs.set 69 (.ref q1186)).set 72 (.ref q1194)).set 85 (.ref q1203)).set 86 (.ref q1212)).set 87 (.ref q1221)).set 88 (.ref q1230)))) :: ((q1230, .inl (k 2, 30000, .inl (fun _ => 0))) :: ((q1221, .inl (k 2, 30000, .inl (fun _ => 0))) :: ((q1212, .inl (k 3, 30000, .inr (.inl (fun _ => 0)))) :: ((q1203, .inl (k 3, 30000, .inr (.inl (fun _ => 0)))) :: ((q1194, .inl (k 2, 60, .inl (fun _ => 0))) :: ((q1186, .inl (k 2, 20000, .inl (fun _ => 0))) :: w))))))) := Hp.swap h
  refine lv_aload_n C.1 C.2.1 dX12_init_1235 rfl (lv_at hl 0 rfl) ?_
  refine lv_sipush (v := 30000) C.1 C.2.1 dX12_init_1236 (by decide) ?_
  refine x_newa (a0 := (30000, .inl (fun _ => 0))) C h 2 dX12_init_1239 rfl rfl (List.mem_of_getElem? (i := 8) rfl) (fun _ => rfl) (by decide) (by decide) (by decide) (by omega) (by omega) (fun q1239 H h => ?_)
  have h : Hp D A H0 H _ ((q1239, .inl (k 2, 30000, .inl (fun _ => 0))) :: (a, .inr (13, ((((((fs.set 69 (.ref q1186)).set 72 (.ref q1194)).set 85 (.ref q1203)).set 86 (.ref q1212)).set 87 (.ref q1221)).set 88 (.ref q1230)))) :: ((q1230, .inl (k 2, 30000, .inl (fun _ => 0))) :: ((q1221, .inl (k 2, 30000, .inl (fun _ => 0))) :: ((q1212, .inl (k 3, 30000, .inr (.inl (fun _ => 0)))) :: ((q1203, .inl (k 3, 30000, .inr (.inl (fun _ => 0)))) :: ((q1194, .inl (k 2, 60, .inl (fun _ => 0))) :: ((q1186, .inl (k 2, 20000, .inl (fun _ => 0))) :: w))))))) := Hp.front h
  refine x_putFT tX12_89 yX12_89 C hmn h 1 dX12_init_1241 rfl rfl iX12m (Nat.le_of_ble_eq_true rfl) (List.mem_of_getElem? (i := 60) rfl) tyX12_ok nmX12 (by (try simp only [List.length_set]); rw [hn]; decide) rfl rfl rfl (fun H locs h => ?_)
  have h : Hp D A H0 H _ ((a, .inr (13, (((((((fs.set 69 (.ref q1186)).set 72 (.ref q1194)).set 85 (.ref q1203)).set 86 (.ref q1212)).set 87 (.ref q1221)).set 88 (.ref q1230)).set 89 (.ref q1239)))) :: ((q1239, .inl (k 2, 30000, .inl (fun _ => 0))) :: ((q1230, .inl (k 2, 30000, .inl (fun _ => 0))) :: ((q1221, .inl (k 2, 30000, .inl (fun _ => 0))) :: ((q1212, .inl (k 3, 30000, .inr (.inl (fun _ => 0)))) :: ((q1203, .inl (k 3, 30000, .inr (.inl (fun _ => 0)))) :: ((q1194, .inl (k 2, 60, .inl (fun _ => 0))) :: ((q1186, .inl (k 2, 20000, .inl (fun _ => 0))) :: w)))))))) := Hp.swap h
  refine lv_aload_n C.1 C.2.1 dX12_init_1244 rfl (lv_at hl 0 rfl) ?_
  refine lv_sipush (v := 30000) C.1 C.2.1 dX12_init_1245 (by decide) ?_
  refine x_newa (a0 := (30000, .inl (fun _ => 0))) C h 2 dX12_init_1248 rfl rfl (List.mem_of_getElem? (i := 8) rfl) (fun _ => rfl) (by decide) (by decide) (by decide) (by omega) (by omega) (fun q1248 H h => ?_)
  have h : Hp D A H0 H _ ((q1248, .inl (k 2, 30000, .inl (fun _ => 0))) :: (a, .inr (13, (((((((fs.set 69 (.ref q1186)).set 72 (.ref q1194)).set 85 (.ref q1203)).set 86 (.ref q1212)).set 87 (.ref q1221)).set 88 (.ref q1230)).set 89 (.ref q1239)))) :: ((q1239, .inl (k 2, 30000, .inl (fun _ => 0))) :: ((q1230, .inl (k 2, 30000, .inl (fun _ => 0))) :: ((q1221, .inl (k 2, 30000, .inl (fun _ => 0))) :: ((q1212, .inl (k 3, 30000, .inr (.inl (fun _ => 0)))) :: ((q1203, .inl (k 3, 30000, .inr (.inl (fun _ => 0)))) :: ((q1194, .inl (k 2, 60, .inl (fun _ => 0))) :: ((q1186, .inl (k 2, 20000, .inl (fun _ => 0))) :: w)))))))) := Hp.front h
  refine x_putFT tX12_90 yX12_90 C hmn h 1 dX12_init_1250 rfl rfl iX12m (Nat.le_of_ble_eq_true rfl) (List.mem_of_getElem? (i := 61) rfl) tyX12_ok nmX12 (by (try simp only [List.length_set]); rw [hn]; decide) rfl rfl rfl (fun H locs h => ?_)
  have h : Hp D A H0 H _ ((a, .inr (13, ((((((((fs.set 69 (.ref q1186)).set 72 (.ref q1194)).set 85 (.ref q1203)).set 86 (.ref q1212)).set 87 (.ref q1221)).set 88 (.ref q1230)).set 89 (.ref q1239)).set 90 (.ref q1248)))) :: ((q1248, .inl (k 2, 30000, .inl (fun _ => 0))) :: ((q1239, .inl (k 2, 30000, .inl (fun _ => 0))) :: ((q1230, .inl (k 2, 30000, .inl (fun _ => 0))) :: ((q1221, .inl (k 2, 30000, .inl (fun _ => 0))) :: ((q1212, .inl (k 3, 30000, .inr (.inl (fun _ => 0)))) :: ((q1203, .inl (k 3, 30000, .inr (.inl (fun _ => 0)))) :: ((q1194, .inl (k 2, 60, .inl (fun _ => 0))) :: ((q1186, .inl (k 2, 20000, .inl (fun _ => 0))) :: w))))))))) := Hp.swap h
  exact kk q1186 q1194 q1203 q1212 q1221 q1230 q1239 q1248 H _ h
set_option maxHeartbeats 4000000 in
set_option maxRecDepth 100000 in
theorem sg18 {p : Program} {l : Launch} {e : Env} {R : Room} {s : State} {m : MethodId} {args : Array Value} {below : List Frame} {meth : Method} {c : Code} {H : Heap} {locs : List Loc} {cells slots : Nat} {Q : State → Prop} {ls : Array Slot} {D : va_G} {A : Nat → Prop} {k : Nat → ClassId} {H0 : Heap} {a : Nat} {fs : List Value} {w : va_W} (C : Cx p s m args c cX12_init RX12 wsX12_init D (TYs k) 2) (hmn : meth.name = "<init>") (hl : lv_has ls 2 [(0, .ref a)]) (hn : fs.length = 153) (hcl : cells + 8 ≤ R.cells) (hsl : slots + 120280 ≤ R.slots) (h : Hp D A H0 H locs ((a, .inr (13, fs)) :: w)) (kk : ∀ (q1257 q1266 q1275 q1284 q1292 q1300 q1308 q1316 : Nat) (H : Heap) (locs : List Loc), Hp D A H0 H locs ((a, .inr (13, ((((((((fs.set 91 (.ref q1257)).set 92 (.ref q1266)).set 93 (.ref q1275)).set 94 (.ref q1284)).set 97 (.ref q1292)).set 98 (.ref q1300)).set 99 (.ref q1308)).set 100 (.ref q1316)))) :: ((q1316, .inl (k 2, 70, .inl (fun _ => 0))) :: ((q1308, .inl (k 2, 70, .inl (fun _ => 0))) :: ((q1300, .inl (k 3, 70, .inr (.inl (fun _ => 0)))) :: ((q1292, .inl (k 2, 70, .inl (fun _ => 0))) :: ((q1284, .inl (k 2, 30000, .inl (fun _ => 0))) :: ((q1275, .inl (k 2, 30000, .inl (fun _ => 0))) :: ((q1266, .inl (k 2, 30000, .inl (fun _ => 0))) :: ((q1257, .inl (k 2, 30000, .inl (fun _ => 0))) :: w))))))))) → W p l e R s m args below meth c H locs (cells + 1 + 1 + 1 + 1 + 1 + 1 + 1 + 1) (slots + 30000 + 30000 + 30000 + 30000 + 70 + 70 + 70 + 70) Q (F0 m 1321 ls [])) : W p l e R s m args below meth c H locs cells slots Q (F0 m 1253 ls []) := by
  refine lv_aload_n C.1 C.2.1 dX12_init_1253 rfl (lv_at hl 0 rfl) ?_
  refine lv_sipush (v := 30000) C.1 C.2.1 dX12_init_1254 (by decide) ?_
  refine x_newa (a0 := (30000, .inl (fun _ => 0))) C h 2 dX12_init_1257 rfl rfl (List.mem_of_getElem? (i := 8) rfl) (fun _ => rfl) (by decide) (by decide) (by decide) (by omega) (by omega) (fun q1257 H h => ?_)
  have h : Hp D A H0 H _ ((q1257, .inl (k 2, 30000, .inl (fun _ => 0))) :: (a, .inr (13, fs)) :: w) := Hp.front h
  refine x_putFT tX12_91 yX12_91 C hmn h 1 dX12_init_1259 rfl rfl iX12m (Nat.le_of_ble_eq_true rfl) (List.mem_of_getElem? (i := 62) rfl) tyX12_ok nmX12 (by (try simp only [List.length_set]); rw [hn]; decide) rfl rfl rfl (fun H locs h => ?_)
  have h : Hp D A H0 H _ ((a, .inr (13, (fs.set 91 (.ref q1257)))) :: ((q1257, .inl (k 2, 30000, .inl (fun _ => 0))) :: w)) := Hp.swap h
  refine lv_aload_n C.1 C.2.1 dX12_init_1262 rfl (lv_at hl 0 rfl) ?_
  refine lv_sipush (v := 30000) C.1 C.2.1 dX12_init_1263 (by decide) ?_
  refine x_newa (a0 := (30000, .inl (fun _ => 0))) C h 2 dX12_init_1266 rfl rfl (List.mem_of_getElem? (i := 8) rfl) (fun _ => rfl) (by decide) (by decide) (by decide) (by omega) (by omega) (fun q1266 H h => ?_)
  have h : Hp D A H0 H _ ((q1266, .inl (k 2, 30000, .inl (fun _ => 0))) :: (a, .inr (13, (fs.set 91 (.ref q1257)))) :: ((q1257, .inl (k 2, 30000, .inl (fun _ => 0))) :: w)) := Hp.front h
  refine x_putFT tX12_92 yX12_92 C hmn h 1 dX12_init_1268 rfl rfl iX12m (Nat.le_of_ble_eq_true rfl) (List.mem_of_getElem? (i := 63) rfl) tyX12_ok nmX12 (by (try simp only [List.length_set]); rw [hn]; decide) rfl rfl rfl (fun H locs h => ?_)
  have h : Hp D A H0 H _ ((a, .inr (13, ((fs.set 91 (.ref q1257)).set 92 (.ref q1266)))) :: ((q1266, .inl (k 2, 30000, .inl (fun _ => 0))) :: ((q1257, .inl (k 2, 30000, .inl (fun _ => 0))) :: w))) := Hp.swap h
  refine lv_aload_n C.1 C.2.1 dX12_init_1271 rfl (lv_at hl 0 rfl) ?_
  refine lv_sipush (v := 30000) C.1 C.2.1 dX12_init_1272 (by decide) ?_
  refine x_newa (a0 := (30000, .inl (fun _ => 0))) C h 2 dX12_init_1275 rfl rfl (List.mem_of_getElem? (i := 8) rfl) (fun _ => rfl) (by decide) (by decide) (by decide) (by omega) (by omega) (fun q1275 H h => ?_)
  have h : Hp D A H0 H _ ((q1275, .inl (k 2, 30000, .inl (fun _ => 0))) :: (a, .inr (13, ((fs.set 91 (.ref q1257)).set 92 (.ref q1266)))) :: ((q1266, .inl (k 2, 30000, .inl (fun _ => 0))) :: ((q1257, .inl (k 2, 30000, .inl (fun _ => 0))) :: w))) := Hp.front h
  refine x_putFT tX12_93 yX12_93 C hmn h 1 dX12_init_1277 rfl rfl iX12m (Nat.le_of_ble_eq_true rfl) (List.mem_of_getElem? (i := 64) rfl) tyX12_ok nmX12 (by (try simp only [List.length_set]); rw [hn]; decide) rfl rfl rfl (fun H locs h => ?_)
  have h : Hp D A H0 H _ ((a, .inr (13, (((fs.set 91 (.ref q1257)).set 92 (.ref q1266)).set 93 (.ref q1275)))) :: ((q1275, .inl (k 2, 30000, .inl (fun _ => 0))) :: ((q1266, .inl (k 2, 30000, .inl (fun _ => 0))) :: ((q1257, .inl (k 2, 30000, .inl (fun _ => 0))) :: w)))) := Hp.swap h
  refine lv_aload_n C.1 C.2.1 dX12_init_1280 rfl (lv_at hl 0 rfl) ?_
  refine lv_sipush (v := 30000) C.1 C.2.1 dX12_init_1281 (by decide) ?_
  refine x_newa (a0 := (30000, .inl (fun _ => 0))) C h 2 dX12_init_1284 rfl rfl (List.mem_of_getElem? (i := 8) rfl) (fun _ => rfl) (by decide) (by decide) (by decide) (by omega) (by omega) (fun q1284 H h => ?_)
  have h : Hp D A H0 H _ ((q1284, .inl (k 2, 30000, .inl (fun _ => 0))) :: (a, .inr (13, (((fs.set 91 (.ref q1257)).set 92 (.ref q1266)).set 93 (.ref q1275)))) :: ((q1275, .inl (k 2, 30000, .inl (fun _ => 0))) :: ((q1266, .inl (k 2, 30000, .inl (fun _ => 0))) :: ((q1257, .inl (k 2, 30000, .inl (fun _ => 0))) :: w)))) := Hp.front h
  refine x_putFT tX12_94 yX12_94 C hmn h 1 dX12_init_1286 rfl rfl iX12m (Nat.le_of_ble_eq_true rfl) (List.mem_of_getElem? (i := 65) rfl) tyX12_ok nmX12 (by (try simp only [List.length_set]); rw [hn]; decide) rfl rfl rfl (fun H locs h => ?_)
  have h : Hp D A H0 H _ ((a, .inr (13, ((((fs.set 91 (.ref q1257)).set 92 (.ref q1266)).set 93 (.ref q1275)).set 94 (.ref q1284)))) :: ((q1284, .inl (k 2, 30000, .inl (fun _ => 0))) :: ((q1275, .inl (k 2, 30000, .inl (fun _ => 0))) :: ((q1266, .inl (k 2, 30000, .inl (fun _ => 0))) :: ((q1257, .inl (k 2, 30000, .inl (fun _ => 0))) :: w))))) := Hp.swap h
  refine lv_aload_n C.1 C.2.1 dX12_init_1289 rfl (lv_at hl 0 rfl) ?_
  refine lv_bipush (v := 70) C.1 C.2.1 dX12_init_1290 (by decide) ?_
  refine x_newa (a0 := (70, .inl (fun _ => 0))) C h 2 dX12_init_1292 rfl rfl (List.mem_of_getElem? (i := 8) rfl) (fun _ => rfl) (by decide) (by decide) (by decide) (by omega) (by omega) (fun q1292 H h => ?_)
  have h : Hp D A H0 H _ ((q1292, .inl (k 2, 70, .inl (fun _ => 0))) :: (a, .inr (13, ((((fs.set 91 (.ref q1257)).set 92 (.ref q1266)).set 93 (.ref q1275)).set 94 (.ref q1284)))) :: ((q1284, .inl (k 2, 30000, .inl (fun _ => 0))) :: ((q1275, .inl (k 2, 30000, .inl (fun _ => 0))) :: ((q1266, .inl (k 2, 30000, .inl (fun _ => 0))) :: ((q1257, .inl (k 2, 30000, .inl (fun _ => 0))) :: w))))) := Hp.front h
  refine x_putFT tX12_97 yX12_97 C hmn h 1 dX12_init_1294 rfl rfl iX12m (Nat.le_of_ble_eq_true rfl) (List.mem_of_getElem? (i := 66) rfl) tyX12_ok nmX12 (by (try simp only [List.length_set]); rw [hn]; decide) rfl rfl rfl (fun H locs h => ?_)
  have h : Hp D A H0 H _ ((a, .inr (13, (((((fs.set 91 (.ref q1257)).set 92 (.ref q1266)).set 93 (.ref q1275)).set 94 (.ref q1284)).set 97 (.ref q1292)))) :: ((q1292, .inl (k 2, 70, .inl (fun _ => 0))) :: ((q1284, .inl (k 2, 30000, .inl (fun _ => 0))) :: ((q1275, .inl (k 2, 30000, .inl (fun _ => 0))) :: ((q1266, .inl (k 2, 30000, .inl (fun _ => 0))) :: ((q1257, .inl (k 2, 30000, .inl (fun _ => 0))) :: w)))))) := Hp.swap h
  refine lv_aload_n C.1 C.2.1 dX12_init_1297 rfl (lv_at hl 0 rfl) ?_
  refine lv_bipush (v := 70) C.1 C.2.1 dX12_init_1298 (by decide) ?_
  refine x_newa (a0 := (70, .inr (.inl (fun _ => 0)))) C h 3 dX12_init_1300 rfl rfl (List.mem_of_getElem? (i := 22) rfl) (fun _ => rfl) (by decide) (by decide) (by decide) (by omega) (by omega) (fun q1300 H h => ?_)
  have h : Hp D A H0 H _ ((q1300, .inl (k 3, 70, .inr (.inl (fun _ => 0)))) :: (a, .inr (13, (((((fs.set 91 (.ref q1257)).set 92 (.ref q1266)).set 93 (.ref q1275)).set 94 (.ref q1284)).set 97 (.ref q1292)))) :: ((q1292, .inl (k 2, 70, .inl (fun _ => 0))) :: ((q1284, .inl (k 2, 30000, .inl (fun _ => 0))) :: ((q1275, .inl (k 2, 30000, .inl (fun _ => 0))) :: ((q1266, .inl (k 2, 30000, .inl (fun _ => 0))) :: ((q1257, .inl (k 2, 30000, .inl (fun _ => 0))) :: w)))))) := Hp.front h
  refine x_putFT tX12_98 yX12_98 C hmn h 1 dX12_init_1302 rfl rfl iX12m (Nat.le_of_ble_eq_true rfl) (List.mem_of_getElem? (i := 67) rfl) tyX12_ok nmX12 (by (try simp only [List.length_set]); rw [hn]; decide) rfl rfl rfl (fun H locs h => ?_)
  have h : Hp D A H0 H _ ((a, .inr (13, ((((((fs.set 91 (.ref q1257)).set 92 (.ref q1266)).set 93 (.ref q1275)).set 94 (.ref q1284)).set 97 (.ref q1292)).set 98 (.ref q1300)))) :: ((q1300, .inl (k 3, 70, .inr (.inl (fun _ => 0)))) :: ((q1292, .inl (k 2, 70, .inl (fun _ => 0))) :: ((q1284, .inl (k 2, 30000, .inl (fun _ => 0))) :: ((q1275, .inl (k 2, 30000, .inl (fun _ => 0))) :: ((q1266, .inl (k 2, 30000, .inl (fun _ => 0))) :: ((q1257, .inl (k 2, 30000, .inl (fun _ => 0))) :: w))))))) := Hp.swap h
  refine lv_aload_n C.1 C.2.1 dX12_init_1305 rfl (lv_at hl 0 rfl) ?_
  refine lv_bipush (v := 70) C.1 C.2.1 dX12_init_1306 (by decide) ?_
  refine x_newa (a0 := (70, .inl (fun _ => 0))) C h 2 dX12_init_1308 rfl rfl (List.mem_of_getElem? (i := 8) rfl) (fun _ => rfl) (by decide) (by decide) (by decide) (by omega) (by omega) (fun q1308 H h => ?_)
  have h : Hp D A H0 H _ ((q1308, .inl (k 2, 70, .inl (fun _ => 0))) :: (a, .inr (13, ((((((fs.set 91 (.ref q1257)).set 92 (.ref q1266)).set 93 (.ref q1275)).set 94 (.ref q1284)).set 97 (.ref q1292)).set 98 (.ref q1300)))) :: ((q1300, .inl (k 3, 70, .inr (.inl (fun _ => 0)))) :: ((q1292, .inl (k 2, 70, .inl (fun _ => 0))) :: ((q1284, .inl (k 2, 30000, .inl (fun _ => 0))) :: ((q1275, .inl (k 2, 30000, .inl (fun _ => 0))) :: ((q1266, .inl (k 2, 30000, .inl (fun _ => 0))) :: ((q1257, .inl (k 2, 30000, .inl (fun _ => 0))) :: w))))))) := Hp.front h
  refine x_putFT tX12_99 yX12_99 C hmn h 1 dX12_init_1310 rfl rfl iX12m (Nat.le_of_ble_eq_true rfl) (List.mem_of_getElem? (i := 68) rfl) tyX12_ok nmX12 (by (try simp only [List.length_set]); rw [hn]; decide) rfl rfl rfl (fun H locs h => ?_)
  have h : Hp D A H0 H _ ((a, .inr (13, (((((((fs.set 91 (.ref q1257)).set 92 (.ref q1266)).set 93 (.ref q1275)).set 94 (.ref q1284)).set 97 (.ref q1292)).set 98 (.ref q1300)).set 99 (.ref q1308)))) :: ((q1308, .inl (k 2, 70, .inl (fun _ => 0))) :: ((q1300, .inl (k 3, 70, .inr (.inl (fun _ => 0)))) :: ((q1292, .inl (k 2, 70, .inl (fun _ => 0))) :: ((q1284, .inl (k 2, 30000, .inl (fun _ => 0))) :: ((q1275, .inl (k 2, 30000, .inl (fun _ => 0))) :: ((q1266, .inl (k 2, 30000, .inl (fun _ => 0))) :: ((q1257, .inl (k 2, 30000, .inl (fun _ => 0))) :: w)))))))) := Hp.swap h
  refine lv_aload_n C.1 C.2.1 dX12_init_1313 rfl (lv_at hl 0 rfl) ?_
  refine lv_bipush (v := 70) C.1 C.2.1 dX12_init_1314 (by decide) ?_
  refine x_newa (a0 := (70, .inl (fun _ => 0))) C h 2 dX12_init_1316 rfl rfl (List.mem_of_getElem? (i := 8) rfl) (fun _ => rfl) (by decide) (by decide) (by decide) (by omega) (by omega) (fun q1316 H h => ?_)
  have h : Hp D A H0 H _ ((q1316, .inl (k 2, 70, .inl (fun _ => 0))) :: (a, .inr (13, (((((((fs.set 91 (.ref q1257)).set 92 (.ref q1266)).set 93 (.ref q1275)).set 94 (.ref q1284)).set 97 (.ref q1292)).set 98 (.ref q1300)).set 99 (.ref q1308)))) :: ((q1308, .inl (k 2, 70, .inl (fun _ => 0))) :: ((q1300, .inl (k 3, 70, .inr (.inl (fun _ => 0)))) :: ((q1292, .inl (k 2, 70, .inl (fun _ => 0))) :: ((q1284, .inl (k 2, 30000, .inl (fun _ => 0))) :: ((q1275, .inl (k 2, 30000, .inl (fun _ => 0))) :: ((q1266, .inl (k 2, 30000, .inl (fun _ => 0))) :: ((q1257, .inl (k 2, 30000, .inl (fun _ => 0))) :: w)))))))) := Hp.front h
  refine x_putFT tX12_100 yX12_100 C hmn h 1 dX12_init_1318 rfl rfl iX12m (Nat.le_of_ble_eq_true rfl) (List.mem_of_getElem? (i := 69) rfl) tyX12_ok nmX12 (by (try simp only [List.length_set]); rw [hn]; decide) rfl rfl rfl (fun H locs h => ?_)
  have h : Hp D A H0 H _ ((a, .inr (13, ((((((((fs.set 91 (.ref q1257)).set 92 (.ref q1266)).set 93 (.ref q1275)).set 94 (.ref q1284)).set 97 (.ref q1292)).set 98 (.ref q1300)).set 99 (.ref q1308)).set 100 (.ref q1316)))) :: ((q1316, .inl (k 2, 70, .inl (fun _ => 0))) :: ((q1308, .inl (k 2, 70, .inl (fun _ => 0))) :: ((q1300, .inl (k 3, 70, .inr (.inl (fun _ => 0)))) :: ((q1292, .inl (k 2, 70, .inl (fun _ => 0))) :: ((q1284, .inl (k 2, 30000, .inl (fun _ => 0))) :: ((q1275, .inl (k 2, 30000, .inl (fun _ => 0))) :: ((q1266, .inl (k 2, 30000, .inl (fun _ => 0))) :: ((q1257, .inl (k 2, 30000, .inl (fun _ => 0))) :: w))))))))) := Hp.swap h
  exact kk q1257 q1266 q1275 q1284 q1292 q1300 q1308 q1316 H _ h
set_option maxHeartbeats 4000000 in
set_option maxRecDepth 100000 in
theorem sg19 {p : Program} {l : Launch} {e : Env} {R : Room} {s : State} {m : MethodId} {args : Array Value} {below : List Frame} {meth : Method} {c : Code} {H : Heap} {locs : List Loc} {cells slots : Nat} {Q : State → Prop} {ls : Array Slot} {D : va_G} {A : Nat → Prop} {k : Nat → ClassId} {H0 : Heap} {a : Nat} {fs : List Value} {w : va_W} (C : Cx p s m args c cX12_init RX12 wsX12_init D (TYs k) 2) (hmn : meth.name = "<init>") (hl : lv_has ls 2 [(0, .ref a)]) (hn : fs.length = 153) (hcl : cells + 8 ≤ R.cells) (hsl : slots + 1220 ≤ R.slots) (h : Hp D A H0 H locs ((a, .inr (13, fs)) :: w)) (kk : ∀ (q1324 q1332 q1340 q1348 q1356 q1364 q1373 q1382 : Nat) (H : Heap) (locs : List Loc), Hp D A H0 H locs ((a, .inr (13, ((((((((fs.set 101 (.ref q1324)).set 102 (.ref q1332)).set 103 (.ref q1340)).set 104 (.ref q1348)).set 105 (.ref q1356)).set 106 (.ref q1364)).set 107 (.ref q1373)).set 108 (.ref q1382)))) :: ((q1382, .inl (k 2, 400, .inl (fun _ => 0))) :: ((q1373, .inl (k 2, 400, .inl (fun _ => 0))) :: ((q1364, .inl (k 3, 70, .inr (.inl (fun _ => 0)))) :: ((q1356, .inl (k 3, 70, .inr (.inl (fun _ => 0)))) :: ((q1348, .inl (k 3, 70, .inr (.inl (fun _ => 0)))) :: ((q1340, .inl (k 2, 70, .inl (fun _ => 0))) :: ((q1332, .inl (k 2, 70, .inl (fun _ => 0))) :: ((q1324, .inl (k 2, 70, .inl (fun _ => 0))) :: w))))))))) → W p l e R s m args below meth c H locs (cells + 1 + 1 + 1 + 1 + 1 + 1 + 1 + 1) (slots + 70 + 70 + 70 + 70 + 70 + 70 + 400 + 400) Q (F0 m 1387 ls [])) : W p l e R s m args below meth c H locs cells slots Q (F0 m 1321 ls []) := by
  refine lv_aload_n C.1 C.2.1 dX12_init_1321 rfl (lv_at hl 0 rfl) ?_
  refine lv_bipush (v := 70) C.1 C.2.1 dX12_init_1322 (by decide) ?_
  refine x_newa (a0 := (70, .inl (fun _ => 0))) C h 2 dX12_init_1324 rfl rfl (List.mem_of_getElem? (i := 8) rfl) (fun _ => rfl) (by decide) (by decide) (by decide) (by omega) (by omega) (fun q1324 H h => ?_)
  have h : Hp D A H0 H _ ((q1324, .inl (k 2, 70, .inl (fun _ => 0))) :: (a, .inr (13, fs)) :: w) := Hp.front h
  refine x_putFT tX12_101 yX12_101 C hmn h 1 dX12_init_1326 rfl rfl iX12m (Nat.le_of_ble_eq_true rfl) (List.mem_of_getElem? (i := 70) rfl) tyX12_ok nmX12 (by (try simp only [List.length_set]); rw [hn]; decide) rfl rfl rfl (fun H locs h => ?_)
  have h : Hp D A H0 H _ ((a, .inr (13, (fs.set 101 (.ref q1324)))) :: ((q1324, .inl (k 2, 70, .inl (fun _ => 0))) :: w)) := Hp.swap h
  refine lv_aload_n C.1 C.2.1 dX12_init_1329 rfl (lv_at hl 0 rfl) ?_
  refine lv_bipush (v := 70) C.1 C.2.1 dX12_init_1330 (by decide) ?_
  refine x_newa (a0 := (70, .inl (fun _ => 0))) C h 2 dX12_init_1332 rfl rfl (List.mem_of_getElem? (i := 8) rfl) (fun _ => rfl) (by decide) (by decide) (by decide) (by omega) (by omega) (fun q1332 H h => ?_)
  have h : Hp D A H0 H _ ((q1332, .inl (k 2, 70, .inl (fun _ => 0))) :: (a, .inr (13, (fs.set 101 (.ref q1324)))) :: ((q1324, .inl (k 2, 70, .inl (fun _ => 0))) :: w)) := Hp.front h
  refine x_putFT tX12_102 yX12_102 C hmn h 1 dX12_init_1334 rfl rfl iX12m (Nat.le_of_ble_eq_true rfl) (List.mem_of_getElem? (i := 71) rfl) tyX12_ok nmX12 (by (try simp only [List.length_set]); rw [hn]; decide) rfl rfl rfl (fun H locs h => ?_)
  have h : Hp D A H0 H _ ((a, .inr (13, ((fs.set 101 (.ref q1324)).set 102 (.ref q1332)))) :: ((q1332, .inl (k 2, 70, .inl (fun _ => 0))) :: ((q1324, .inl (k 2, 70, .inl (fun _ => 0))) :: w))) := Hp.swap h
  refine lv_aload_n C.1 C.2.1 dX12_init_1337 rfl (lv_at hl 0 rfl) ?_
  refine lv_bipush (v := 70) C.1 C.2.1 dX12_init_1338 (by decide) ?_
  refine x_newa (a0 := (70, .inl (fun _ => 0))) C h 2 dX12_init_1340 rfl rfl (List.mem_of_getElem? (i := 8) rfl) (fun _ => rfl) (by decide) (by decide) (by decide) (by omega) (by omega) (fun q1340 H h => ?_)
  have h : Hp D A H0 H _ ((q1340, .inl (k 2, 70, .inl (fun _ => 0))) :: (a, .inr (13, ((fs.set 101 (.ref q1324)).set 102 (.ref q1332)))) :: ((q1332, .inl (k 2, 70, .inl (fun _ => 0))) :: ((q1324, .inl (k 2, 70, .inl (fun _ => 0))) :: w))) := Hp.front h
  refine x_putFT tX12_103 yX12_103 C hmn h 1 dX12_init_1342 rfl rfl iX12m (Nat.le_of_ble_eq_true rfl) (List.mem_of_getElem? (i := 72) rfl) tyX12_ok nmX12 (by (try simp only [List.length_set]); rw [hn]; decide) rfl rfl rfl (fun H locs h => ?_)
  have h : Hp D A H0 H _ ((a, .inr (13, (((fs.set 101 (.ref q1324)).set 102 (.ref q1332)).set 103 (.ref q1340)))) :: ((q1340, .inl (k 2, 70, .inl (fun _ => 0))) :: ((q1332, .inl (k 2, 70, .inl (fun _ => 0))) :: ((q1324, .inl (k 2, 70, .inl (fun _ => 0))) :: w)))) := Hp.swap h
  refine lv_aload_n C.1 C.2.1 dX12_init_1345 rfl (lv_at hl 0 rfl) ?_
  refine lv_bipush (v := 70) C.1 C.2.1 dX12_init_1346 (by decide) ?_
  refine x_newa (a0 := (70, .inr (.inl (fun _ => 0)))) C h 3 dX12_init_1348 rfl rfl (List.mem_of_getElem? (i := 22) rfl) (fun _ => rfl) (by decide) (by decide) (by decide) (by omega) (by omega) (fun q1348 H h => ?_)
  have h : Hp D A H0 H _ ((q1348, .inl (k 3, 70, .inr (.inl (fun _ => 0)))) :: (a, .inr (13, (((fs.set 101 (.ref q1324)).set 102 (.ref q1332)).set 103 (.ref q1340)))) :: ((q1340, .inl (k 2, 70, .inl (fun _ => 0))) :: ((q1332, .inl (k 2, 70, .inl (fun _ => 0))) :: ((q1324, .inl (k 2, 70, .inl (fun _ => 0))) :: w)))) := Hp.front h
  refine x_putFT tX12_104 yX12_104 C hmn h 1 dX12_init_1350 rfl rfl iX12m (Nat.le_of_ble_eq_true rfl) (List.mem_of_getElem? (i := 73) rfl) tyX12_ok nmX12 (by (try simp only [List.length_set]); rw [hn]; decide) rfl rfl rfl (fun H locs h => ?_)
  have h : Hp D A H0 H _ ((a, .inr (13, ((((fs.set 101 (.ref q1324)).set 102 (.ref q1332)).set 103 (.ref q1340)).set 104 (.ref q1348)))) :: ((q1348, .inl (k 3, 70, .inr (.inl (fun _ => 0)))) :: ((q1340, .inl (k 2, 70, .inl (fun _ => 0))) :: ((q1332, .inl (k 2, 70, .inl (fun _ => 0))) :: ((q1324, .inl (k 2, 70, .inl (fun _ => 0))) :: w))))) := Hp.swap h
  refine lv_aload_n C.1 C.2.1 dX12_init_1353 rfl (lv_at hl 0 rfl) ?_
  refine lv_bipush (v := 70) C.1 C.2.1 dX12_init_1354 (by decide) ?_
  refine x_newa (a0 := (70, .inr (.inl (fun _ => 0)))) C h 3 dX12_init_1356 rfl rfl (List.mem_of_getElem? (i := 22) rfl) (fun _ => rfl) (by decide) (by decide) (by decide) (by omega) (by omega) (fun q1356 H h => ?_)
  have h : Hp D A H0 H _ ((q1356, .inl (k 3, 70, .inr (.inl (fun _ => 0)))) :: (a, .inr (13, ((((fs.set 101 (.ref q1324)).set 102 (.ref q1332)).set 103 (.ref q1340)).set 104 (.ref q1348)))) :: ((q1348, .inl (k 3, 70, .inr (.inl (fun _ => 0)))) :: ((q1340, .inl (k 2, 70, .inl (fun _ => 0))) :: ((q1332, .inl (k 2, 70, .inl (fun _ => 0))) :: ((q1324, .inl (k 2, 70, .inl (fun _ => 0))) :: w))))) := Hp.front h
  refine x_putFT tX12_105 yX12_105 C hmn h 1 dX12_init_1358 rfl rfl iX12m (Nat.le_of_ble_eq_true rfl) (List.mem_of_getElem? (i := 74) rfl) tyX12_ok nmX12 (by (try simp only [List.length_set]); rw [hn]; decide) rfl rfl rfl (fun H locs h => ?_)
  have h : Hp D A H0 H _ ((a, .inr (13, (((((fs.set 101 (.ref q1324)).set 102 (.ref q1332)).set 103 (.ref q1340)).set 104 (.ref q1348)).set 105 (.ref q1356)))) :: ((q1356, .inl (k 3, 70, .inr (.inl (fun _ => 0)))) :: ((q1348, .inl (k 3, 70, .inr (.inl (fun _ => 0)))) :: ((q1340, .inl (k 2, 70, .inl (fun _ => 0))) :: ((q1332, .inl (k 2, 70, .inl (fun _ => 0))) :: ((q1324, .inl (k 2, 70, .inl (fun _ => 0))) :: w)))))) := Hp.swap h
  refine lv_aload_n C.1 C.2.1 dX12_init_1361 rfl (lv_at hl 0 rfl) ?_
  refine lv_bipush (v := 70) C.1 C.2.1 dX12_init_1362 (by decide) ?_
  refine x_newa (a0 := (70, .inr (.inl (fun _ => 0)))) C h 3 dX12_init_1364 rfl rfl (List.mem_of_getElem? (i := 22) rfl) (fun _ => rfl) (by decide) (by decide) (by decide) (by omega) (by omega) (fun q1364 H h => ?_)
  have h : Hp D A H0 H _ ((q1364, .inl (k 3, 70, .inr (.inl (fun _ => 0)))) :: (a, .inr (13, (((((fs.set 101 (.ref q1324)).set 102 (.ref q1332)).set 103 (.ref q1340)).set 104 (.ref q1348)).set 105 (.ref q1356)))) :: ((q1356, .inl (k 3, 70, .inr (.inl (fun _ => 0)))) :: ((q1348, .inl (k 3, 70, .inr (.inl (fun _ => 0)))) :: ((q1340, .inl (k 2, 70, .inl (fun _ => 0))) :: ((q1332, .inl (k 2, 70, .inl (fun _ => 0))) :: ((q1324, .inl (k 2, 70, .inl (fun _ => 0))) :: w)))))) := Hp.front h
  refine x_putFT tX12_106 yX12_106 C hmn h 1 dX12_init_1366 rfl rfl iX12m (Nat.le_of_ble_eq_true rfl) (List.mem_of_getElem? (i := 75) rfl) tyX12_ok nmX12 (by (try simp only [List.length_set]); rw [hn]; decide) rfl rfl rfl (fun H locs h => ?_)
  have h : Hp D A H0 H _ ((a, .inr (13, ((((((fs.set 101 (.ref q1324)).set 102 (.ref q1332)).set 103 (.ref q1340)).set 104 (.ref q1348)).set 105 (.ref q1356)).set 106 (.ref q1364)))) :: ((q1364, .inl (k 3, 70, .inr (.inl (fun _ => 0)))) :: ((q1356, .inl (k 3, 70, .inr (.inl (fun _ => 0)))) :: ((q1348, .inl (k 3, 70, .inr (.inl (fun _ => 0)))) :: ((q1340, .inl (k 2, 70, .inl (fun _ => 0))) :: ((q1332, .inl (k 2, 70, .inl (fun _ => 0))) :: ((q1324, .inl (k 2, 70, .inl (fun _ => 0))) :: w))))))) := Hp.swap h
  refine lv_aload_n C.1 C.2.1 dX12_init_1369 rfl (lv_at hl 0 rfl) ?_
  refine lv_sipush (v := 400) C.1 C.2.1 dX12_init_1370 (by decide) ?_
  refine x_newa (a0 := (400, .inl (fun _ => 0))) C h 2 dX12_init_1373 rfl rfl (List.mem_of_getElem? (i := 8) rfl) (fun _ => rfl) (by decide) (by decide) (by decide) (by omega) (by omega) (fun q1373 H h => ?_)
  have h : Hp D A H0 H _ ((q1373, .inl (k 2, 400, .inl (fun _ => 0))) :: (a, .inr (13, ((((((fs.set 101 (.ref q1324)).set 102 (.ref q1332)).set 103 (.ref q1340)).set 104 (.ref q1348)).set 105 (.ref q1356)).set 106 (.ref q1364)))) :: ((q1364, .inl (k 3, 70, .inr (.inl (fun _ => 0)))) :: ((q1356, .inl (k 3, 70, .inr (.inl (fun _ => 0)))) :: ((q1348, .inl (k 3, 70, .inr (.inl (fun _ => 0)))) :: ((q1340, .inl (k 2, 70, .inl (fun _ => 0))) :: ((q1332, .inl (k 2, 70, .inl (fun _ => 0))) :: ((q1324, .inl (k 2, 70, .inl (fun _ => 0))) :: w))))))) := Hp.front h
  refine x_putFT tX12_107 yX12_107 C hmn h 1 dX12_init_1375 rfl rfl iX12m (Nat.le_of_ble_eq_true rfl) (List.mem_of_getElem? (i := 76) rfl) tyX12_ok nmX12 (by (try simp only [List.length_set]); rw [hn]; decide) rfl rfl rfl (fun H locs h => ?_)
  have h : Hp D A H0 H _ ((a, .inr (13, (((((((fs.set 101 (.ref q1324)).set 102 (.ref q1332)).set 103 (.ref q1340)).set 104 (.ref q1348)).set 105 (.ref q1356)).set 106 (.ref q1364)).set 107 (.ref q1373)))) :: ((q1373, .inl (k 2, 400, .inl (fun _ => 0))) :: ((q1364, .inl (k 3, 70, .inr (.inl (fun _ => 0)))) :: ((q1356, .inl (k 3, 70, .inr (.inl (fun _ => 0)))) :: ((q1348, .inl (k 3, 70, .inr (.inl (fun _ => 0)))) :: ((q1340, .inl (k 2, 70, .inl (fun _ => 0))) :: ((q1332, .inl (k 2, 70, .inl (fun _ => 0))) :: ((q1324, .inl (k 2, 70, .inl (fun _ => 0))) :: w)))))))) := Hp.swap h
  refine lv_aload_n C.1 C.2.1 dX12_init_1378 rfl (lv_at hl 0 rfl) ?_
  refine lv_sipush (v := 400) C.1 C.2.1 dX12_init_1379 (by decide) ?_
  refine x_newa (a0 := (400, .inl (fun _ => 0))) C h 2 dX12_init_1382 rfl rfl (List.mem_of_getElem? (i := 8) rfl) (fun _ => rfl) (by decide) (by decide) (by decide) (by omega) (by omega) (fun q1382 H h => ?_)
  have h : Hp D A H0 H _ ((q1382, .inl (k 2, 400, .inl (fun _ => 0))) :: (a, .inr (13, (((((((fs.set 101 (.ref q1324)).set 102 (.ref q1332)).set 103 (.ref q1340)).set 104 (.ref q1348)).set 105 (.ref q1356)).set 106 (.ref q1364)).set 107 (.ref q1373)))) :: ((q1373, .inl (k 2, 400, .inl (fun _ => 0))) :: ((q1364, .inl (k 3, 70, .inr (.inl (fun _ => 0)))) :: ((q1356, .inl (k 3, 70, .inr (.inl (fun _ => 0)))) :: ((q1348, .inl (k 3, 70, .inr (.inl (fun _ => 0)))) :: ((q1340, .inl (k 2, 70, .inl (fun _ => 0))) :: ((q1332, .inl (k 2, 70, .inl (fun _ => 0))) :: ((q1324, .inl (k 2, 70, .inl (fun _ => 0))) :: w)))))))) := Hp.front h
  refine x_putFT tX12_108 yX12_108 C hmn h 1 dX12_init_1384 rfl rfl iX12m (Nat.le_of_ble_eq_true rfl) (List.mem_of_getElem? (i := 77) rfl) tyX12_ok nmX12 (by (try simp only [List.length_set]); rw [hn]; decide) rfl rfl rfl (fun H locs h => ?_)
  have h : Hp D A H0 H _ ((a, .inr (13, ((((((((fs.set 101 (.ref q1324)).set 102 (.ref q1332)).set 103 (.ref q1340)).set 104 (.ref q1348)).set 105 (.ref q1356)).set 106 (.ref q1364)).set 107 (.ref q1373)).set 108 (.ref q1382)))) :: ((q1382, .inl (k 2, 400, .inl (fun _ => 0))) :: ((q1373, .inl (k 2, 400, .inl (fun _ => 0))) :: ((q1364, .inl (k 3, 70, .inr (.inl (fun _ => 0)))) :: ((q1356, .inl (k 3, 70, .inr (.inl (fun _ => 0)))) :: ((q1348, .inl (k 3, 70, .inr (.inl (fun _ => 0)))) :: ((q1340, .inl (k 2, 70, .inl (fun _ => 0))) :: ((q1332, .inl (k 2, 70, .inl (fun _ => 0))) :: ((q1324, .inl (k 2, 70, .inl (fun _ => 0))) :: w))))))))) := Hp.swap h
  exact kk q1324 q1332 q1340 q1348 q1356 q1364 q1373 q1382 H _ h
set_option maxHeartbeats 4000000 in
set_option maxRecDepth 100000 in
theorem sg20 {p : Program} {l : Launch} {e : Env} {R : Room} {s : State} {m : MethodId} {args : Array Value} {below : List Frame} {meth : Method} {c : Code} {H : Heap} {locs : List Loc} {cells slots : Nat} {Q : State → Prop} {ls : Array Slot} {D : va_G} {A : Nat → Prop} {k : Nat → ClassId} {H0 : Heap} {a : Nat} {fs : List Value} {w : va_W} (C : Cx p s m args c cX12_init RX12 wsX12_init D (TYs k) 2) (hmn : meth.name = "<init>") (hl : lv_has ls 2 [(0, .ref a)]) (hn : fs.length = 153) (hcl : cells + 6 ≤ R.cells) (hsl : slots + 832 ≤ R.slots) (h : Hp D A H0 H locs ((a, .inr (13, fs)) :: w)) (kk : ∀ (q1391 q1400 q1408 q1416 q1424 q1432 : Nat) (H : Heap) (locs : List Loc), Hp D A H0 H locs ((a, .inr (13, ((((((((fs.set 109 (.ref q1391)).set 110 (.ref q1400)).set 111 (.ref q1408)).set 112 (.ref q1416)).set 113 (.ref q1424)).set 114 (.ref q1432)).set 118 (.int (-1))).set 119 (.int (-1))))) :: ((q1432, .inl (k 4, 8, .inl (fun _ => 0))) :: ((q1424, .inl (k 4, 8, .inl (fun _ => 0))) :: ((q1416, .inl (k 2, 8, .inl (fun _ => 0))) :: ((q1408, .inl (k 2, 8, .inl (fun _ => 0))) :: ((q1400, .inl (k 2, 400, .inl (fun _ => 0))) :: ((q1391, .inl (k 2, 400, .inl (fun _ => 0))) :: w))))))) → W p l e R s m args below meth c H locs (cells + 1 + 1 + 1 + 1 + 1 + 1) (slots + 400 + 400 + 8 + 8 + 8 + 8) Q (F0 m 1447 ls [])) : W p l e R s m args below meth c H locs cells slots Q (F0 m 1387 ls []) := by
  refine lv_aload_n C.1 C.2.1 dX12_init_1387 rfl (lv_at hl 0 rfl) ?_
  refine lv_sipush (v := 400) C.1 C.2.1 dX12_init_1388 (by decide) ?_
  refine x_newa (a0 := (400, .inl (fun _ => 0))) C h 2 dX12_init_1391 rfl rfl (List.mem_of_getElem? (i := 8) rfl) (fun _ => rfl) (by decide) (by decide) (by decide) (by omega) (by omega) (fun q1391 H h => ?_)
  have h : Hp D A H0 H _ ((q1391, .inl (k 2, 400, .inl (fun _ => 0))) :: (a, .inr (13, fs)) :: w) := Hp.front h
  refine x_putFT tX12_109 yX12_109 C hmn h 1 dX12_init_1393 rfl rfl iX12m (Nat.le_of_ble_eq_true rfl) (List.mem_of_getElem? (i := 78) rfl) tyX12_ok nmX12 (by (try simp only [List.length_set]); rw [hn]; decide) rfl rfl rfl (fun H locs h => ?_)
  have h : Hp D A H0 H _ ((a, .inr (13, (fs.set 109 (.ref q1391)))) :: ((q1391, .inl (k 2, 400, .inl (fun _ => 0))) :: w)) := Hp.swap h
  refine lv_aload_n C.1 C.2.1 dX12_init_1396 rfl (lv_at hl 0 rfl) ?_
  refine lv_sipush (v := 400) C.1 C.2.1 dX12_init_1397 (by decide) ?_
  refine x_newa (a0 := (400, .inl (fun _ => 0))) C h 2 dX12_init_1400 rfl rfl (List.mem_of_getElem? (i := 8) rfl) (fun _ => rfl) (by decide) (by decide) (by decide) (by omega) (by omega) (fun q1400 H h => ?_)
  have h : Hp D A H0 H _ ((q1400, .inl (k 2, 400, .inl (fun _ => 0))) :: (a, .inr (13, (fs.set 109 (.ref q1391)))) :: ((q1391, .inl (k 2, 400, .inl (fun _ => 0))) :: w)) := Hp.front h
  refine x_putFT tX12_110 yX12_110 C hmn h 1 dX12_init_1402 rfl rfl iX12m (Nat.le_of_ble_eq_true rfl) (List.mem_of_getElem? (i := 79) rfl) tyX12_ok nmX12 (by (try simp only [List.length_set]); rw [hn]; decide) rfl rfl rfl (fun H locs h => ?_)
  have h : Hp D A H0 H _ ((a, .inr (13, ((fs.set 109 (.ref q1391)).set 110 (.ref q1400)))) :: ((q1400, .inl (k 2, 400, .inl (fun _ => 0))) :: ((q1391, .inl (k 2, 400, .inl (fun _ => 0))) :: w))) := Hp.swap h
  refine lv_aload_n C.1 C.2.1 dX12_init_1405 rfl (lv_at hl 0 rfl) ?_
  refine lv_bipush (v := 8) C.1 C.2.1 dX12_init_1406 (by decide) ?_
  refine x_newa (a0 := (8, .inl (fun _ => 0))) C h 2 dX12_init_1408 rfl rfl (List.mem_of_getElem? (i := 8) rfl) (fun _ => rfl) (by decide) (by decide) (by decide) (by omega) (by omega) (fun q1408 H h => ?_)
  have h : Hp D A H0 H _ ((q1408, .inl (k 2, 8, .inl (fun _ => 0))) :: (a, .inr (13, ((fs.set 109 (.ref q1391)).set 110 (.ref q1400)))) :: ((q1400, .inl (k 2, 400, .inl (fun _ => 0))) :: ((q1391, .inl (k 2, 400, .inl (fun _ => 0))) :: w))) := Hp.front h
  refine x_putFT tX12_111 yX12_111 C hmn h 1 dX12_init_1410 rfl rfl iX12m (Nat.le_of_ble_eq_true rfl) (List.mem_of_getElem? (i := 80) rfl) tyX12_ok nmX12 (by (try simp only [List.length_set]); rw [hn]; decide) rfl rfl rfl (fun H locs h => ?_)
  have h : Hp D A H0 H _ ((a, .inr (13, (((fs.set 109 (.ref q1391)).set 110 (.ref q1400)).set 111 (.ref q1408)))) :: ((q1408, .inl (k 2, 8, .inl (fun _ => 0))) :: ((q1400, .inl (k 2, 400, .inl (fun _ => 0))) :: ((q1391, .inl (k 2, 400, .inl (fun _ => 0))) :: w)))) := Hp.swap h
  refine lv_aload_n C.1 C.2.1 dX12_init_1413 rfl (lv_at hl 0 rfl) ?_
  refine lv_bipush (v := 8) C.1 C.2.1 dX12_init_1414 (by decide) ?_
  refine x_newa (a0 := (8, .inl (fun _ => 0))) C h 2 dX12_init_1416 rfl rfl (List.mem_of_getElem? (i := 8) rfl) (fun _ => rfl) (by decide) (by decide) (by decide) (by omega) (by omega) (fun q1416 H h => ?_)
  have h : Hp D A H0 H _ ((q1416, .inl (k 2, 8, .inl (fun _ => 0))) :: (a, .inr (13, (((fs.set 109 (.ref q1391)).set 110 (.ref q1400)).set 111 (.ref q1408)))) :: ((q1408, .inl (k 2, 8, .inl (fun _ => 0))) :: ((q1400, .inl (k 2, 400, .inl (fun _ => 0))) :: ((q1391, .inl (k 2, 400, .inl (fun _ => 0))) :: w)))) := Hp.front h
  refine x_putFT tX12_112 yX12_112 C hmn h 1 dX12_init_1418 rfl rfl iX12m (Nat.le_of_ble_eq_true rfl) (List.mem_of_getElem? (i := 81) rfl) tyX12_ok nmX12 (by (try simp only [List.length_set]); rw [hn]; decide) rfl rfl rfl (fun H locs h => ?_)
  have h : Hp D A H0 H _ ((a, .inr (13, ((((fs.set 109 (.ref q1391)).set 110 (.ref q1400)).set 111 (.ref q1408)).set 112 (.ref q1416)))) :: ((q1416, .inl (k 2, 8, .inl (fun _ => 0))) :: ((q1408, .inl (k 2, 8, .inl (fun _ => 0))) :: ((q1400, .inl (k 2, 400, .inl (fun _ => 0))) :: ((q1391, .inl (k 2, 400, .inl (fun _ => 0))) :: w))))) := Hp.swap h
  refine lv_aload_n C.1 C.2.1 dX12_init_1421 rfl (lv_at hl 0 rfl) ?_
  refine lv_bipush (v := 8) C.1 C.2.1 dX12_init_1422 (by decide) ?_
  refine x_newa (a0 := (8, .inl (fun _ => 0))) C h 4 dX12_init_1424 rfl rfl (List.mem_of_getElem? (i := 82) rfl) (fun _ => rfl) (by decide) (by decide) (by decide) (by omega) (by omega) (fun q1424 H h => ?_)
  have h : Hp D A H0 H _ ((q1424, .inl (k 4, 8, .inl (fun _ => 0))) :: (a, .inr (13, ((((fs.set 109 (.ref q1391)).set 110 (.ref q1400)).set 111 (.ref q1408)).set 112 (.ref q1416)))) :: ((q1416, .inl (k 2, 8, .inl (fun _ => 0))) :: ((q1408, .inl (k 2, 8, .inl (fun _ => 0))) :: ((q1400, .inl (k 2, 400, .inl (fun _ => 0))) :: ((q1391, .inl (k 2, 400, .inl (fun _ => 0))) :: w))))) := Hp.front h
  refine x_putFT tX12_113 yX12_113 C hmn h 1 dX12_init_1426 rfl rfl iX12m (Nat.le_of_ble_eq_true rfl) (List.mem_of_getElem? (i := 83) rfl) tyX12_ok nmX12 (by (try simp only [List.length_set]); rw [hn]; decide) rfl rfl rfl (fun H locs h => ?_)
  have h : Hp D A H0 H _ ((a, .inr (13, (((((fs.set 109 (.ref q1391)).set 110 (.ref q1400)).set 111 (.ref q1408)).set 112 (.ref q1416)).set 113 (.ref q1424)))) :: ((q1424, .inl (k 4, 8, .inl (fun _ => 0))) :: ((q1416, .inl (k 2, 8, .inl (fun _ => 0))) :: ((q1408, .inl (k 2, 8, .inl (fun _ => 0))) :: ((q1400, .inl (k 2, 400, .inl (fun _ => 0))) :: ((q1391, .inl (k 2, 400, .inl (fun _ => 0))) :: w)))))) := Hp.swap h
  refine lv_aload_n C.1 C.2.1 dX12_init_1429 rfl (lv_at hl 0 rfl) ?_
  refine lv_bipush (v := 8) C.1 C.2.1 dX12_init_1430 (by decide) ?_
  refine x_newa (a0 := (8, .inl (fun _ => 0))) C h 4 dX12_init_1432 rfl rfl (List.mem_of_getElem? (i := 82) rfl) (fun _ => rfl) (by decide) (by decide) (by decide) (by omega) (by omega) (fun q1432 H h => ?_)
  have h : Hp D A H0 H _ ((q1432, .inl (k 4, 8, .inl (fun _ => 0))) :: (a, .inr (13, (((((fs.set 109 (.ref q1391)).set 110 (.ref q1400)).set 111 (.ref q1408)).set 112 (.ref q1416)).set 113 (.ref q1424)))) :: ((q1424, .inl (k 4, 8, .inl (fun _ => 0))) :: ((q1416, .inl (k 2, 8, .inl (fun _ => 0))) :: ((q1408, .inl (k 2, 8, .inl (fun _ => 0))) :: ((q1400, .inl (k 2, 400, .inl (fun _ => 0))) :: ((q1391, .inl (k 2, 400, .inl (fun _ => 0))) :: w)))))) := Hp.front h
  refine x_putFT tX12_114 yX12_114 C hmn h 1 dX12_init_1434 rfl rfl iX12m (Nat.le_of_ble_eq_true rfl) (List.mem_of_getElem? (i := 84) rfl) tyX12_ok nmX12 (by (try simp only [List.length_set]); rw [hn]; decide) rfl rfl rfl (fun H locs h => ?_)
  have h : Hp D A H0 H _ ((a, .inr (13, ((((((fs.set 109 (.ref q1391)).set 110 (.ref q1400)).set 111 (.ref q1408)).set 112 (.ref q1416)).set 113 (.ref q1424)).set 114 (.ref q1432)))) :: ((q1432, .inl (k 4, 8, .inl (fun _ => 0))) :: ((q1424, .inl (k 4, 8, .inl (fun _ => 0))) :: ((q1416, .inl (k 2, 8, .inl (fun _ => 0))) :: ((q1408, .inl (k 2, 8, .inl (fun _ => 0))) :: ((q1400, .inl (k 2, 400, .inl (fun _ => 0))) :: ((q1391, .inl (k 2, 400, .inl (fun _ => 0))) :: w))))))) := Hp.swap h
  refine lv_aload_n C.1 C.2.1 dX12_init_1437 rfl (lv_at hl 0 rfl) ?_
  refine lv_iconst (v := (-1)) C.1 C.2.1 dX12_init_1438 (by decide) ?_
  refine x_putT tX12_118 yX12_118 C h 0 dX12_init_1439 rfl rfl iX12m (Nat.le_of_ble_eq_true rfl) (List.mem_of_getElem? (i := 85) rfl) tyX12_ok nmX12 (by (try simp only [List.length_set]); rw [hn]; decide) rfl rfl (fun H locs h => ?_)
  have h : Hp D A H0 H _ ((a, .inr (13, (((((((fs.set 109 (.ref q1391)).set 110 (.ref q1400)).set 111 (.ref q1408)).set 112 (.ref q1416)).set 113 (.ref q1424)).set 114 (.ref q1432)).set 118 (.int (-1))))) :: ((q1432, .inl (k 4, 8, .inl (fun _ => 0))) :: ((q1424, .inl (k 4, 8, .inl (fun _ => 0))) :: ((q1416, .inl (k 2, 8, .inl (fun _ => 0))) :: ((q1408, .inl (k 2, 8, .inl (fun _ => 0))) :: ((q1400, .inl (k 2, 400, .inl (fun _ => 0))) :: ((q1391, .inl (k 2, 400, .inl (fun _ => 0))) :: w))))))) := h
  refine lv_aload_n C.1 C.2.1 dX12_init_1442 rfl (lv_at hl 0 rfl) ?_
  refine lv_iconst (v := (-1)) C.1 C.2.1 dX12_init_1443 (by decide) ?_
  refine x_putT tX12_119 yX12_119 C h 0 dX12_init_1444 rfl rfl iX12m (Nat.le_of_ble_eq_true rfl) (List.mem_of_getElem? (i := 86) rfl) tyX12_ok nmX12 (by (try simp only [List.length_set]); rw [hn]; decide) rfl rfl (fun H locs h => ?_)
  have h : Hp D A H0 H _ ((a, .inr (13, ((((((((fs.set 109 (.ref q1391)).set 110 (.ref q1400)).set 111 (.ref q1408)).set 112 (.ref q1416)).set 113 (.ref q1424)).set 114 (.ref q1432)).set 118 (.int (-1))).set 119 (.int (-1))))) :: ((q1432, .inl (k 4, 8, .inl (fun _ => 0))) :: ((q1424, .inl (k 4, 8, .inl (fun _ => 0))) :: ((q1416, .inl (k 2, 8, .inl (fun _ => 0))) :: ((q1408, .inl (k 2, 8, .inl (fun _ => 0))) :: ((q1400, .inl (k 2, 400, .inl (fun _ => 0))) :: ((q1391, .inl (k 2, 400, .inl (fun _ => 0))) :: w))))))) := h
  exact kk q1391 q1400 q1408 q1416 q1424 q1432 H _ h
set_option maxHeartbeats 4000000 in
set_option maxRecDepth 100000 in
theorem sg21 {p : Program} {l : Launch} {e : Env} {R : Room} {s : State} {m : MethodId} {args : Array Value} {below : List Frame} {meth : Method} {c : Code} {H : Heap} {locs : List Loc} {cells slots : Nat} {Q : State → Prop} {ls : Array Slot} {D : va_G} {A : Nat → Prop} {k : Nat → ClassId} {H0 : Heap} {a : Nat} {fs : List Value} {w : va_W} (C : Cx p s m args c cX12_init RX12 wsX12_init D (TYs k) 2) (hmn : meth.name = "<init>") (hl : lv_has ls 2 [(0, .ref a)]) (hn : fs.length = 153) (hcl : cells + 7 ≤ R.cells) (hsl : slots + 2800 ≤ R.slots) (h : Hp D A H0 H locs ((a, .inr (13, fs)) :: w)) (kk : ∀ (q1456 q1465 q1474 q1483 q1492 q1501 q1510 : Nat) (H : Heap) (locs : List Loc), Hp D A H0 H locs ((a, .inr (13, ((((((((fs.set 120 (.int (-1))).set 122 (.ref q1456)).set 123 (.ref q1465)).set 124 (.ref q1474)).set 125 (.ref q1483)).set 126 (.ref q1492)).set 127 (.ref q1501)).set 130 (.ref q1510)))) :: ((q1510, .inl (k 2, 400, .inl (fun _ => 0))) :: ((q1501, .inl (k 2, 400, .inl (fun _ => 0))) :: ((q1492, .inl (k 2, 400, .inl (fun _ => 0))) :: ((q1483, .inl (k 2, 400, .inl (fun _ => 0))) :: ((q1474, .inl (k 2, 400, .inl (fun _ => 0))) :: ((q1465, .inl (k 3, 400, .inr (.inl (fun _ => 0)))) :: ((q1456, .inl (k 3, 400, .inr (.inl (fun _ => 0)))) :: w)))))))) → W p l e R s m args below meth c H locs (cells + 1 + 1 + 1 + 1 + 1 + 1 + 1) (slots + 400 + 400 + 400 + 400 + 400 + 400 + 400) Q (F0 m 1515 ls [])) : W p l e R s m args below meth c H locs cells slots Q (F0 m 1447 ls []) := by
  refine lv_aload_n C.1 C.2.1 dX12_init_1447 rfl (lv_at hl 0 rfl) ?_
  refine lv_iconst (v := (-1)) C.1 C.2.1 dX12_init_1448 (by decide) ?_
  refine x_putT tX12_120 yX12_120 C h 0 dX12_init_1449 rfl rfl iX12m (Nat.le_of_ble_eq_true rfl) (List.mem_of_getElem? (i := 87) rfl) tyX12_ok nmX12 (by (try simp only [List.length_set]); rw [hn]; decide) rfl rfl (fun H locs h => ?_)
  have h : Hp D A H0 H _ ((a, .inr (13, (fs.set 120 (.int (-1))))) :: w) := h
  refine lv_aload_n C.1 C.2.1 dX12_init_1452 rfl (lv_at hl 0 rfl) ?_
  refine lv_sipush (v := 400) C.1 C.2.1 dX12_init_1453 (by decide) ?_
  refine x_newa (a0 := (400, .inr (.inl (fun _ => 0)))) C h 3 dX12_init_1456 rfl rfl (List.mem_of_getElem? (i := 22) rfl) (fun _ => rfl) (by decide) (by decide) (by decide) (by omega) (by omega) (fun q1456 H h => ?_)
  have h : Hp D A H0 H _ ((q1456, .inl (k 3, 400, .inr (.inl (fun _ => 0)))) :: (a, .inr (13, (fs.set 120 (.int (-1))))) :: w) := Hp.front h
  refine x_putFT tX12_122 yX12_122 C hmn h 1 dX12_init_1458 rfl rfl iX12m (Nat.le_of_ble_eq_true rfl) (List.mem_of_getElem? (i := 88) rfl) tyX12_ok nmX12 (by (try simp only [List.length_set]); rw [hn]; decide) rfl rfl rfl (fun H locs h => ?_)
  have h : Hp D A H0 H _ ((a, .inr (13, ((fs.set 120 (.int (-1))).set 122 (.ref q1456)))) :: ((q1456, .inl (k 3, 400, .inr (.inl (fun _ => 0)))) :: w)) := Hp.swap h
  refine lv_aload_n C.1 C.2.1 dX12_init_1461 rfl (lv_at hl 0 rfl) ?_
  refine lv_sipush (v := 400) C.1 C.2.1 dX12_init_1462 (by decide) ?_
  refine x_newa (a0 := (400, .inr (.inl (fun _ => 0)))) C h 3 dX12_init_1465 rfl rfl (List.mem_of_getElem? (i := 22) rfl) (fun _ => rfl) (by decide) (by decide) (by decide) (by omega) (by omega) (fun q1465 H h => ?_)
  have h : Hp D A H0 H _ ((q1465, .inl (k 3, 400, .inr (.inl (fun _ => 0)))) :: (a, .inr (13, ((fs.set 120 (.int (-1))).set 122 (.ref q1456)))) :: ((q1456, .inl (k 3, 400, .inr (.inl (fun _ => 0)))) :: w)) := Hp.front h
  refine x_putFT tX12_123 yX12_123 C hmn h 1 dX12_init_1467 rfl rfl iX12m (Nat.le_of_ble_eq_true rfl) (List.mem_of_getElem? (i := 89) rfl) tyX12_ok nmX12 (by (try simp only [List.length_set]); rw [hn]; decide) rfl rfl rfl (fun H locs h => ?_)
  have h : Hp D A H0 H _ ((a, .inr (13, (((fs.set 120 (.int (-1))).set 122 (.ref q1456)).set 123 (.ref q1465)))) :: ((q1465, .inl (k 3, 400, .inr (.inl (fun _ => 0)))) :: ((q1456, .inl (k 3, 400, .inr (.inl (fun _ => 0)))) :: w))) := Hp.swap h
  refine lv_aload_n C.1 C.2.1 dX12_init_1470 rfl (lv_at hl 0 rfl) ?_
  refine lv_sipush (v := 400) C.1 C.2.1 dX12_init_1471 (by decide) ?_
  refine x_newa (a0 := (400, .inl (fun _ => 0))) C h 2 dX12_init_1474 rfl rfl (List.mem_of_getElem? (i := 8) rfl) (fun _ => rfl) (by decide) (by decide) (by decide) (by omega) (by omega) (fun q1474 H h => ?_)
  have h : Hp D A H0 H _ ((q1474, .inl (k 2, 400, .inl (fun _ => 0))) :: (a, .inr (13, (((fs.set 120 (.int (-1))).set 122 (.ref q1456)).set 123 (.ref q1465)))) :: ((q1465, .inl (k 3, 400, .inr (.inl (fun _ => 0)))) :: ((q1456, .inl (k 3, 400, .inr (.inl (fun _ => 0)))) :: w))) := Hp.front h
  refine x_putFT tX12_124 yX12_124 C hmn h 1 dX12_init_1476 rfl rfl iX12m (Nat.le_of_ble_eq_true rfl) (List.mem_of_getElem? (i := 90) rfl) tyX12_ok nmX12 (by (try simp only [List.length_set]); rw [hn]; decide) rfl rfl rfl (fun H locs h => ?_)
  have h : Hp D A H0 H _ ((a, .inr (13, ((((fs.set 120 (.int (-1))).set 122 (.ref q1456)).set 123 (.ref q1465)).set 124 (.ref q1474)))) :: ((q1474, .inl (k 2, 400, .inl (fun _ => 0))) :: ((q1465, .inl (k 3, 400, .inr (.inl (fun _ => 0)))) :: ((q1456, .inl (k 3, 400, .inr (.inl (fun _ => 0)))) :: w)))) := Hp.swap h
  refine lv_aload_n C.1 C.2.1 dX12_init_1479 rfl (lv_at hl 0 rfl) ?_
  refine lv_sipush (v := 400) C.1 C.2.1 dX12_init_1480 (by decide) ?_
  refine x_newa (a0 := (400, .inl (fun _ => 0))) C h 2 dX12_init_1483 rfl rfl (List.mem_of_getElem? (i := 8) rfl) (fun _ => rfl) (by decide) (by decide) (by decide) (by omega) (by omega) (fun q1483 H h => ?_)
  have h : Hp D A H0 H _ ((q1483, .inl (k 2, 400, .inl (fun _ => 0))) :: (a, .inr (13, ((((fs.set 120 (.int (-1))).set 122 (.ref q1456)).set 123 (.ref q1465)).set 124 (.ref q1474)))) :: ((q1474, .inl (k 2, 400, .inl (fun _ => 0))) :: ((q1465, .inl (k 3, 400, .inr (.inl (fun _ => 0)))) :: ((q1456, .inl (k 3, 400, .inr (.inl (fun _ => 0)))) :: w)))) := Hp.front h
  refine x_putFT tX12_125 yX12_125 C hmn h 1 dX12_init_1485 rfl rfl iX12m (Nat.le_of_ble_eq_true rfl) (List.mem_of_getElem? (i := 91) rfl) tyX12_ok nmX12 (by (try simp only [List.length_set]); rw [hn]; decide) rfl rfl rfl (fun H locs h => ?_)
  have h : Hp D A H0 H _ ((a, .inr (13, (((((fs.set 120 (.int (-1))).set 122 (.ref q1456)).set 123 (.ref q1465)).set 124 (.ref q1474)).set 125 (.ref q1483)))) :: ((q1483, .inl (k 2, 400, .inl (fun _ => 0))) :: ((q1474, .inl (k 2, 400, .inl (fun _ => 0))) :: ((q1465, .inl (k 3, 400, .inr (.inl (fun _ => 0)))) :: ((q1456, .inl (k 3, 400, .inr (.inl (fun _ => 0)))) :: w))))) := Hp.swap h
  refine lv_aload_n C.1 C.2.1 dX12_init_1488 rfl (lv_at hl 0 rfl) ?_
  refine lv_sipush (v := 400) C.1 C.2.1 dX12_init_1489 (by decide) ?_
  refine x_newa (a0 := (400, .inl (fun _ => 0))) C h 2 dX12_init_1492 rfl rfl (List.mem_of_getElem? (i := 8) rfl) (fun _ => rfl) (by decide) (by decide) (by decide) (by omega) (by omega) (fun q1492 H h => ?_)
  have h : Hp D A H0 H _ ((q1492, .inl (k 2, 400, .inl (fun _ => 0))) :: (a, .inr (13, (((((fs.set 120 (.int (-1))).set 122 (.ref q1456)).set 123 (.ref q1465)).set 124 (.ref q1474)).set 125 (.ref q1483)))) :: ((q1483, .inl (k 2, 400, .inl (fun _ => 0))) :: ((q1474, .inl (k 2, 400, .inl (fun _ => 0))) :: ((q1465, .inl (k 3, 400, .inr (.inl (fun _ => 0)))) :: ((q1456, .inl (k 3, 400, .inr (.inl (fun _ => 0)))) :: w))))) := Hp.front h
  refine x_putFT tX12_126 yX12_126 C hmn h 1 dX12_init_1494 rfl rfl iX12m (Nat.le_of_ble_eq_true rfl) (List.mem_of_getElem? (i := 92) rfl) tyX12_ok nmX12 (by (try simp only [List.length_set]); rw [hn]; decide) rfl rfl rfl (fun H locs h => ?_)
  have h : Hp D A H0 H _ ((a, .inr (13, ((((((fs.set 120 (.int (-1))).set 122 (.ref q1456)).set 123 (.ref q1465)).set 124 (.ref q1474)).set 125 (.ref q1483)).set 126 (.ref q1492)))) :: ((q1492, .inl (k 2, 400, .inl (fun _ => 0))) :: ((q1483, .inl (k 2, 400, .inl (fun _ => 0))) :: ((q1474, .inl (k 2, 400, .inl (fun _ => 0))) :: ((q1465, .inl (k 3, 400, .inr (.inl (fun _ => 0)))) :: ((q1456, .inl (k 3, 400, .inr (.inl (fun _ => 0)))) :: w)))))) := Hp.swap h
  refine lv_aload_n C.1 C.2.1 dX12_init_1497 rfl (lv_at hl 0 rfl) ?_
  refine lv_sipush (v := 400) C.1 C.2.1 dX12_init_1498 (by decide) ?_
  refine x_newa (a0 := (400, .inl (fun _ => 0))) C h 2 dX12_init_1501 rfl rfl (List.mem_of_getElem? (i := 8) rfl) (fun _ => rfl) (by decide) (by decide) (by decide) (by omega) (by omega) (fun q1501 H h => ?_)
  have h : Hp D A H0 H _ ((q1501, .inl (k 2, 400, .inl (fun _ => 0))) :: (a, .inr (13, ((((((fs.set 120 (.int (-1))).set 122 (.ref q1456)).set 123 (.ref q1465)).set 124 (.ref q1474)).set 125 (.ref q1483)).set 126 (.ref q1492)))) :: ((q1492, .inl (k 2, 400, .inl (fun _ => 0))) :: ((q1483, .inl (k 2, 400, .inl (fun _ => 0))) :: ((q1474, .inl (k 2, 400, .inl (fun _ => 0))) :: ((q1465, .inl (k 3, 400, .inr (.inl (fun _ => 0)))) :: ((q1456, .inl (k 3, 400, .inr (.inl (fun _ => 0)))) :: w)))))) := Hp.front h
  refine x_putFT tX12_127 yX12_127 C hmn h 1 dX12_init_1503 rfl rfl iX12m (Nat.le_of_ble_eq_true rfl) (List.mem_of_getElem? (i := 93) rfl) tyX12_ok nmX12 (by (try simp only [List.length_set]); rw [hn]; decide) rfl rfl rfl (fun H locs h => ?_)
  have h : Hp D A H0 H _ ((a, .inr (13, (((((((fs.set 120 (.int (-1))).set 122 (.ref q1456)).set 123 (.ref q1465)).set 124 (.ref q1474)).set 125 (.ref q1483)).set 126 (.ref q1492)).set 127 (.ref q1501)))) :: ((q1501, .inl (k 2, 400, .inl (fun _ => 0))) :: ((q1492, .inl (k 2, 400, .inl (fun _ => 0))) :: ((q1483, .inl (k 2, 400, .inl (fun _ => 0))) :: ((q1474, .inl (k 2, 400, .inl (fun _ => 0))) :: ((q1465, .inl (k 3, 400, .inr (.inl (fun _ => 0)))) :: ((q1456, .inl (k 3, 400, .inr (.inl (fun _ => 0)))) :: w))))))) := Hp.swap h
  refine lv_aload_n C.1 C.2.1 dX12_init_1506 rfl (lv_at hl 0 rfl) ?_
  refine lv_sipush (v := 400) C.1 C.2.1 dX12_init_1507 (by decide) ?_
  refine x_newa (a0 := (400, .inl (fun _ => 0))) C h 2 dX12_init_1510 rfl rfl (List.mem_of_getElem? (i := 8) rfl) (fun _ => rfl) (by decide) (by decide) (by decide) (by omega) (by omega) (fun q1510 H h => ?_)
  have h : Hp D A H0 H _ ((q1510, .inl (k 2, 400, .inl (fun _ => 0))) :: (a, .inr (13, (((((((fs.set 120 (.int (-1))).set 122 (.ref q1456)).set 123 (.ref q1465)).set 124 (.ref q1474)).set 125 (.ref q1483)).set 126 (.ref q1492)).set 127 (.ref q1501)))) :: ((q1501, .inl (k 2, 400, .inl (fun _ => 0))) :: ((q1492, .inl (k 2, 400, .inl (fun _ => 0))) :: ((q1483, .inl (k 2, 400, .inl (fun _ => 0))) :: ((q1474, .inl (k 2, 400, .inl (fun _ => 0))) :: ((q1465, .inl (k 3, 400, .inr (.inl (fun _ => 0)))) :: ((q1456, .inl (k 3, 400, .inr (.inl (fun _ => 0)))) :: w))))))) := Hp.front h
  refine x_putFT tX12_130 yX12_130 C hmn h 1 dX12_init_1512 rfl rfl iX12m (Nat.le_of_ble_eq_true rfl) (List.mem_of_getElem? (i := 94) rfl) tyX12_ok nmX12 (by (try simp only [List.length_set]); rw [hn]; decide) rfl rfl rfl (fun H locs h => ?_)
  have h : Hp D A H0 H _ ((a, .inr (13, ((((((((fs.set 120 (.int (-1))).set 122 (.ref q1456)).set 123 (.ref q1465)).set 124 (.ref q1474)).set 125 (.ref q1483)).set 126 (.ref q1492)).set 127 (.ref q1501)).set 130 (.ref q1510)))) :: ((q1510, .inl (k 2, 400, .inl (fun _ => 0))) :: ((q1501, .inl (k 2, 400, .inl (fun _ => 0))) :: ((q1492, .inl (k 2, 400, .inl (fun _ => 0))) :: ((q1483, .inl (k 2, 400, .inl (fun _ => 0))) :: ((q1474, .inl (k 2, 400, .inl (fun _ => 0))) :: ((q1465, .inl (k 3, 400, .inr (.inl (fun _ => 0)))) :: ((q1456, .inl (k 3, 400, .inr (.inl (fun _ => 0)))) :: w)))))))) := Hp.swap h
  exact kk q1456 q1465 q1474 q1483 q1492 q1501 q1510 H _ h
set_option maxHeartbeats 4000000 in
set_option maxRecDepth 100000 in
theorem sg22 {p : Program} {l : Launch} {e : Env} {R : Room} {s : State} {m : MethodId} {args : Array Value} {below : List Frame} {meth : Method} {c : Code} {H : Heap} {locs : List Loc} {cells slots : Nat} {Q : State → Prop} {ls : Array Slot} {D : va_G} {A : Nat → Prop} {k : Nat → ClassId} {H0 : Heap} {a : Nat} {fs : List Value} {w : va_W} (C : Cx p s m args c cX12_init RX12 wsX12_init D (TYs k) 2) (hmn : meth.name = "<init>") (hl : lv_has ls 2 [(0, .ref a)]) (hn : fs.length = 153) (hcl : cells + 8 ≤ R.cells) (hsl : slots + 3200 ≤ R.slots) (h : Hp D A H0 H locs ((a, .inr (13, fs)) :: w)) (kk : ∀ (q1519 q1528 q1537 q1546 q1555 q1564 q1573 q1582 : Nat) (H : Heap) (locs : List Loc), Hp D A H0 H locs ((a, .inr (13, ((((((((fs.set 131 (.ref q1519)).set 132 (.ref q1528)).set 133 (.ref q1537)).set 134 (.ref q1546)).set 135 (.ref q1555)).set 136 (.ref q1564)).set 137 (.ref q1573)).set 138 (.ref q1582)))) :: ((q1582, .inl (k 2, 400, .inl (fun _ => 0))) :: ((q1573, .inl (k 2, 400, .inl (fun _ => 0))) :: ((q1564, .inl (k 2, 400, .inl (fun _ => 0))) :: ((q1555, .inl (k 2, 400, .inl (fun _ => 0))) :: ((q1546, .inl (k 3, 400, .inr (.inl (fun _ => 0)))) :: ((q1537, .inl (k 3, 400, .inr (.inl (fun _ => 0)))) :: ((q1528, .inl (k 2, 400, .inl (fun _ => 0))) :: ((q1519, .inl (k 2, 400, .inl (fun _ => 0))) :: w))))))))) → W p l e R s m args below meth c H locs (cells + 1 + 1 + 1 + 1 + 1 + 1 + 1 + 1) (slots + 400 + 400 + 400 + 400 + 400 + 400 + 400 + 400) Q (F0 m 1587 ls [])) : W p l e R s m args below meth c H locs cells slots Q (F0 m 1515 ls []) := by
  refine lv_aload_n C.1 C.2.1 dX12_init_1515 rfl (lv_at hl 0 rfl) ?_
  refine lv_sipush (v := 400) C.1 C.2.1 dX12_init_1516 (by decide) ?_
  refine x_newa (a0 := (400, .inl (fun _ => 0))) C h 2 dX12_init_1519 rfl rfl (List.mem_of_getElem? (i := 8) rfl) (fun _ => rfl) (by decide) (by decide) (by decide) (by omega) (by omega) (fun q1519 H h => ?_)
  have h : Hp D A H0 H _ ((q1519, .inl (k 2, 400, .inl (fun _ => 0))) :: (a, .inr (13, fs)) :: w) := Hp.front h
  refine x_putFT tX12_131 yX12_131 C hmn h 1 dX12_init_1521 rfl rfl iX12m (Nat.le_of_ble_eq_true rfl) (List.mem_of_getElem? (i := 95) rfl) tyX12_ok nmX12 (by (try simp only [List.length_set]); rw [hn]; decide) rfl rfl rfl (fun H locs h => ?_)
  have h : Hp D A H0 H _ ((a, .inr (13, (fs.set 131 (.ref q1519)))) :: ((q1519, .inl (k 2, 400, .inl (fun _ => 0))) :: w)) := Hp.swap h
  refine lv_aload_n C.1 C.2.1 dX12_init_1524 rfl (lv_at hl 0 rfl) ?_
  refine lv_sipush (v := 400) C.1 C.2.1 dX12_init_1525 (by decide) ?_
  refine x_newa (a0 := (400, .inl (fun _ => 0))) C h 2 dX12_init_1528 rfl rfl (List.mem_of_getElem? (i := 8) rfl) (fun _ => rfl) (by decide) (by decide) (by decide) (by omega) (by omega) (fun q1528 H h => ?_)
  have h : Hp D A H0 H _ ((q1528, .inl (k 2, 400, .inl (fun _ => 0))) :: (a, .inr (13, (fs.set 131 (.ref q1519)))) :: ((q1519, .inl (k 2, 400, .inl (fun _ => 0))) :: w)) := Hp.front h
  refine x_putFT tX12_132 yX12_132 C hmn h 1 dX12_init_1530 rfl rfl iX12m (Nat.le_of_ble_eq_true rfl) (List.mem_of_getElem? (i := 96) rfl) tyX12_ok nmX12 (by (try simp only [List.length_set]); rw [hn]; decide) rfl rfl rfl (fun H locs h => ?_)
  have h : Hp D A H0 H _ ((a, .inr (13, ((fs.set 131 (.ref q1519)).set 132 (.ref q1528)))) :: ((q1528, .inl (k 2, 400, .inl (fun _ => 0))) :: ((q1519, .inl (k 2, 400, .inl (fun _ => 0))) :: w))) := Hp.swap h
  refine lv_aload_n C.1 C.2.1 dX12_init_1533 rfl (lv_at hl 0 rfl) ?_
  refine lv_sipush (v := 400) C.1 C.2.1 dX12_init_1534 (by decide) ?_
  refine x_newa (a0 := (400, .inr (.inl (fun _ => 0)))) C h 3 dX12_init_1537 rfl rfl (List.mem_of_getElem? (i := 22) rfl) (fun _ => rfl) (by decide) (by decide) (by decide) (by omega) (by omega) (fun q1537 H h => ?_)
  have h : Hp D A H0 H _ ((q1537, .inl (k 3, 400, .inr (.inl (fun _ => 0)))) :: (a, .inr (13, ((fs.set 131 (.ref q1519)).set 132 (.ref q1528)))) :: ((q1528, .inl (k 2, 400, .inl (fun _ => 0))) :: ((q1519, .inl (k 2, 400, .inl (fun _ => 0))) :: w))) := Hp.front h
  refine x_putFT tX12_133 yX12_133 C hmn h 1 dX12_init_1539 rfl rfl iX12m (Nat.le_of_ble_eq_true rfl) (List.mem_of_getElem? (i := 97) rfl) tyX12_ok nmX12 (by (try simp only [List.length_set]); rw [hn]; decide) rfl rfl rfl (fun H locs h => ?_)
  have h : Hp D A H0 H _ ((a, .inr (13, (((fs.set 131 (.ref q1519)).set 132 (.ref q1528)).set 133 (.ref q1537)))) :: ((q1537, .inl (k 3, 400, .inr (.inl (fun _ => 0)))) :: ((q1528, .inl (k 2, 400, .inl (fun _ => 0))) :: ((q1519, .inl (k 2, 400, .inl (fun _ => 0))) :: w)))) := Hp.swap h
  refine lv_aload_n C.1 C.2.1 dX12_init_1542 rfl (lv_at hl 0 rfl) ?_
  refine lv_sipush (v := 400) C.1 C.2.1 dX12_init_1543 (by decide) ?_
  refine x_newa (a0 := (400, .inr (.inl (fun _ => 0)))) C h 3 dX12_init_1546 rfl rfl (List.mem_of_getElem? (i := 22) rfl) (fun _ => rfl) (by decide) (by decide) (by decide) (by omega) (by omega) (fun q1546 H h => ?_)
  have h : Hp D A H0 H _ ((q1546, .inl (k 3, 400, .inr (.inl (fun _ => 0)))) :: (a, .inr (13, (((fs.set 131 (.ref q1519)).set 132 (.ref q1528)).set 133 (.ref q1537)))) :: ((q1537, .inl (k 3, 400, .inr (.inl (fun _ => 0)))) :: ((q1528, .inl (k 2, 400, .inl (fun _ => 0))) :: ((q1519, .inl (k 2, 400, .inl (fun _ => 0))) :: w)))) := Hp.front h
  refine x_putFT tX12_134 yX12_134 C hmn h 1 dX12_init_1548 rfl rfl iX12m (Nat.le_of_ble_eq_true rfl) (List.mem_of_getElem? (i := 98) rfl) tyX12_ok nmX12 (by (try simp only [List.length_set]); rw [hn]; decide) rfl rfl rfl (fun H locs h => ?_)
  have h : Hp D A H0 H _ ((a, .inr (13, ((((fs.set 131 (.ref q1519)).set 132 (.ref q1528)).set 133 (.ref q1537)).set 134 (.ref q1546)))) :: ((q1546, .inl (k 3, 400, .inr (.inl (fun _ => 0)))) :: ((q1537, .inl (k 3, 400, .inr (.inl (fun _ => 0)))) :: ((q1528, .inl (k 2, 400, .inl (fun _ => 0))) :: ((q1519, .inl (k 2, 400, .inl (fun _ => 0))) :: w))))) := Hp.swap h
  refine lv_aload_n C.1 C.2.1 dX12_init_1551 rfl (lv_at hl 0 rfl) ?_
  refine lv_sipush (v := 400) C.1 C.2.1 dX12_init_1552 (by decide) ?_
  refine x_newa (a0 := (400, .inl (fun _ => 0))) C h 2 dX12_init_1555 rfl rfl (List.mem_of_getElem? (i := 8) rfl) (fun _ => rfl) (by decide) (by decide) (by decide) (by omega) (by omega) (fun q1555 H h => ?_)
  have h : Hp D A H0 H _ ((q1555, .inl (k 2, 400, .inl (fun _ => 0))) :: (a, .inr (13, ((((fs.set 131 (.ref q1519)).set 132 (.ref q1528)).set 133 (.ref q1537)).set 134 (.ref q1546)))) :: ((q1546, .inl (k 3, 400, .inr (.inl (fun _ => 0)))) :: ((q1537, .inl (k 3, 400, .inr (.inl (fun _ => 0)))) :: ((q1528, .inl (k 2, 400, .inl (fun _ => 0))) :: ((q1519, .inl (k 2, 400, .inl (fun _ => 0))) :: w))))) := Hp.front h
  refine x_putFT tX12_135 yX12_135 C hmn h 1 dX12_init_1557 rfl rfl iX12m (Nat.le_of_ble_eq_true rfl) (List.mem_of_getElem? (i := 99) rfl) tyX12_ok nmX12 (by (try simp only [List.length_set]); rw [hn]; decide) rfl rfl rfl (fun H locs h => ?_)
  have h : Hp D A H0 H _ ((a, .inr (13, (((((fs.set 131 (.ref q1519)).set 132 (.ref q1528)).set 133 (.ref q1537)).set 134 (.ref q1546)).set 135 (.ref q1555)))) :: ((q1555, .inl (k 2, 400, .inl (fun _ => 0))) :: ((q1546, .inl (k 3, 400, .inr (.inl (fun _ => 0)))) :: ((q1537, .inl (k 3, 400, .inr (.inl (fun _ => 0)))) :: ((q1528, .inl (k 2, 400, .inl (fun _ => 0))) :: ((q1519, .inl (k 2, 400, .inl (fun _ => 0))) :: w)))))) := Hp.swap h
  refine lv_aload_n C.1 C.2.1 dX12_init_1560 rfl (lv_at hl 0 rfl) ?_
  refine lv_sipush (v := 400) C.1 C.2.1 dX12_init_1561 (by decide) ?_
  refine x_newa (a0 := (400, .inl (fun _ => 0))) C h 2 dX12_init_1564 rfl rfl (List.mem_of_getElem? (i := 8) rfl) (fun _ => rfl) (by decide) (by decide) (by decide) (by omega) (by omega) (fun q1564 H h => ?_)
  have h : Hp D A H0 H _ ((q1564, .inl (k 2, 400, .inl (fun _ => 0))) :: (a, .inr (13, (((((fs.set 131 (.ref q1519)).set 132 (.ref q1528)).set 133 (.ref q1537)).set 134 (.ref q1546)).set 135 (.ref q1555)))) :: ((q1555, .inl (k 2, 400, .inl (fun _ => 0))) :: ((q1546, .inl (k 3, 400, .inr (.inl (fun _ => 0)))) :: ((q1537, .inl (k 3, 400, .inr (.inl (fun _ => 0)))) :: ((q1528, .inl (k 2, 400, .inl (fun _ => 0))) :: ((q1519, .inl (k 2, 400, .inl (fun _ => 0))) :: w)))))) := Hp.front h
  refine x_putFT tX12_136 yX12_136 C hmn h 1 dX12_init_1566 rfl rfl iX12m (Nat.le_of_ble_eq_true rfl) (List.mem_of_getElem? (i := 100) rfl) tyX12_ok nmX12 (by (try simp only [List.length_set]); rw [hn]; decide) rfl rfl rfl (fun H locs h => ?_)
  have h : Hp D A H0 H _ ((a, .inr (13, ((((((fs.set 131 (.ref q1519)).set 132 (.ref q1528)).set 133 (.ref q1537)).set 134 (.ref q1546)).set 135 (.ref q1555)).set 136 (.ref q1564)))) :: ((q1564, .inl (k 2, 400, .inl (fun _ => 0))) :: ((q1555, .inl (k 2, 400, .inl (fun _ => 0))) :: ((q1546, .inl (k 3, 400, .inr (.inl (fun _ => 0)))) :: ((q1537, .inl (k 3, 400, .inr (.inl (fun _ => 0)))) :: ((q1528, .inl (k 2, 400, .inl (fun _ => 0))) :: ((q1519, .inl (k 2, 400, .inl (fun _ => 0))) :: w))))))) := Hp.swap h
  refine lv_aload_n C.1 C.2.1 dX12_init_1569 rfl (lv_at hl 0 rfl) ?_
  refine lv_sipush (v := 400) C.1 C.2.1 dX12_init_1570 (by decide) ?_
  refine x_newa (a0 := (400, .inl (fun _ => 0))) C h 2 dX12_init_1573 rfl rfl (List.mem_of_getElem? (i := 8) rfl) (fun _ => rfl) (by decide) (by decide) (by decide) (by omega) (by omega) (fun q1573 H h => ?_)
  have h : Hp D A H0 H _ ((q1573, .inl (k 2, 400, .inl (fun _ => 0))) :: (a, .inr (13, ((((((fs.set 131 (.ref q1519)).set 132 (.ref q1528)).set 133 (.ref q1537)).set 134 (.ref q1546)).set 135 (.ref q1555)).set 136 (.ref q1564)))) :: ((q1564, .inl (k 2, 400, .inl (fun _ => 0))) :: ((q1555, .inl (k 2, 400, .inl (fun _ => 0))) :: ((q1546, .inl (k 3, 400, .inr (.inl (fun _ => 0)))) :: ((q1537, .inl (k 3, 400, .inr (.inl (fun _ => 0)))) :: ((q1528, .inl (k 2, 400, .inl (fun _ => 0))) :: ((q1519, .inl (k 2, 400, .inl (fun _ => 0))) :: w))))))) := Hp.front h
  refine x_putFT tX12_137 yX12_137 C hmn h 1 dX12_init_1575 rfl rfl iX12m (Nat.le_of_ble_eq_true rfl) (List.mem_of_getElem? (i := 101) rfl) tyX12_ok nmX12 (by (try simp only [List.length_set]); rw [hn]; decide) rfl rfl rfl (fun H locs h => ?_)
  have h : Hp D A H0 H _ ((a, .inr (13, (((((((fs.set 131 (.ref q1519)).set 132 (.ref q1528)).set 133 (.ref q1537)).set 134 (.ref q1546)).set 135 (.ref q1555)).set 136 (.ref q1564)).set 137 (.ref q1573)))) :: ((q1573, .inl (k 2, 400, .inl (fun _ => 0))) :: ((q1564, .inl (k 2, 400, .inl (fun _ => 0))) :: ((q1555, .inl (k 2, 400, .inl (fun _ => 0))) :: ((q1546, .inl (k 3, 400, .inr (.inl (fun _ => 0)))) :: ((q1537, .inl (k 3, 400, .inr (.inl (fun _ => 0)))) :: ((q1528, .inl (k 2, 400, .inl (fun _ => 0))) :: ((q1519, .inl (k 2, 400, .inl (fun _ => 0))) :: w)))))))) := Hp.swap h
  refine lv_aload_n C.1 C.2.1 dX12_init_1578 rfl (lv_at hl 0 rfl) ?_
  refine lv_sipush (v := 400) C.1 C.2.1 dX12_init_1579 (by decide) ?_
  refine x_newa (a0 := (400, .inl (fun _ => 0))) C h 2 dX12_init_1582 rfl rfl (List.mem_of_getElem? (i := 8) rfl) (fun _ => rfl) (by decide) (by decide) (by decide) (by omega) (by omega) (fun q1582 H h => ?_)
  have h : Hp D A H0 H _ ((q1582, .inl (k 2, 400, .inl (fun _ => 0))) :: (a, .inr (13, (((((((fs.set 131 (.ref q1519)).set 132 (.ref q1528)).set 133 (.ref q1537)).set 134 (.ref q1546)).set 135 (.ref q1555)).set 136 (.ref q1564)).set 137 (.ref q1573)))) :: ((q1573, .inl (k 2, 400, .inl (fun _ => 0))) :: ((q1564, .inl (k 2, 400, .inl (fun _ => 0))) :: ((q1555, .inl (k 2, 400, .inl (fun _ => 0))) :: ((q1546, .inl (k 3, 400, .inr (.inl (fun _ => 0)))) :: ((q1537, .inl (k 3, 400, .inr (.inl (fun _ => 0)))) :: ((q1528, .inl (k 2, 400, .inl (fun _ => 0))) :: ((q1519, .inl (k 2, 400, .inl (fun _ => 0))) :: w)))))))) := Hp.front h
  refine x_putFT tX12_138 yX12_138 C hmn h 1 dX12_init_1584 rfl rfl iX12m (Nat.le_of_ble_eq_true rfl) (List.mem_of_getElem? (i := 102) rfl) tyX12_ok nmX12 (by (try simp only [List.length_set]); rw [hn]; decide) rfl rfl rfl (fun H locs h => ?_)
  have h : Hp D A H0 H _ ((a, .inr (13, ((((((((fs.set 131 (.ref q1519)).set 132 (.ref q1528)).set 133 (.ref q1537)).set 134 (.ref q1546)).set 135 (.ref q1555)).set 136 (.ref q1564)).set 137 (.ref q1573)).set 138 (.ref q1582)))) :: ((q1582, .inl (k 2, 400, .inl (fun _ => 0))) :: ((q1573, .inl (k 2, 400, .inl (fun _ => 0))) :: ((q1564, .inl (k 2, 400, .inl (fun _ => 0))) :: ((q1555, .inl (k 2, 400, .inl (fun _ => 0))) :: ((q1546, .inl (k 3, 400, .inr (.inl (fun _ => 0)))) :: ((q1537, .inl (k 3, 400, .inr (.inl (fun _ => 0)))) :: ((q1528, .inl (k 2, 400, .inl (fun _ => 0))) :: ((q1519, .inl (k 2, 400, .inl (fun _ => 0))) :: w))))))))) := Hp.swap h
  exact kk q1519 q1528 q1537 q1546 q1555 q1564 q1573 q1582 H _ h
set_option maxHeartbeats 4000000 in
set_option maxRecDepth 100000 in
theorem sg23 {p : Program} {l : Launch} {e : Env} {R : Room} {s : State} {m : MethodId} {args : Array Value} {below : List Frame} {meth : Method} {c : Code} {H : Heap} {locs : List Loc} {cells slots : Nat} {Q : State → Prop} {ls : Array Slot} {D : va_G} {A : Nat → Prop} {k : Nat → ClassId} {H0 : Heap} {a : Nat} {fs : List Value} {w : va_W} (C : Cx p s m args c cX12_init RX12 wsX12_init D (TYs k) 2) (hmn : meth.name = "<init>") (hl : lv_has ls 2 [(0, .ref a)]) (hn : fs.length = 153) (hcl : cells + 8 ≤ R.cells) (hsl : slots + 26400 ≤ R.slots) (h : Hp D A H0 H locs ((a, .inr (13, fs)) :: w)) (kk : ∀ (q1591 q1600 q1609 q1618 q1627 q1636 q1645 q1654 : Nat) (H : Heap) (locs : List Loc), Hp D A H0 H locs ((a, .inr (13, ((((((((fs.set 140 (.ref q1591)).set 141 (.ref q1600)).set 142 (.ref q1609)).set 143 (.ref q1618)).set 144 (.ref q1627)).set 145 (.ref q1636)).set 146 (.ref q1645)).set 147 (.ref q1654)))) :: ((q1654, .inl (k 2, 3300, .inl (fun _ => 0))) :: ((q1645, .inl (k 2, 3300, .inl (fun _ => 0))) :: ((q1636, .inl (k 2, 3300, .inl (fun _ => 0))) :: ((q1627, .inl (k 2, 3300, .inl (fun _ => 0))) :: ((q1618, .inl (k 3, 3300, .inr (.inl (fun _ => 0)))) :: ((q1609, .inl (k 3, 3300, .inr (.inl (fun _ => 0)))) :: ((q1600, .inl (k 2, 3300, .inl (fun _ => 0))) :: ((q1591, .inl (k 2, 3300, .inl (fun _ => 0))) :: w))))))))) → W p l e R s m args below meth c H locs (cells + 1 + 1 + 1 + 1 + 1 + 1 + 1 + 1) (slots + 3300 + 3300 + 3300 + 3300 + 3300 + 3300 + 3300 + 3300) Q (F0 m 1659 ls [])) : W p l e R s m args below meth c H locs cells slots Q (F0 m 1587 ls []) := by
  refine lv_aload_n C.1 C.2.1 dX12_init_1587 rfl (lv_at hl 0 rfl) ?_
  refine lv_sipush (v := 3300) C.1 C.2.1 dX12_init_1588 (by decide) ?_
  refine x_newa (a0 := (3300, .inl (fun _ => 0))) C h 2 dX12_init_1591 rfl rfl (List.mem_of_getElem? (i := 8) rfl) (fun _ => rfl) (by decide) (by decide) (by decide) (by omega) (by omega) (fun q1591 H h => ?_)
  have h : Hp D A H0 H _ ((q1591, .inl (k 2, 3300, .inl (fun _ => 0))) :: (a, .inr (13, fs)) :: w) := Hp.front h
  refine x_putFT tX12_140 yX12_140 C hmn h 1 dX12_init_1593 rfl rfl iX12m (Nat.le_of_ble_eq_true rfl) (List.mem_of_getElem? (i := 103) rfl) tyX12_ok nmX12 (by (try simp only [List.length_set]); rw [hn]; decide) rfl rfl rfl (fun H locs h => ?_)
  have h : Hp D A H0 H _ ((a, .inr (13, (fs.set 140 (.ref q1591)))) :: ((q1591, .inl (k 2, 3300, .inl (fun _ => 0))) :: w)) := Hp.swap h
  refine lv_aload_n C.1 C.2.1 dX12_init_1596 rfl (lv_at hl 0 rfl) ?_
  refine lv_sipush (v := 3300) C.1 C.2.1 dX12_init_1597 (by decide) ?_
  refine x_newa (a0 := (3300, .inl (fun _ => 0))) C h 2 dX12_init_1600 rfl rfl (List.mem_of_getElem? (i := 8) rfl) (fun _ => rfl) (by decide) (by decide) (by decide) (by omega) (by omega) (fun q1600 H h => ?_)
  have h : Hp D A H0 H _ ((q1600, .inl (k 2, 3300, .inl (fun _ => 0))) :: (a, .inr (13, (fs.set 140 (.ref q1591)))) :: ((q1591, .inl (k 2, 3300, .inl (fun _ => 0))) :: w)) := Hp.front h
  refine x_putFT tX12_141 yX12_141 C hmn h 1 dX12_init_1602 rfl rfl iX12m (Nat.le_of_ble_eq_true rfl) (List.mem_of_getElem? (i := 104) rfl) tyX12_ok nmX12 (by (try simp only [List.length_set]); rw [hn]; decide) rfl rfl rfl (fun H locs h => ?_)
  have h : Hp D A H0 H _ ((a, .inr (13, ((fs.set 140 (.ref q1591)).set 141 (.ref q1600)))) :: ((q1600, .inl (k 2, 3300, .inl (fun _ => 0))) :: ((q1591, .inl (k 2, 3300, .inl (fun _ => 0))) :: w))) := Hp.swap h
  refine lv_aload_n C.1 C.2.1 dX12_init_1605 rfl (lv_at hl 0 rfl) ?_
  refine lv_sipush (v := 3300) C.1 C.2.1 dX12_init_1606 (by decide) ?_
  refine x_newa (a0 := (3300, .inr (.inl (fun _ => 0)))) C h 3 dX12_init_1609 rfl rfl (List.mem_of_getElem? (i := 22) rfl) (fun _ => rfl) (by decide) (by decide) (by decide) (by omega) (by omega) (fun q1609 H h => ?_)
  have h : Hp D A H0 H _ ((q1609, .inl (k 3, 3300, .inr (.inl (fun _ => 0)))) :: (a, .inr (13, ((fs.set 140 (.ref q1591)).set 141 (.ref q1600)))) :: ((q1600, .inl (k 2, 3300, .inl (fun _ => 0))) :: ((q1591, .inl (k 2, 3300, .inl (fun _ => 0))) :: w))) := Hp.front h
  refine x_putFT tX12_142 yX12_142 C hmn h 1 dX12_init_1611 rfl rfl iX12m (Nat.le_of_ble_eq_true rfl) (List.mem_of_getElem? (i := 105) rfl) tyX12_ok nmX12 (by (try simp only [List.length_set]); rw [hn]; decide) rfl rfl rfl (fun H locs h => ?_)
  have h : Hp D A H0 H _ ((a, .inr (13, (((fs.set 140 (.ref q1591)).set 141 (.ref q1600)).set 142 (.ref q1609)))) :: ((q1609, .inl (k 3, 3300, .inr (.inl (fun _ => 0)))) :: ((q1600, .inl (k 2, 3300, .inl (fun _ => 0))) :: ((q1591, .inl (k 2, 3300, .inl (fun _ => 0))) :: w)))) := Hp.swap h
  refine lv_aload_n C.1 C.2.1 dX12_init_1614 rfl (lv_at hl 0 rfl) ?_
  refine lv_sipush (v := 3300) C.1 C.2.1 dX12_init_1615 (by decide) ?_
  refine x_newa (a0 := (3300, .inr (.inl (fun _ => 0)))) C h 3 dX12_init_1618 rfl rfl (List.mem_of_getElem? (i := 22) rfl) (fun _ => rfl) (by decide) (by decide) (by decide) (by omega) (by omega) (fun q1618 H h => ?_)
  have h : Hp D A H0 H _ ((q1618, .inl (k 3, 3300, .inr (.inl (fun _ => 0)))) :: (a, .inr (13, (((fs.set 140 (.ref q1591)).set 141 (.ref q1600)).set 142 (.ref q1609)))) :: ((q1609, .inl (k 3, 3300, .inr (.inl (fun _ => 0)))) :: ((q1600, .inl (k 2, 3300, .inl (fun _ => 0))) :: ((q1591, .inl (k 2, 3300, .inl (fun _ => 0))) :: w)))) := Hp.front h
  refine x_putFT tX12_143 yX12_143 C hmn h 1 dX12_init_1620 rfl rfl iX12m (Nat.le_of_ble_eq_true rfl) (List.mem_of_getElem? (i := 106) rfl) tyX12_ok nmX12 (by (try simp only [List.length_set]); rw [hn]; decide) rfl rfl rfl (fun H locs h => ?_)
  have h : Hp D A H0 H _ ((a, .inr (13, ((((fs.set 140 (.ref q1591)).set 141 (.ref q1600)).set 142 (.ref q1609)).set 143 (.ref q1618)))) :: ((q1618, .inl (k 3, 3300, .inr (.inl (fun _ => 0)))) :: ((q1609, .inl (k 3, 3300, .inr (.inl (fun _ => 0)))) :: ((q1600, .inl (k 2, 3300, .inl (fun _ => 0))) :: ((q1591, .inl (k 2, 3300, .inl (fun _ => 0))) :: w))))) := Hp.swap h
  refine lv_aload_n C.1 C.2.1 dX12_init_1623 rfl (lv_at hl 0 rfl) ?_
  refine lv_sipush (v := 3300) C.1 C.2.1 dX12_init_1624 (by decide) ?_
  refine x_newa (a0 := (3300, .inl (fun _ => 0))) C h 2 dX12_init_1627 rfl rfl (List.mem_of_getElem? (i := 8) rfl) (fun _ => rfl) (by decide) (by decide) (by decide) (by omega) (by omega) (fun q1627 H h => ?_)
  have h : Hp D A H0 H _ ((q1627, .inl (k 2, 3300, .inl (fun _ => 0))) :: (a, .inr (13, ((((fs.set 140 (.ref q1591)).set 141 (.ref q1600)).set 142 (.ref q1609)).set 143 (.ref q1618)))) :: ((q1618, .inl (k 3, 3300, .inr (.inl (fun _ => 0)))) :: ((q1609, .inl (k 3, 3300, .inr (.inl (fun _ => 0)))) :: ((q1600, .inl (k 2, 3300, .inl (fun _ => 0))) :: ((q1591, .inl (k 2, 3300, .inl (fun _ => 0))) :: w))))) := Hp.front h
  refine x_putFT tX12_144 yX12_144 C hmn h 1 dX12_init_1629 rfl rfl iX12m (Nat.le_of_ble_eq_true rfl) (List.mem_of_getElem? (i := 107) rfl) tyX12_ok nmX12 (by (try simp only [List.length_set]); rw [hn]; decide) rfl rfl rfl (fun H locs h => ?_)
  have h : Hp D A H0 H _ ((a, .inr (13, (((((fs.set 140 (.ref q1591)).set 141 (.ref q1600)).set 142 (.ref q1609)).set 143 (.ref q1618)).set 144 (.ref q1627)))) :: ((q1627, .inl (k 2, 3300, .inl (fun _ => 0))) :: ((q1618, .inl (k 3, 3300, .inr (.inl (fun _ => 0)))) :: ((q1609, .inl (k 3, 3300, .inr (.inl (fun _ => 0)))) :: ((q1600, .inl (k 2, 3300, .inl (fun _ => 0))) :: ((q1591, .inl (k 2, 3300, .inl (fun _ => 0))) :: w)))))) := Hp.swap h
  refine lv_aload_n C.1 C.2.1 dX12_init_1632 rfl (lv_at hl 0 rfl) ?_
  refine lv_sipush (v := 3300) C.1 C.2.1 dX12_init_1633 (by decide) ?_
  refine x_newa (a0 := (3300, .inl (fun _ => 0))) C h 2 dX12_init_1636 rfl rfl (List.mem_of_getElem? (i := 8) rfl) (fun _ => rfl) (by decide) (by decide) (by decide) (by omega) (by omega) (fun q1636 H h => ?_)
  have h : Hp D A H0 H _ ((q1636, .inl (k 2, 3300, .inl (fun _ => 0))) :: (a, .inr (13, (((((fs.set 140 (.ref q1591)).set 141 (.ref q1600)).set 142 (.ref q1609)).set 143 (.ref q1618)).set 144 (.ref q1627)))) :: ((q1627, .inl (k 2, 3300, .inl (fun _ => 0))) :: ((q1618, .inl (k 3, 3300, .inr (.inl (fun _ => 0)))) :: ((q1609, .inl (k 3, 3300, .inr (.inl (fun _ => 0)))) :: ((q1600, .inl (k 2, 3300, .inl (fun _ => 0))) :: ((q1591, .inl (k 2, 3300, .inl (fun _ => 0))) :: w)))))) := Hp.front h
  refine x_putFT tX12_145 yX12_145 C hmn h 1 dX12_init_1638 rfl rfl iX12m (Nat.le_of_ble_eq_true rfl) (List.mem_of_getElem? (i := 108) rfl) tyX12_ok nmX12 (by (try simp only [List.length_set]); rw [hn]; decide) rfl rfl rfl (fun H locs h => ?_)
  have h : Hp D A H0 H _ ((a, .inr (13, ((((((fs.set 140 (.ref q1591)).set 141 (.ref q1600)).set 142 (.ref q1609)).set 143 (.ref q1618)).set 144 (.ref q1627)).set 145 (.ref q1636)))) :: ((q1636, .inl (k 2, 3300, .inl (fun _ => 0))) :: ((q1627, .inl (k 2, 3300, .inl (fun _ => 0))) :: ((q1618, .inl (k 3, 3300, .inr (.inl (fun _ => 0)))) :: ((q1609, .inl (k 3, 3300, .inr (.inl (fun _ => 0)))) :: ((q1600, .inl (k 2, 3300, .inl (fun _ => 0))) :: ((q1591, .inl (k 2, 3300, .inl (fun _ => 0))) :: w))))))) := Hp.swap h
  refine lv_aload_n C.1 C.2.1 dX12_init_1641 rfl (lv_at hl 0 rfl) ?_
  refine lv_sipush (v := 3300) C.1 C.2.1 dX12_init_1642 (by decide) ?_
  refine x_newa (a0 := (3300, .inl (fun _ => 0))) C h 2 dX12_init_1645 rfl rfl (List.mem_of_getElem? (i := 8) rfl) (fun _ => rfl) (by decide) (by decide) (by decide) (by omega) (by omega) (fun q1645 H h => ?_)
  have h : Hp D A H0 H _ ((q1645, .inl (k 2, 3300, .inl (fun _ => 0))) :: (a, .inr (13, ((((((fs.set 140 (.ref q1591)).set 141 (.ref q1600)).set 142 (.ref q1609)).set 143 (.ref q1618)).set 144 (.ref q1627)).set 145 (.ref q1636)))) :: ((q1636, .inl (k 2, 3300, .inl (fun _ => 0))) :: ((q1627, .inl (k 2, 3300, .inl (fun _ => 0))) :: ((q1618, .inl (k 3, 3300, .inr (.inl (fun _ => 0)))) :: ((q1609, .inl (k 3, 3300, .inr (.inl (fun _ => 0)))) :: ((q1600, .inl (k 2, 3300, .inl (fun _ => 0))) :: ((q1591, .inl (k 2, 3300, .inl (fun _ => 0))) :: w))))))) := Hp.front h
  refine x_putFT tX12_146 yX12_146 C hmn h 1 dX12_init_1647 rfl rfl iX12m (Nat.le_of_ble_eq_true rfl) (List.mem_of_getElem? (i := 109) rfl) tyX12_ok nmX12 (by (try simp only [List.length_set]); rw [hn]; decide) rfl rfl rfl (fun H locs h => ?_)
  have h : Hp D A H0 H _ ((a, .inr (13, (((((((fs.set 140 (.ref q1591)).set 141 (.ref q1600)).set 142 (.ref q1609)).set 143 (.ref q1618)).set 144 (.ref q1627)).set 145 (.ref q1636)).set 146 (.ref q1645)))) :: ((q1645, .inl (k 2, 3300, .inl (fun _ => 0))) :: ((q1636, .inl (k 2, 3300, .inl (fun _ => 0))) :: ((q1627, .inl (k 2, 3300, .inl (fun _ => 0))) :: ((q1618, .inl (k 3, 3300, .inr (.inl (fun _ => 0)))) :: ((q1609, .inl (k 3, 3300, .inr (.inl (fun _ => 0)))) :: ((q1600, .inl (k 2, 3300, .inl (fun _ => 0))) :: ((q1591, .inl (k 2, 3300, .inl (fun _ => 0))) :: w)))))))) := Hp.swap h
  refine lv_aload_n C.1 C.2.1 dX12_init_1650 rfl (lv_at hl 0 rfl) ?_
  refine lv_sipush (v := 3300) C.1 C.2.1 dX12_init_1651 (by decide) ?_
  refine x_newa (a0 := (3300, .inl (fun _ => 0))) C h 2 dX12_init_1654 rfl rfl (List.mem_of_getElem? (i := 8) rfl) (fun _ => rfl) (by decide) (by decide) (by decide) (by omega) (by omega) (fun q1654 H h => ?_)
  have h : Hp D A H0 H _ ((q1654, .inl (k 2, 3300, .inl (fun _ => 0))) :: (a, .inr (13, (((((((fs.set 140 (.ref q1591)).set 141 (.ref q1600)).set 142 (.ref q1609)).set 143 (.ref q1618)).set 144 (.ref q1627)).set 145 (.ref q1636)).set 146 (.ref q1645)))) :: ((q1645, .inl (k 2, 3300, .inl (fun _ => 0))) :: ((q1636, .inl (k 2, 3300, .inl (fun _ => 0))) :: ((q1627, .inl (k 2, 3300, .inl (fun _ => 0))) :: ((q1618, .inl (k 3, 3300, .inr (.inl (fun _ => 0)))) :: ((q1609, .inl (k 3, 3300, .inr (.inl (fun _ => 0)))) :: ((q1600, .inl (k 2, 3300, .inl (fun _ => 0))) :: ((q1591, .inl (k 2, 3300, .inl (fun _ => 0))) :: w)))))))) := Hp.front h
  refine x_putFT tX12_147 yX12_147 C hmn h 1 dX12_init_1656 rfl rfl iX12m (Nat.le_of_ble_eq_true rfl) (List.mem_of_getElem? (i := 110) rfl) tyX12_ok nmX12 (by (try simp only [List.length_set]); rw [hn]; decide) rfl rfl rfl (fun H locs h => ?_)
  have h : Hp D A H0 H _ ((a, .inr (13, ((((((((fs.set 140 (.ref q1591)).set 141 (.ref q1600)).set 142 (.ref q1609)).set 143 (.ref q1618)).set 144 (.ref q1627)).set 145 (.ref q1636)).set 146 (.ref q1645)).set 147 (.ref q1654)))) :: ((q1654, .inl (k 2, 3300, .inl (fun _ => 0))) :: ((q1645, .inl (k 2, 3300, .inl (fun _ => 0))) :: ((q1636, .inl (k 2, 3300, .inl (fun _ => 0))) :: ((q1627, .inl (k 2, 3300, .inl (fun _ => 0))) :: ((q1618, .inl (k 3, 3300, .inr (.inl (fun _ => 0)))) :: ((q1609, .inl (k 3, 3300, .inr (.inl (fun _ => 0)))) :: ((q1600, .inl (k 2, 3300, .inl (fun _ => 0))) :: ((q1591, .inl (k 2, 3300, .inl (fun _ => 0))) :: w))))))))) := Hp.swap h
  exact kk q1591 q1600 q1609 q1618 q1627 q1636 q1645 q1654 H _ h
set_option maxHeartbeats 4000000 in
set_option maxRecDepth 100000 in
theorem sg24 {p : Program} {l : Launch} {e : Env} {R : Room} {s : State} {m : MethodId} {args : Array Value} {below : List Frame} {meth : Method} {c : Code} {H : Heap} {locs : List Loc} {cells slots : Nat} {Q : State → Prop} {ls : Array Slot} {D : va_G} {A : Nat → Prop} {k : Nat → ClassId} {H0 : Heap} {a : Nat} {fs : List Value} {w : va_W} (C : Cx p s m args c cX12_init RX12 wsX12_init D (TYs k) 2) (hmn : meth.name = "<init>") (hl : lv_has ls 2 [(0, .ref a)]) (hn : fs.length = 153) (hcl : cells + 1 ≤ R.cells) (hsl : slots + 3300 ≤ R.slots) (h : Hp D A H0 H locs ((a, .inr (13, fs)) :: w)) (kk : ∀ (q1663 : Nat) (H : Heap) (locs : List Loc), Hp D A H0 H locs ((a, .inr (13, (fs.set 148 (.ref q1663)))) :: ((q1663, .inl (k 2, 3300, .inl (fun _ => 0))) :: w)) → W p l e R s m args below meth c H locs (cells + 1) (slots + 3300) Q (F0 m 1668 ls [])) : W p l e R s m args below meth c H locs cells slots Q (F0 m 1659 ls []) := by
  refine lv_aload_n C.1 C.2.1 dX12_init_1659 rfl (lv_at hl 0 rfl) ?_
  refine lv_sipush (v := 3300) C.1 C.2.1 dX12_init_1660 (by decide) ?_
  refine x_newa (a0 := (3300, .inl (fun _ => 0))) C h 2 dX12_init_1663 rfl rfl (List.mem_of_getElem? (i := 8) rfl) (fun _ => rfl) (by decide) (by decide) (by decide) (by omega) (by omega) (fun q1663 H h => ?_)
  have h : Hp D A H0 H _ ((q1663, .inl (k 2, 3300, .inl (fun _ => 0))) :: (a, .inr (13, fs)) :: w) := Hp.front h
  refine x_putFT tX12_148 yX12_148 C hmn h 1 dX12_init_1665 rfl rfl iX12m (Nat.le_of_ble_eq_true rfl) (List.mem_of_getElem? (i := 111) rfl) tyX12_ok nmX12 (by (try simp only [List.length_set]); rw [hn]; decide) rfl rfl rfl (fun H locs h => ?_)
  have h : Hp D A H0 H _ ((a, .inr (13, (fs.set 148 (.ref q1663)))) :: ((q1663, .inl (k 2, 3300, .inl (fun _ => 0))) :: w)) := Hp.swap h
  exact kk q1663 H _ h
