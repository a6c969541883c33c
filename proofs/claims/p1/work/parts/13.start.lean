theorem sl_mem {α : Type} {l : List α} {a n : Nat} {f : Nat → α} (h : (l.drop a).take n = (List.range n).map f) {j : Nat} (hj : j < n) : f j ∈ l := by
  have h1 : f j ∈ (List.range n).map f := List.mem_map.mpr ⟨j, List.mem_range.mpr hj, rfl⟩
  rw [← h] at h1
  exact List.mem_of_mem_drop (List.mem_of_mem_take h1)
theorem fl0 : ((flatC (Jvm.Cond.and given_1 narrow_1)).drop 18).take 113 = (List.range 113).map (fun j => Cond.eq (.elem (.field (.string "CycleStudio$Reader" 48) "java/lang/String" "value" "[B") (.int (Int32.ofNat j))) (.int (bFN.getD j 0))) := by decide +kernel
theorem fl1 : ((flatC (Jvm.Cond.and given_1 narrow_1)).drop 135).take 84 = (List.range 84).map (fun j => Cond.eq (.elem (.field (.string "CycleStudio$Reader" 219) "java/lang/String" "value" "[B") (.int (Int32.ofNat j))) (.int (bWA.getD j 0))) := by decide +kernel
/-- what En asks for, out of the Statement's start -/
theorem en_start {s : State} {b : Nat} (hts : ∀ w ∈ lw_tbl, w.before #[Value.ref b] s = true) (hgv : (Jvm.Cond.and given_1 narrow_1).before #[Value.ref b] s = true) : ∃ (z : Nat) (aK aV : Nat → Nat), En z aK aV (fun q => s.heap.size ≤ q) s s.heap := by
  have hs := flat_of_before _ hgv
  have hA : ∀ a : Nat, a < s.heap.size → ¬ (fun q => s.heap.size ≤ q) a := fun a h => Nat.not_le.mpr h
  obtain ⟨z, c1, cA1, kA1, hz, -⟩ := Cond.exactly_spec (args := #[Value.ref b]) (first := s) (o := none) (s := s) (idx := []) (t := .static "java/util/ArrayList" "DEFAULTCAPACITY_EMPTY_ELEMENTDATA" "[Ljava/lang/Object;") (cls := "[Ljava/lang/Object;") (hs _ (by decide +kernel))
  have z1 := va_Zref (A := fun q => s.heap.size ≤ q) (hts (.laysStatic "java/util/ArrayList" "DEFAULTCAPACITY_EMPTY_ELEMENTDATA" "[Ljava/lang/Object;") (by decide +kernel)) (hts (.initialized "java/util/ArrayList") (by decide +kernel)) hz hA
  have hc : (Cond.eq (.static "java/lang/String" "COMPACT_STRINGS" "Z") (.int 1)).before #[Value.ref b] s = true := hs _ (by decide +kernel)
  have z2 := va_Zof (A := fun q => s.heap.size ≤ q) (hts (.laysStatic "java/lang/String" "COMPACT_STRINGS" "Z") (by decide +kernel)) (hts (.initialized "java/lang/String") (by decide +kernel)) (va_eqt hc) hA
  have zq := va_Zqof (A := fun q => s.heap.size ≤ q) (hts (.laysStatic "jdk/internal/util/Preconditions" "SIOOBE_FORMATTER" "Ljava/util/function/BiFunction;") (by decide +kernel)) (hts (.initialized "jdk/internal/util/Preconditions") (by decide +kernel)) (hs _ (by decide +kernel)) hA
  obtain ⟨aK, aV, hS, hev⟩ := vk_Sof (args := #[Value.ref b]) (s := s) (N := 2) (tm := fun i => .string "CycleStudio$Reader" (if i = 0 then 48 else 219)) (len := [113, 84]) (byt := [bFN, bWA]) (A := fun q => s.heap.size ≤ q)
    (by decide)
    (fun i hi => hs _ ((show ∀ i, i < 2 → (Cond.exactly (.string "CycleStudio$Reader" (if i = 0 then 48 else 219)) "java/lang/String") ∈ _ by decide +kernel) i hi))
    (fun i hi => hs _ ((show ∀ i, i < 2 → (Cond.eq (.field (.string "CycleStudio$Reader" (if i = 0 then 48 else 219)) "java/lang/String" "coder" "B") (.int 0)) ∈ _ by decide +kernel) i hi))
    (fun i hi => hs _ ((show ∀ i, i < 2 → (Cond.arrayOf (.field (.string "CycleStudio$Reader" (if i = 0 then 48 else 219)) "java/lang/String" "value" "[B") .byte) ∈ _ by decide +kernel) i hi))
    (fun i hi => hs _ ((show ∀ i, i < 2 → (Cond.eq (.length (.field (.string "CycleStudio$Reader" (if i = 0 then 48 else 219)) "java/lang/String" "value" "[B")) (.int (Int32.ofNat (([113, 84] : List Nat).getD i 0)))) ∈ _ by decide +kernel) i hi))
    (fun i hi j hj => by
      rcases (show i = 0 ∨ i = 1 by omega) with rfl | rfl
      · exact hs _ (sl_mem fl0 hj)
      · exact hs _ (sl_mem fl1 hj))
    (fun i j hi hj hij => by
      rcases (show (i = 0 ∧ j = 1) ∨ (i = 1 ∧ j = 0) by omega) with ⟨rfl, rfl⟩ | ⟨rfl, rfl⟩
      · first | exact Or.inl (hs _ (by decide +kernel)) | exact Or.inr (hs _ (by decide +kernel))
      · first | exact Or.inl (hs _ (by decide +kernel)) | exact Or.inr (hs _ (by decide +kernel)))
    hA
  refine ⟨z, aK, aV, va_Nw.of rfl (hts _ (by decide +kernel)), va_Nw.of rfl (hts _ (by decide +kernel)), va_Nw.of rfl (hts _ (by decide +kernel)), va_Nw.of rfl (hts _ (by decide +kernel)), va_Nw.of rfl (hts _ (by decide +kernel)), va_AO.of (hts _ (by decide +kernel)), va_AO.of (hts _ (by decide +kernel)), z1, z2, vk_R.of (hts _ (by decide +kernel)) (hev 0 (by decide)), vk_R.of (hts _ (by decide +kernel)) (hev 1 (by decide)), hS, zq⟩
