set_option maxHeartbeats 8000000 in
set_option maxRecDepth 100000 in
theorem km_Tx_signedNumber_91 {N : Nat}    {r : Sh × St × Int}  {π : Sh} {σ : St} {s0 : Int} (hC : Cl π σ)  (hm : Tx_signedNumber_91 N π σ s0 = some r) : ext π r.1 ∧ Cl r.1 r.2.1 := by
  have hS := hC.1
  rw [Tx_signedNumber_91] at hm
  cases hm
  exact ⟨ext.rf _, hC⟩
set_option maxHeartbeats 8000000 in
set_option maxRecDepth 100000 in
theorem km_Tx_signedNumber_88 {N : Nat}    {r : Sh × St × Int}  {π : Sh} {σ : St} {s0 : Int} {s1 : Int} (hC : Cl π σ) (hv_s0 : s0 < nn π) (hv_s1 : s1 < nn π) (hm : Tx_signedNumber_88 N π σ s0 s1 = some r) : ext π r.1 ∧ Cl r.1 r.2.1 := by
  have hS := hC.1
  rw [Tx_signedNumber_88] at hm
  obtain ⟨r29, e30, hm⟩ := obd_s hm
  have q31 := (km_Df_add hC hv_s1 hv_s0 e30)
  obtain ⟨g32, hm⟩ := grd_s hm
  have q := km_Tx_signedNumber_91   q31.2  hm
  exact ⟨q31.1.tr q.1, q.2⟩
set_option maxHeartbeats 8000000 in
set_option maxRecDepth 100000 in
theorem km_Tx_signedNumber_84 {N : Nat}    {r : Sh × St × Int}  {π : Sh} {σ : St} {s0 : Int} {s1 : Int} {s2 : Int} {s3 : Int} {s4 : Int} {s5 : Int} (hC : Cl π σ) (hv_s3 : s3 < nn π) (hv_s4 : s4 < nn π) (hv_s5 : s5 < nn π) (hm : Tx_signedNumber_84 N π σ s0 s1 s2 s3 s4 s5 = some r) : ext π r.1 ∧ Cl r.1 r.2.1 := by
  have hS := hC.1
  rw [Tx_signedNumber_84] at hm
  obtain ⟨r25, e26, hm⟩ := obd_s hm
  have q27 := (km_Sp_initB hC hv_s3 e26)
  obtain ⟨g28, hm⟩ := grd_s hm
  have q := km_Tx_signedNumber_88   q27.2 (lt_ext hv_s4 q27.1) (lt_ext hv_s5 q27.1) hm
  exact ⟨q27.1.tr q.1, q.2⟩
set_option maxHeartbeats 8000000 in
set_option maxRecDepth 100000 in
theorem km_Tx_signedNumber_71 {N : Nat}    {r : Sh × St × Int}  {π : Sh} {σ : St} {x1 : Int} {x2 : Int} {x3 : Int} {s0 : Int} {s1 : Int} (hC : Cl π σ) (hv_s0 : s0 < nn π) (hv_s1 : s1 < nn π) (hm : Tx_signedNumber_71 N π σ x1 x2 x3 s0 s1 = some r) : ext π r.1 ∧ Cl r.1 r.2.1 := by
  have hS := hC.1
  rw [Tx_signedNumber_71] at hm
  obtain ⟨g23, hm⟩ := grd_s hm
  by_cases c24 : x2 = 0
  · have hm := ite_t c24 hm
    exact km_Tx_signedNumber_84 hC hv_s0 hv_s0 hv_s1 hm
  · have hm := ite_f c24 hm
    exact km_Tx_signedNumber_84 hC hv_s0 hv_s0 hv_s1 hm
set_option maxHeartbeats 8000000 in
set_option maxRecDepth 100000 in
theorem km_Tx_signedNumber_34 {N : Nat}    {r : Sh × St × Int}  {π : Sh} {σ : St} {x1 : Int} {x2 : Int} {s0 : Int} {s1 : Int} (hC : Cl π σ)  (hm : Tx_signedNumber_34 N π σ x1 x2 s0 s1 = some r) : ext π r.1 ∧ Cl r.1 r.2.1 := by
  have hS := hC.1
  rw [Tx_signedNumber_34] at hm
  obtain ⟨σ9, e10, hm⟩ := bnd_s hm
  have hC11 : Cl π σ9 := e10 ▸ (cl_sfI hC (f := 222) rfl _ _)
  obtain ⟨r12, e13, hm⟩ := obd_s hm
  have q14 := (km_Tx_digits hC11 e13)
  have hC15 : Cl π r12.1 := q14
  obtain ⟨g16, hm⟩ := grd_s hm
  by_cases c17 : r12.2 = (-1)
  · have hm := ite_t c17 hm
    obtain ⟨r19, e20, hm⟩ := obd_s hm
    have q21 := (km_Sc_fail hC15 e20)
    have hC22 : Cl π r19 := q21
    cases hm
    exact ⟨ext.rf _, hC22⟩
  · have hm := ite_f c17 hm
    have q := km_Tx_signedNumber_71   ((cl_nO hC15 (by decide) (by decide) _)) lt_nO (lt_ext (cl_fl hC15 (f := 221) rfl 50) (ext_nO π 10 14)) hm
    exact ⟨(ext_nO π 10 14).tr q.1, q.2⟩
set_option maxHeartbeats 8000000 in
set_option maxRecDepth 100000 in
theorem km_Tx_signedNumber_19 {N : Nat}    {r : Sh × St × Int}  {π : Sh} {σ : St} {x1 : Int} {s0 : Int} (hC : Cl π σ)  (hm : Tx_signedNumber_19 N π σ x1 s0 = some r) : ext π r.1 ∧ Cl r.1 r.2.1 := by
  have hS := hC.1
  rw [Tx_signedNumber_19] at hm
  obtain ⟨g7, hm⟩ := grd_s hm
  by_cases c8 : s0 = 0
  · have hm := ite_t c8 hm
    exact km_Tx_signedNumber_34 hC hm
  · have hm := ite_f c8 hm
    exact km_Tx_signedNumber_34 hC hm
set_option maxHeartbeats 8000000 in
set_option maxRecDepth 100000 in
theorem km_Tx_signedNumber {N : Nat}   {π : Sh} {σ : St}  {r : Sh × St × Int} (hC : Cl π σ)  (hm : Tx_signedNumber N π σ  = some r) : ext π r.1 ∧ Cl r.1 r.2.1 := by
  have hS := hC.1
  rw [Tx_signedNumber] at hm
  obtain ⟨r1, e2, hm⟩ := obd_s hm
  have q3 := (km_Tx_here hC e2)
  have hC4 : Cl π r1.1 := q3
  obtain ⟨g5, hm⟩ := grd_s hm
  by_cases c6 : r1.2 = 45
  · have hm := ite_t c6 hm
    exact km_Tx_signedNumber_19 hC4 hm
  · have hm := ite_f c6 hm
    exact km_Tx_signedNumber_19 hC4 hm
set_option maxHeartbeats 8000000 in
set_option maxRecDepth 100000 in
theorem km_Tx_turn_65 {N : Nat} {rPart : Sh → St → Option (Sh × St × Int)} (hmrPart : ∀ {π : Sh} {σ : St}  {r : Sh × St × Int}, Cl π σ → rPart π σ  = some r → ext π r.1 ∧ Cl r.1 r.2.1)  {r : Sh × St × Int}  {π : Sh} {σ : St} {s0 : Int} (hC : Cl π σ)  (hm : Tx_turn_65 N rPart π σ s0 = some r) : ext π r.1 ∧ Cl r.1 r.2.1 := by
  have hS := hC.1
  rw [Tx_turn_65] at hm
  cases hm
  exact ⟨ext.rf _, hC⟩
set_option maxHeartbeats 8000000 in
set_option maxRecDepth 100000 in
theorem km_Tx_turn_28 {N : Nat} {rPart : Sh → St → Option (Sh × St × Int)} (hmrPart : ∀ {π : Sh} {σ : St}  {r : Sh × St × Int}, Cl π σ → rPart π σ  = some r → ext π r.1 ∧ Cl r.1 r.2.1)  {r : Sh × St × Int}  {π : Sh} {σ : St} {x1 : Int} (hC : Cl π σ) (hv_x1 : x1 < nn π) (hm : Tx_turn_28 N rPart π σ x1 = some r) : ext π r.1 ∧ Cl r.1 r.2.1 := by
  have hS := hC.1
  rw [Tx_turn_28] at hm
  obtain ⟨r12, e13, hm⟩ := obd_s hm
  have q14 := (km_Tx_take hC e13)
  have hC15 : Cl π r12 := q14
  obtain ⟨g16, hm⟩ := grd_s hm
  by_cases c17 : (fl r12 182 1) = 0
  · have hm := ite_t c17 hm
    obtain ⟨σ18, e19, hm⟩ := bnd_s hm
    have hC20 : Cl π σ18 := e19 ▸ (cl_sfI hC15 (f := 184) rfl _ _)
    obtain ⟨r21, e22, hm⟩ := obd_s hm
    have q23 := (km_Df_add hC20 (cl_fl hC15 (f := 221) rfl 50) hv_x1 e22)
    obtain ⟨g24, hm⟩ := grd_s hm
    have q := km_Tx_turn_65 hmrPart  q23.2  hm
    exact ⟨q23.1.tr q.1, q.2⟩
  · have hm := ite_f c17 hm
    cases hm
    exact ⟨ext.rf _, (cl_sfI hC15 (f := 184) rfl _ _)⟩
set_option maxHeartbeats 8000000 in
set_option maxRecDepth 100000 in
theorem km_Tx_turn_12 {N : Nat} {rPart : Sh → St → Option (Sh × St × Int)} (hmrPart : ∀ {π : Sh} {σ : St}  {r : Sh × St × Int}, Cl π σ → rPart π σ  = some r → ext π r.1 ∧ Cl r.1 r.2.1)  {r : Sh × St × Int}  {π : Sh} {σ : St} {s0 : Int} (hC : Cl π σ) (hv_s0 : s0 < nn π) (hm : Tx_turn_12 N rPart π σ s0 = some r) : ext π r.1 ∧ Cl r.1 r.2.1 := by
  have hS := hC.1
  rw [Tx_turn_12] at hm
  obtain ⟨σ6, e7, hm⟩ := bnd_s hm
  have hC8 : Cl π σ6 := e7 ▸ (cl_sfI hC (f := 222) rfl _ _)
  obtain ⟨r9, e10, hm⟩ := obd_s hm
  have q11 := (km_Tx_steps hmrPart hC8 hv_s0 e10)
  have q := km_Tx_turn_28 hmrPart  q11.2 (lt_ext hv_s0 q11.1) hm
  exact ⟨q11.1.tr q.1, q.2⟩
set_option maxHeartbeats 8000000 in
set_option maxRecDepth 100000 in
theorem km_Tx_turn_3 {N : Nat} {rPart : Sh → St → Option (Sh × St × Int)} (hmrPart : ∀ {π : Sh} {σ : St}  {r : Sh × St × Int}, Cl π σ → rPart π σ  = some r → ext π r.1 ∧ Cl r.1 r.2.1)  {r : Sh × St × Int}  {π : Sh} {σ : St} {s0 : Int} (hC : Cl π σ) (hv_s0 : s0 < nn π) (hm : Tx_turn_3 N rPart π σ s0 = some r) : ext π r.1 ∧ Cl r.1 r.2.1 := by
  have hS := hC.1
  rw [Tx_turn_3] at hm
  obtain ⟨r2, e3, hm⟩ := obd_s hm
  have q4 := (km_Sp_init hC hv_s0 e3)
  obtain ⟨g5, hm⟩ := grd_s hm
  have q := km_Tx_turn_12 hmrPart  q4.2 (lt_ext hv_s0 q4.1) hm
  exact ⟨q4.1.tr q.1, q.2⟩
set_option maxHeartbeats 8000000 in
set_option maxRecDepth 100000 in
theorem km_Tx_turn {N : Nat} {rPart : Sh → St → Option (Sh × St × Int)} (hmrPart : ∀ {π : Sh} {σ : St}  {r : Sh × St × Int}, Cl π σ → rPart π σ  = some r → ext π r.1 ∧ Cl r.1 r.2.1) {π : Sh} {σ : St}  {r : Sh × St × Int} (hC : Cl π σ)  (hm : Tx_turn N rPart π σ  = some r) : ext π r.1 ∧ Cl r.1 r.2.1 := by
  have hS := hC.1
  rw [Tx_turn] at hm
  have q := km_Tx_turn_3 hmrPart  ((cl_nO hC (by decide) (by decide) _)) lt_nO hm
  exact ⟨(ext_nO π 10 14).tr q.1, q.2⟩
set_option maxHeartbeats 8000000 in
set_option maxRecDepth 100000 in
theorem km_Tx_word_94 {N : Nat}    {r : Sh × St × Int}  {π : Sh} {σ : St} {s0 : Int} (hC : Cl π σ)  (hm : Tx_word_94 N π σ s0 = some r) : ext π r.1 ∧ Cl r.1 r.2.1 := by
  have hS := hC.1
  rw [Tx_word_94] at hm
  cases hm
  exact ⟨ext.rf _, hC⟩
set_option maxHeartbeats 8000000 in
set_option maxRecDepth 100000 in
theorem km_Tx_word_86 {N : Nat}    {r : Sh × St × Int}  {π : Sh} {σ : St} {x1 : Int} (hC : Cl π σ) (hv_x1 : x1 < nn π) (hm : Tx_word_86 N π σ x1 = some r) : ext π r.1 ∧ Cl r.1 r.2.1 := by
  have hS := hC.1
  rw [Tx_word_86] at hm
  obtain ⟨r27, e28, hm⟩ := obd_s hm
  have q29 := (km_Df_add hC (cl_fl hC (f := 221) rfl 50) hv_x1 e28)
  obtain ⟨g30, hm⟩ := grd_s hm
  have q := km_Tx_word_94   q29.2  hm
  exact ⟨q29.1.tr q.1, q.2⟩
set_option maxHeartbeats 8000000 in
set_option maxRecDepth 100000 in
theorem km_Tx_word_15 {N : Nat}    {r : Sh × St × Int}  (n : Nat) : ∀ {π : Sh} {σ : St} {x1 : Int} {x2 : Int}, Cl π σ → x1 < nn π → Tx_word_15 N n π σ x1 x2 = some r → ext π r.1 ∧ Cl r.1 r.2.1 := by
  induction n with
  | zero => intro π σ x1 x2 hC hv_x1 hm; cases (show none = some r from hm)
  | succ n krec15 =>
    intro π σ x1 x2 hC hv_x1 hm
    have hS := hC.1
    rw [Tx_word_15] at hm
    obtain ⟨g6, hm⟩ := grd_s hm
    by_cases c7 : (8 : Int) < x2
    · have hm := ite_t c7 hm
      exact km_Tx_word_86 hC hv_x1 hm
    · have hm := ite_f c7 hm
      obtain ⟨r8, e9, hm⟩ := obd_s hm
      have q10 := (km_Tx_here hC e9)
      have hC11 : Cl π r8.1 := q10
      obtain ⟨r12, e13, hm⟩ := obd_s hm
      obtain ⟨g14, hm⟩ := grd_s hm
      by_cases c15 : r12 = 0
      · have hm := ite_t c15 hm
        exact km_Tx_word_86 hC11 hv_x1 hm
      · have hm := ite_f c15 hm
        by_cases c16 : x2 = 8
        · have hm := ite_t c16 hm
          obtain ⟨r23, e24, hm⟩ := obd_s hm
          have q25 := (km_Sc_fail hC11 e24)
          have hC26 : Cl π r23 := q25
          cases hm
          exact ⟨ext.rf _, hC26⟩
        · have hm := ite_f c16 hm
          obtain ⟨g17, hm⟩ := grd_s hm
          obtain ⟨r18, e19, hm⟩ := obd_s hm
          have q20 := (km_Tx_here hC11 e19)
          have hC21 : Cl π r18.1 := q20
          obtain ⟨g22, hm⟩ := grd_s hm
          exact krec15 (cl_sfI (cl_sfI hC21 (f := 207) rfl _ _) (f := 222) rfl _ _) hv_x1 hm
set_option maxHeartbeats 8000000 in
set_option maxRecDepth 100000 in
theorem km_Tx_word_12 {N : Nat}    {r : Sh × St × Int}  {π : Sh} {σ : St} {s0 : Int} (hC : Cl π σ) (hv_s0 : s0 < nn π) (hm : Tx_word_12 N π σ s0 = some r) : ext π r.1 ∧ Cl r.1 r.2.1 := by
  have hS := hC.1
  rw [Tx_word_12] at hm
  exact km_Tx_word_15 N hC hv_s0 hm
set_option maxHeartbeats 8000000 in
set_option maxRecDepth 100000 in
theorem km_Tx_word_3 {N : Nat}    {r : Sh × St × Int}  {π : Sh} {σ : St} {s0 : Int} (hC : Cl π σ) (hv_s0 : s0 < nn π) (hm : Tx_word_3 N π σ s0 = some r) : ext π r.1 ∧ Cl r.1 r.2.1 := by
  have hS := hC.1
  rw [Tx_word_3] at hm
  obtain ⟨r2, e3, hm⟩ := obd_s hm
  have q4 := (km_Sp_init hC hv_s0 e3)
  obtain ⟨g5, hm⟩ := grd_s hm
  have q := km_Tx_word_12   q4.2 (lt_ext hv_s0 q4.1) hm
  exact ⟨q4.1.tr q.1, q.2⟩
set_option maxHeartbeats 8000000 in
set_option maxRecDepth 100000 in
theorem km_Tx_word {N : Nat}   {π : Sh} {σ : St}  {r : Sh × St × Int} (hC : Cl π σ)  (hm : Tx_word N π σ  = some r) : ext π r.1 ∧ Cl r.1 r.2.1 := by
  have hS := hC.1
  rw [Tx_word] at hm
  have q := km_Tx_word_3   ((cl_nO hC (by decide) (by decide) _)) lt_nO hm
  exact ⟨(ext_nO π 10 14).tr q.1, q.2⟩
set_option maxHeartbeats 8000000 in
set_option maxRecDepth 100000 in
theorem km_Tx_part_16 {N : Nat} {rPart : Sh → St → Option (Sh × St × Int)} (hmrPart : ∀ {π : Sh} {σ : St}  {r : Sh × St × Int}, Cl π σ → rPart π σ  = some r → ext π r.1 ∧ Cl r.1 r.2.1)  {r : Sh × St × Int}  {π : Sh} {σ : St} {s0 : Int} (hC : Cl π σ)  (hm : Tx_part_16 N rPart π σ s0 = some r) : ext π r.1 ∧ Cl r.1 r.2.1 := by
  have hS := hC.1
  rw [Tx_part_16] at hm
  cases hm
  exact ⟨ext.rf _, hC⟩
set_option maxHeartbeats 8000000 in
set_option maxRecDepth 100000 in
theorem km_Tx_part_34 {N : Nat} {rPart : Sh → St → Option (Sh × St × Int)} (hmrPart : ∀ {π : Sh} {σ : St}  {r : Sh × St × Int}, Cl π σ → rPart π σ  = some r → ext π r.1 ∧ Cl r.1 r.2.1)  {r : Sh × St × Int}  {π : Sh} {σ : St} {s0 : Int} (hC : Cl π σ)  (hm : Tx_part_34 N rPart π σ s0 = some r) : ext π r.1 ∧ Cl r.1 r.2.1 := by
  have hS := hC.1
  rw [Tx_part_34] at hm
  cases hm
  exact ⟨ext.rf _, hC⟩
set_option maxHeartbeats 8000000 in
set_option maxRecDepth 100000 in
theorem km_Tx_part_30 {N : Nat} {rPart : Sh → St → Option (Sh × St × Int)} (hmrPart : ∀ {π : Sh} {σ : St}  {r : Sh × St × Int}, Cl π σ → rPart π σ  = some r → ext π r.1 ∧ Cl r.1 r.2.1)  {r : Sh × St × Int}  {π : Sh} {σ : St}  (hC : Cl π σ)  (hm : Tx_part_30 N rPart π σ  = some r) : ext π r.1 ∧ Cl r.1 r.2.1 := by
  have hS := hC.1
  rw [Tx_part_30] at hm
  obtain ⟨r30, e31, hm⟩ := obd_s hm
  have q32 := (km_Tx_signedNumber hC e31)
  have q := km_Tx_part_34 hmrPart  q32.2  hm
  exact ⟨q32.1.tr q.1, q.2⟩
set_option maxHeartbeats 8000000 in
set_option maxRecDepth 100000 in
theorem km_Tx_part_72 {N : Nat} {rPart : Sh → St → Option (Sh × St × Int)} (hmrPart : ∀ {π : Sh} {σ : St}  {r : Sh × St × Int}, Cl π σ → rPart π σ  = some r → ext π r.1 ∧ Cl r.1 r.2.1)  {r : Sh × St × Int}  {π : Sh} {σ : St} {s0 : Int} (hC : Cl π σ)  (hm : Tx_part_72 N rPart π σ s0 = some r) : ext π r.1 ∧ Cl r.1 r.2.1 := by
  have hS := hC.1
  rw [Tx_part_72] at hm
  cases hm
  exact ⟨ext.rf _, hC⟩
set_option maxHeartbeats 8000000 in
set_option maxRecDepth 100000 in
theorem km_Tx_part_69 {N : Nat} {rPart : Sh → St → Option (Sh × St × Int)} (hmrPart : ∀ {π : Sh} {σ : St}  {r : Sh × St × Int}, Cl π σ → rPart π σ  = some r → ext π r.1 ∧ Cl r.1 r.2.1)  {r : Sh × St × Int}  {π : Sh} {σ : St} {s0 : Int} {s1 : Int} (hC : Cl π σ) (hv_s0 : s0 < nn π) (hv_s1 : s1 < nn π) (hm : Tx_part_69 N rPart π σ s0 s1 = some r) : ext π r.1 ∧ Cl r.1 r.2.1 := by
  have hS := hC.1
  rw [Tx_part_69] at hm
  obtain ⟨r55, e56, hm⟩ := obd_s hm
  have q57 := (km_Df_add hC hv_s1 hv_s0 e56)
  obtain ⟨g58, hm⟩ := grd_s hm
  have q := km_Tx_part_72 hmrPart  q57.2  hm
  exact ⟨q57.1.tr q.1, q.2⟩
set_option maxHeartbeats 8000000 in
set_option maxRecDepth 100000 in
theorem km_Tx_part_58 {N : Nat} {rPart : Sh → St → Option (Sh × St × Int)} (hmrPart : ∀ {π : Sh} {σ : St}  {r : Sh × St × Int}, Cl π σ → rPart π σ  = some r → ext π r.1 ∧ Cl r.1 r.2.1)  {r : Sh × St × Int}  {π : Sh} {σ : St} {s0 : Int} {s1 : Int} (hC : Cl π σ) (hv_s0 : s0 < nn π) (hv_s1 : s1 < nn π) (hm : Tx_part_58 N rPart π σ s0 s1 = some r) : ext π r.1 ∧ Cl r.1 r.2.1 := by
  have hS := hC.1
  rw [Tx_part_58] at hm
  obtain ⟨r51, e52, hm⟩ := obd_s hm
  have q53 := (km_Sp_init hC hv_s0 e52)
  obtain ⟨g54, hm⟩ := grd_s hm
  have q := km_Tx_part_69 hmrPart  q53.2 (lt_ext hv_s0 q53.1) (lt_ext hv_s1 q53.1) hm
  exact ⟨q53.1.tr q.1, q.2⟩
set_option maxHeartbeats 8000000 in
set_option maxRecDepth 100000 in
theorem km_Tx_part_151 {N : Nat} {rPart : Sh → St → Option (Sh × St × Int)} (hmrPart : ∀ {π : Sh} {σ : St}  {r : Sh × St × Int}, Cl π σ → rPart π σ  = some r → ext π r.1 ∧ Cl r.1 r.2.1)  {r : Sh × St × Int}  {π : Sh} {σ : St} {s0 : Int} (hC : Cl π σ)  (hm : Tx_part_151 N rPart π σ s0 = some r) : ext π r.1 ∧ Cl r.1 r.2.1 := by
  have hS := hC.1
  rw [Tx_part_151] at hm
  cases hm
  exact ⟨ext.rf _, hC⟩
set_option maxHeartbeats 8000000 in
set_option maxRecDepth 100000 in
theorem km_Tx_part_131 {N : Nat} {rPart : Sh → St → Option (Sh × St × Int)} (hmrPart : ∀ {π : Sh} {σ : St}  {r : Sh × St × Int}, Cl π σ → rPart π σ  = some r → ext π r.1 ∧ Cl r.1 r.2.1)  {r : Sh × St × Int}  {π : Sh} {σ : St} {s0 : Int} (hC : Cl π σ)  (hm : Tx_part_131 N rPart π σ s0 = some r) : ext π r.1 ∧ Cl r.1 r.2.1 := by
  have hS := hC.1
  rw [Tx_part_131] at hm
  exact km_Tx_part_151 hmrPart hC hm
set_option maxHeartbeats 8000000 in
set_option maxRecDepth 100000 in
theorem km_Tx_part_144 {N : Nat} {rPart : Sh → St → Option (Sh × St × Int)} (hmrPart : ∀ {π : Sh} {σ : St}  {r : Sh × St × Int}, Cl π σ → rPart π σ  = some r → ext π r.1 ∧ Cl r.1 r.2.1)  {r : Sh × St × Int}  {π : Sh} {σ : St} {s0 : Int} (hC : Cl π σ)  (hm : Tx_part_144 N rPart π σ s0 = some r) : ext π r.1 ∧ Cl r.1 r.2.1 := by
  have hS := hC.1
  rw [Tx_part_144] at hm
  exact km_Tx_part_151 hmrPart hC hm
set_option maxHeartbeats 8000000 in
set_option maxRecDepth 100000 in
theorem km_Tx_part_105 {N : Nat} {rPart : Sh → St → Option (Sh × St × Int)} (hmrPart : ∀ {π : Sh} {σ : St}  {r : Sh × St × Int}, Cl π σ → rPart π σ  = some r → ext π r.1 ∧ Cl r.1 r.2.1)  {r : Sh × St × Int}  {π : Sh} {σ : St} {x1 : Int} (hC : Cl π σ)  (hm : Tx_part_105 N rPart π σ x1 = some r) : ext π r.1 ∧ Cl r.1 r.2.1 := by
  have hS := hC.1
  rw [Tx_part_105] at hm
  obtain ⟨r33, e34, hm⟩ := obd_s hm
  have q35 := (km_Sc_opens hC e34)
  have hC36 : Cl π r33.1 := q35
  obtain ⟨g37, hm⟩ := grd_s hm
  by_cases c38 : r33.2 = 0
  · have hm := ite_t c38 hm
    cases hm
    exact ⟨ext.rf _, hC36⟩
  · have hm := ite_f c38 hm
    obtain ⟨g39, hm⟩ := grd_s hm
    by_cases c40 : x1 = 91
    · have hm := ite_t c40 hm
      obtain ⟨r48, e49, hm⟩ := obd_s hm
      have q50 := (km_Tx_bracket hmrPart hC36 e49)
      have q := km_Tx_part_131 hmrPart  q50.2  hm
      exact ⟨q50.1.tr q.1, q.2⟩
    · have hm := ite_f c40 hm
      by_cases c41 : x1 = 60
      · have hm := ite_t c41 hm
        obtain ⟨r45, e46, hm⟩ := obd_s hm
        have q47 := (km_Tx_turn hmrPart hC36 e46)
        have q := km_Tx_part_144 hmrPart  q47.2  hm
        exact ⟨q47.1.tr q.1, q.2⟩
      · have hm := ite_f c41 hm
        obtain ⟨r42, e43, hm⟩ := obd_s hm
        have q44 := (km_Tx_poly hmrPart hC36 e43)
        have q := km_Tx_part_151 hmrPart  q44.2  hm
        exact ⟨q44.1.tr q.1, q.2⟩
set_option maxHeartbeats 8000000 in
set_option maxRecDepth 100000 in
theorem km_Tx_part {N : Nat} {rPart : Sh → St → Option (Sh × St × Int)} (hmrPart : ∀ {π : Sh} {σ : St}  {r : Sh × St × Int}, Cl π σ → rPart π σ  = some r → ext π r.1 ∧ Cl r.1 r.2.1) {π : Sh} {σ : St}  {r : Sh × St × Int} (hC : Cl π σ)  (hm : Tx_part N rPart π σ  = some r) : ext π r.1 ∧ Cl r.1 r.2.1 := by
  have hS := hC.1
  rw [Tx_part] at hm
  obtain ⟨r1, e2, hm⟩ := obd_s hm
  have q3 := (km_Tx_here hC e2)
  have hC4 : Cl π r1.1 := q3
  obtain ⟨r5, e6, hm⟩ := obd_s hm
  obtain ⟨g7, hm⟩ := grd_s hm
  by_cases c8 : r5 = 0
  · have hm := ite_t c8 hm
    obtain ⟨r9, e10, hm⟩ := obd_s hm
    obtain ⟨g11, hm⟩ := grd_s hm
    by_cases c12 : r9 = 0
    · have hm := ite_t c12 hm
      obtain ⟨g13, hm⟩ := grd_s hm
      by_cases c14 : r1.2 = 45
      · have hm := ite_t c14 hm
        exact km_Tx_part_30 hmrPart hC4 hm
      · have hm := ite_f c14 hm
        by_cases c15 : r1.2 = 126
        · have hm := ite_t c15 hm
          obtain ⟨σ23, e24, hm⟩ := bnd_s hm
          have hC25 : Cl π σ23 := e24 ▸ (cl_sfI hC4 (f := 222) rfl _ _)
          have q := km_Tx_part_58 hmrPart  ((cl_nO hC25 (by decide) (by decide) _)) lt_nO (lt_ext (cl_fl hC4 (f := 221) rfl 50) (ext_nO π 10 14)) hm
          exact ⟨(ext_nO π 10 14).tr q.1, q.2⟩
        · have hm := ite_f c15 hm
          by_cases c16 : r1.2 = 91
          · have hm := ite_t c16 hm
            exact km_Tx_part_105 hmrPart hC4 hm
          · have hm := ite_f c16 hm
            by_cases c17 : r1.2 = 60
            · have hm := ite_t c17 hm
              exact km_Tx_part_105 hmrPart hC4 hm
            · have hm := ite_f c17 hm
              by_cases c18 : r1.2 = 123
              · have hm := ite_t c18 hm
                exact km_Tx_part_105 hmrPart hC4 hm
              · have hm := ite_f c18 hm
                obtain ⟨r19, e20, hm⟩ := obd_s hm
                have q21 := (km_Sc_fail hC4 e20)
                have hC22 : Cl π r19 := q21
                cases hm
                exact ⟨ext.rf _, hC22⟩
    · have hm := ite_f c12 hm
      exact km_Tx_part_30 hmrPart hC4 hm
  · have hm := ite_f c8 hm
    obtain ⟨r27, e28, hm⟩ := obd_s hm
    have q29 := (km_Tx_word hC4 e28)
    have q := km_Tx_part_16 hmrPart  q29.2  hm
    exact ⟨q29.1.tr q.1, q.2⟩
set_option maxHeartbeats 8000000 in
set_option maxRecDepth 100000 in
theorem km_Tx_partC {N d : Nat} : ∀ {π : Sh} {σ : St}  {r : Sh × St × Int}, Cl π σ → Tx_partC N d π σ  = some r → ext π r.1 ∧ Cl r.1 r.2.1 := by
  induction d with
  | zero => intro π σ  r hC  hm; cases (show none = some r from hm)
  | succ d ih => intro π σ  r hC  hm; exact km_Tx_part (N := N) ih hC  hm
set_option maxHeartbeats 8000000 in
set_option maxRecDepth 100000 in
theorem km_Tx_start {N : Nat}   {π : Sh} {σ : St} {x1 : Int} {x2 : Int} {x3 : Int} {r : St} (hC : Cl π σ) (hv_x1 : x1 < nn π) (hm : Tx_start N π σ x1 x2 x3 = some r) : Cl π r := by
  have hS := hC.1
  rw [Tx_start] at hm
  cases hm
  exact (cl_sfI (cl_sfI (cl_sfI (cl_sfR hC _ _ hv_x1) (f := 222) rfl _ _) (f := 223) rfl _ _) (f := 224) rfl _ _)
set_option maxHeartbeats 8000000 in
set_option maxRecDepth 100000 in
theorem km_Rd_functionOf_2 {N : Nat}   {π : Sh} {r : St × Int}  (n : Nat) : ∀ {σ : St} {x1 : Int} {x3 : Int}, Cl π σ → Rd_functionOf_2 N π n σ x1 x3 = some r → Cl π r.1 := by
  induction n with
  | zero => intro σ x1 x3 hC  hm; cases (show none = some r from hm)
  | succ n krec2 =>
    intro σ x1 x3 hC  hm
    have hS := hC.1
    rw [Rd_functionOf_2] at hm
    obtain ⟨g1, hm⟩ := grd_s hm
    by_cases c2 : x3 < 21
    · have hm := ite_t c2 hm
      obtain ⟨g3, hm⟩ := grd_s hm
      obtain ⟨g4, hm⟩ := grd_s hm
      obtain ⟨g5, hm⟩ := grd_s hm
      by_cases c6 : (el σ 45 x3) = x1
      · have hm := ite_t c6 hm
        cases hm
        exact hC
      · have hm := ite_f c6 hm
        exact krec2 hC  hm
    · have hm := ite_f c2 hm
      cases hm
      exact hC
set_option maxHeartbeats 8000000 in
set_option maxRecDepth 100000 in
theorem km_Rd_functionOf {N : Nat}   {π : Sh} {σ : St} {x1 : Int} {r : St × Int} (hC : Cl π σ)  (hm : Rd_functionOf N π σ x1 = some r) : Cl π r.1 := by
  have hS := hC.1
  rw [Rd_functionOf] at hm
  exact km_Rd_functionOf_2 N hC hm
set_option maxHeartbeats 8000000 in
set_option maxRecDepth 100000 in
theorem km_Rd_kindOf_41 {N : Nat}   {π : Sh} {r : St × Int}  (n : Nat) : ∀ {σ : St} {x1 : Int} {x3 : Int}, Cl π σ → Rd_kindOf_41 N π n σ x1 x3 = some r → Cl π r.1 := by
  induction n with
  | zero => intro σ x1 x3 hC  hm; cases (show none = some r from hm)
  | succ n krec41 =>
    intro σ x1 x3 hC  hm
    have hS := hC.1
    rw [Rd_kindOf_41] at hm
    obtain ⟨r17, e18, hm⟩ := obd_s hm
    have q19 := (km_L_size hC (sh_43 hS).2.1 e18)
    have hC20 : Cl π r17.1 := q19
    obtain ⟨g21, hm⟩ := grd_s hm
    obtain ⟨g22, hm⟩ := grd_s hm
    by_cases c23 : x3 < r17.2
    · have hm := ite_t c23 hm
      obtain ⟨r24, e25, hm⟩ := obd_s hm
      have q26 := (km_L_get hC20 (sh_43 hS).2.1 e25)
      have hC27 : Cl π r24.1 := q26.1
      obtain ⟨g28, hm⟩ := grd_s hm
      obtain ⟨g29, hm⟩ := grd_s hm
      obtain ⟨g30, hm⟩ := grd_s hm
      by_cases c31 : (fl r24.1 20 r24.2) = x1
      · have hm := ite_t c31 hm
        obtain ⟨r32, e33, hm⟩ := obd_s hm
        have q34 := (km_L_get hC27 (sh_43 hS).2.1 e33)
        have hC35 : Cl π r32.1 := q34.1
        obtain ⟨g36, hm⟩ := grd_s hm
        obtain ⟨g37, hm⟩ := grd_s hm
        by_cases c38 : (fl r32.1 22 r32.2) = 0
        · have hm := ite_t c38 hm
          cases hm
          exact (cl_sfR hC35 _ _ q34.2)
        · have hm := ite_f c38 hm
          cases hm
          exact (cl_sfR hC35 _ _ q34.2)
      · have hm := ite_f c31 hm
        exact krec41 hC27  hm
    · have hm := ite_f c23 hm
      cases hm
      exact hC20
set_option maxHeartbeats 8000000 in
set_option maxRecDepth 100000 in
theorem km_Rd_kindOf {N : Nat}   {π : Sh} {σ : St} {x1 : Int} {r : St × Int} (hC : Cl π σ)  (hm : Rd_kindOf N π σ x1 = some r) : Cl π r.1 := by
  have hS := hC.1
  rw [Rd_kindOf] at hm
  obtain ⟨r1, e2, hm⟩ := obd_s hm
  have q3 := (km_Df_parameterIndex hC (cl_fl hC (f := 144) rfl 44) e2)
  obtain ⟨g4, hm⟩ := grd_s hm
  have hC5 : Cl π r1.1 := q3
  obtain ⟨g6, hm⟩ := grd_s hm
  by_cases c7 : r1.2 < 0
  · have hm := ite_t c7 hm
    obtain ⟨σ8, e9, hm⟩ := bnd_s hm
    have hC10 : Cl π σ8 := e9 ▸ (cl_sfI hC5 (f := 145) rfl _ _)
    obtain ⟨r11, e12, hm⟩ := obd_s hm
    have q13 := (km_Rd_functionOf hC10 e12)
    have hC14 : Cl π r11.1 := q13
    obtain ⟨g15, hm⟩ := grd_s hm
    by_cases c16 : r11.2 < 0
    · have hm := ite_t c16 hm
      exact km_Rd_kindOf_41 N (cl_sfI hC14 (f := 145) rfl _ _) hm
    · have hm := ite_f c16 hm
      cases hm
      exact (cl_sfI hC14 (f := 145) rfl _ _)
  · have hm := ite_f c7 hm
    cases hm
    exact (cl_sfI hC5 (f := 145) rfl _ _)


set_option maxHeartbeats 8000000 in
set_option maxRecDepth 100000 in
theorem km_Sc_digitsBehind_2 {N : Nat}   {π : Sh} {r : St × Int}  (n : Nat) : ∀ {σ : St} {x2 : Int}, Cl π σ → Sc_digitsBehind_2 N π n σ x2 = some r → Cl π r.1 := by
  induction n with
  | zero => intro σ x2 hC  hm; cases (show none = some r from hm)
  | succ n krec2 =>
    intro σ x2 hC  hm
    have hS := hC.1
    rw [Sc_digitsBehind_2] at hm
    obtain ⟨g1, hm⟩ := grd_s hm
    obtain ⟨g2, hm⟩ := grd_s hm
    by_cases c3 : x2 < (fl σ 181 1)
    · have hm := ite_t c3 hm
      obtain ⟨g4, hm⟩ := grd_s hm
      obtain ⟨r5, e6, hm⟩ := obd_s hm
      obtain ⟨g7, hm⟩ := grd_s hm
      by_cases c8 : r5 = 0
      · have hm := ite_t c8 hm
        cases hm
        exact hC
      · have hm := ite_f c8 hm
        exact krec2 hC  hm
    · have hm := ite_f c3 hm
      cases hm
      exact hC
set_option maxHeartbeats 8000000 in
set_option maxRecDepth 100000 in
theorem km_Sc_digitsBehind {N : Nat}   {π : Sh} {σ : St} {x1 : Int} {r : St × Int} (hC : Cl π σ)  (hm : Sc_digitsBehind N π σ x1 = some r) : Cl π r.1 := by
  have hS := hC.1
  rw [Sc_digitsBehind] at hm
  exact km_Sc_digitsBehind_2 N hC hm
set_option maxHeartbeats 8000000 in
set_option maxRecDepth 100000 in
theorem km_Sc_valueOf_5 {N : Nat}   {π : Sh} {r : St × Int}  (n : Nat) : ∀ {σ : St} {x2 : Int} {x3 : Int} {x4 : Int}, Cl π σ → Sc_valueOf_5 N π n σ x2 x3 x4 = some r → Cl π r.1 := by
  induction n with
  | zero => intro σ x2 x3 x4 hC  hm; cases (show none = some r from hm)
  | succ n krec5 =>
    intro σ x2 x3 x4 hC  hm
    have hS := hC.1
    rw [Sc_valueOf_5] at hm
    obtain ⟨g1, hm⟩ := grd_s hm
    obtain ⟨g2, hm⟩ := grd_s hm
    by_cases c3 : x4 < x2
    · have hm := ite_t c3 hm
      obtain ⟨r4, e5, hm⟩ := obd_s hm
      have q6 := (km_Sc_byteAt hC e5)
      have hC7 : Cl π r4.1 := q6
      obtain ⟨v8, e9, hm⟩ := bnd_s hm
      exact krec5 hC7  hm
    · have hm := ite_f c3 hm
      cases hm
      exact hC
set_option maxHeartbeats 8000000 in
set_option maxRecDepth 100000 in
theorem km_Sc_valueOf {N : Nat}   {π : Sh} {σ : St} {x1 : Int} {x2 : Int} {r : St × Int} (hC : Cl π σ)  (hm : Sc_valueOf N π σ x1 x2 = some r) : Cl π r.1 := by
  have hS := hC.1
  rw [Sc_valueOf] at hm
  exact km_Sc_valueOf_5 N hC hm
set_option maxHeartbeats 8000000 in
set_option maxRecDepth 100000 in
theorem km_Sc_scanCount_145 {N : Nat}   {π : Sh} {r : St}  {σ : St} {x2 : Int} (hC : Cl π σ)  (hm : Sc_scanCount_145 N π σ x2 = some r) : Cl π r := by
  have hS := hC.1
  rw [Sc_scanCount_145] at hm
  obtain ⟨g38, hm⟩ := grd_s hm
  by_cases c39 : x2 = 0
  · have hm := ite_t c39 hm
    cases hm
    exact (cl_sfI hC (f := 185) rfl _ _)
  · have hm := ite_f c39 hm
    cases hm
    exact hC
set_option maxHeartbeats 8000000 in
set_option maxRecDepth 100000 in
theorem km_Sc_scanCount_137 {N : Nat}   {π : Sh} {r : St}  {σ : St} {x2 : Int} {s0 : Int} (hC : Cl π σ)  (hm : Sc_scanCount_137 N π σ x2 s0 = some r) : Cl π r := by
  have hS := hC.1
  rw [Sc_scanCount_137] at hm
  exact km_Sc_scanCount_145 (cl_sfI (cl_sfI hC (f := 190) rfl _ _) (f := 185) rfl _ _) hm
set_option maxHeartbeats 8000000 in
set_option maxRecDepth 100000 in
theorem km_Sc_scanCount_116 {N : Nat}   {π : Sh} {r : St}  {σ : St} {x1 : Int} {s0 : Int} (hC : Cl π σ)  (hm : Sc_scanCount_116 N π σ x1 s0 = some r) : Cl π r := by
  have hS := hC.1
  rw [Sc_scanCount_116] at hm
  obtain ⟨g40, hm⟩ := grd_s hm
  by_cases c41 : s0 = 0
  · have hm := ite_t c41 hm
    exact km_Sc_scanCount_137 hC hm
  · have hm := ite_f c41 hm
    obtain ⟨r42, e43, hm⟩ := obd_s hm
    have q44 := (km_Sc_valueOf hC e43)
    have hC45 : Cl π r42.1 := q44
    exact km_Sc_scanCount_137 hC45 hm
set_option maxHeartbeats 8000000 in
set_option maxRecDepth 100000 in
theorem km_Sc_scanCount_115 {N : Nat}   {π : Sh} {r : St}  {σ : St} {x1 : Int} (hC : Cl π σ)  (hm : Sc_scanCount_115 N π σ x1 = some r) : Cl π r := by
  have hS := hC.1
  rw [Sc_scanCount_115] at hm
  exact km_Sc_scanCount_116 hC hm
set_option maxHeartbeats 8000000 in
set_option maxRecDepth 100000 in
theorem km_Sc_scanCount_43 {N : Nat}   {π : Sh} {r : St}  {σ : St} {x1 : Int} {x2 : Int} {s0 : Int} (hC : Cl π σ)  (hm : Sc_scanCount_43 N π σ x1 x2 s0 = some r) : Cl π r := by
  have hS := hC.1
  rw [Sc_scanCount_43] at hm
  obtain ⟨σ13, e14, hm⟩ := bnd_s hm
  have hC15 : Cl π σ13 := e14 ▸ (cl_sfI (cl_sfI (cl_sfI (cl_sfI hC (f := 189) rfl _ _) (f := 190) rfl _ _) (f := 187) rfl _ _) (f := 185) rfl _ _)
  obtain ⟨r16, e17, hm⟩ := obd_s hm
  have q18 := (km_Sc_byteAt hC15 e17)
  have hC19 : Cl π r16.1 := q18
  obtain ⟨g20, hm⟩ := grd_s hm
  by_cases c21 : r16.2 = 58
  · have hm := ite_t c21 hm
    obtain ⟨r22, e23, hm⟩ := obd_s hm
    have q24 := (km_Sc_byteAt hC19 e23)
    have hC25 : Cl π r22.1 := q24
    obtain ⟨r26, e27, hm⟩ := obd_s hm
    obtain ⟨g28, hm⟩ := grd_s hm
    by_cases c29 : r26 = 0
    · have hm := ite_t c29 hm
      exact km_Sc_scanCount_145 hC25 hm
    · have hm := ite_f c29 hm
      obtain ⟨r30, e31, hm⟩ := obd_s hm
      have q32 := (km_Sc_digitsBehind hC25 e31)
      have hC33 : Cl π r30.1 := q32
      obtain ⟨g34, hm⟩ := grd_s hm
      by_cases c35 : x2 = 0
      · have hm := ite_t c35 hm
        exact km_Sc_scanCount_115 (cl_sfI hC33 (f := 187) rfl _ _) hm
      · have hm := ite_f c35 hm
        obtain ⟨g36, hm⟩ := grd_s hm
        by_cases c37 : (4 : Int) < ((r30.2 - x1) - 1)
        · have hm := ite_t c37 hm
          exact km_Sc_scanCount_115 (cl_sfI hC33 (f := 187) rfl _ _) hm
        · have hm := ite_f c37 hm
          exact km_Sc_scanCount_116 (cl_sfI hC33 (f := 187) rfl _ _) hm
  · have hm := ite_f c21 hm
    exact km_Sc_scanCount_145 hC19 hm
set_option maxHeartbeats 8000000 in
set_option maxRecDepth 100000 in
theorem km_Sc_scanCount_24 {N : Nat}   {π : Sh} {r : St}  {σ : St} {x1 : Int} {s0 : Int} (hC : Cl π σ)  (hm : Sc_scanCount_24 N π σ x1 s0 = some r) : Cl π r := by
  have hS := hC.1
  rw [Sc_scanCount_24] at hm
  obtain ⟨g7, hm⟩ := grd_s hm
  by_cases c8 : s0 = 0
  · have hm := ite_t c8 hm
    exact km_Sc_scanCount_43 hC hm
  · have hm := ite_f c8 hm
    obtain ⟨r9, e10, hm⟩ := obd_s hm
    have q11 := (km_Sc_valueOf hC e10)
    have hC12 : Cl π r9.1 := q11
    exact km_Sc_scanCount_43 hC12 hm
set_option maxHeartbeats 8000000 in
set_option maxRecDepth 100000 in
theorem km_Sc_scanCount {N : Nat}   {π : Sh} {σ : St}  {r : St} (hC : Cl π σ)  (hm : Sc_scanCount N π σ  = some r) : Cl π r := by
  have hS := hC.1
  rw [Sc_scanCount] at hm
  obtain ⟨r1, e2, hm⟩ := obd_s hm
  have q3 := (km_Sc_digitsBehind hC e2)
  have hC4 : Cl π r1.1 := q3
  obtain ⟨g5, hm⟩ := grd_s hm
  by_cases c6 : (4 : Int) < (r1.2 - (fl r1.1 186 1))
  · have hm := ite_t c6 hm
    exact km_Sc_scanCount_24 hC4 hm
  · have hm := ite_f c6 hm
    exact km_Sc_scanCount_24 hC4 hm

set_option maxHeartbeats 8000000 in
set_option maxRecDepth 100000 in
theorem km_Sc_scanName_42 {N : Nat}   {π : Sh} {r : St} {rec10 : St → Int → Option St} (krec10 : ∀ {σ : St} {x1 : Int}, Cl π σ → rec10 σ x1 = some r → Cl π r) {σ : St} {x1 : Int} (hC : Cl π σ)  (hm : Sc_scanName_42 N π rec10 σ x1 = some r) : Cl π r := by
  have hS := hC.1
  rw [Sc_scanName_42] at hm
  obtain ⟨g15, hm⟩ := grd_s hm
  obtain ⟨r16, e17, hm⟩ := obd_s hm
  exact krec10 (cl_sfI hC (f := 188) rfl _ _)  hm
set_option maxHeartbeats 8000000 in
set_option maxRecDepth 100000 in
theorem km_Sc_scanName_87 {N : Nat}   {π : Sh} {r : St}  {σ : St} {s0 : Int} (hC : Cl π σ)  (hm : Sc_scanName_87 N π σ s0 = some r) : Cl π r := by
  have hS := hC.1
  rw [Sc_scanName_87] at hm
  cases hm
  exact (cl_sfI hC (f := 185) rfl _ _)
set_option maxHeartbeats 8000000 in
set_option maxRecDepth 100000 in
theorem km_Sc_scanName_65 {N : Nat}   {π : Sh} {r : St}  {σ : St} {x1 : Int} (hC : Cl π σ)  (hm : Sc_scanName_65 N π σ x1 = some r) : Cl π r := by
  have hS := hC.1
  rw [Sc_scanName_65] at hm
  obtain ⟨g13, hm⟩ := grd_s hm
  by_cases c14 : (12 : Int) < (x1 - (fl σ 186 1))
  · have hm := ite_t c14 hm
    exact km_Sc_scanName_87 (cl_sfI hC (f := 187) rfl _ _) hm
  · have hm := ite_f c14 hm
    exact km_Sc_scanName_87 (cl_sfI hC (f := 187) rfl _ _) hm
set_option maxHeartbeats 8000000 in
set_option maxRecDepth 100000 in
theorem km_Sc_scanName_10 {N : Nat}   {π : Sh} {r : St}  (n : Nat) : ∀ {σ : St} {x1 : Int}, Cl π σ → Sc_scanName_10 N π n σ x1 = some r → Cl π r := by
  induction n with
  | zero => intro σ x1 hC  hm; cases (show none = some r from hm)
  | succ n krec10 =>
    intro σ x1 hC  hm
    have hS := hC.1
    rw [Sc_scanName_10] at hm
    obtain ⟨g1, hm⟩ := grd_s hm
    obtain ⟨g2, hm⟩ := grd_s hm
    by_cases c3 : x1 < (fl σ 181 1)
    · have hm := ite_t c3 hm
      obtain ⟨g4, hm⟩ := grd_s hm
      obtain ⟨r5, e6, hm⟩ := obd_s hm
      obtain ⟨g7, hm⟩ := grd_s hm
      by_cases c8 : r5 = 0
      · have hm := ite_t c8 hm
        obtain ⟨r9, e10, hm⟩ := obd_s hm
        obtain ⟨g11, hm⟩ := grd_s hm
        by_cases c12 : r9 = 0
        · have hm := ite_t c12 hm
          exact km_Sc_scanName_65 hC hm
        · have hm := ite_f c12 hm
          exact km_Sc_scanName_42 krec10 hC hm
      · have hm := ite_f c8 hm
        exact km_Sc_scanName_42 krec10 hC hm
    · have hm := ite_f c3 hm
      exact km_Sc_scanName_65 hC hm
set_option maxHeartbeats 8000000 in
set_option maxRecDepth 100000 in
theorem km_Sc_scanName {N : Nat}   {π : Sh} {σ : St}  {r : St} (hC : Cl π σ)  (hm : Sc_scanName N π σ  = some r) : Cl π r := by
  have hS := hC.1
  rw [Sc_scanName] at hm
  exact km_Sc_scanName_10 N (cl_sfI hC (f := 188) rfl _ _) hm
set_option maxHeartbeats 8000000 in
set_option maxRecDepth 100000 in
theorem km_Sc_scanText_87 {N : Nat}   {π : Sh} {r : St}  {σ : St} {s0 : Int} (hC : Cl π σ)  (hm : Sc_scanText_87 N π σ s0 = some r) : Cl π r := by
  have hS := hC.1
  rw [Sc_scanText_87] at hm
  cases hm
  exact (cl_sfI hC (f := 185) rfl _ _)
set_option maxHeartbeats 8000000 in
set_option maxRecDepth 100000 in
theorem km_Sc_scanText_69 {N : Nat}   {π : Sh} {r : St}  {σ : St} {x1 : Int} {s0 : Int} (hC : Cl π σ)  (hm : Sc_scanText_69 N π σ x1 s0 = some r) : Cl π r := by
  have hS := hC.1
  rw [Sc_scanText_69] at hm
  obtain ⟨g17, hm⟩ := grd_s hm
  by_cases c18 : s0 = 0
  · have hm := ite_t c18 hm
    exact km_Sc_scanText_87 (cl_sfI hC (f := 187) rfl _ _) hm
  · have hm := ite_f c18 hm
    exact km_Sc_scanText_87 (cl_sfI hC (f := 187) rfl _ _) hm
set_option maxHeartbeats 8000000 in
set_option maxRecDepth 100000 in
theorem km_Sc_scanText_54 {N : Nat}   {π : Sh} {r : St}  {σ : St} {x1 : Int} (hC : Cl π σ)  (hm : Sc_scanText_54 N π σ x1 = some r) : Cl π r := by
  have hS := hC.1
  rw [Sc_scanText_54] at hm
  obtain ⟨r11, e12, hm⟩ := obd_s hm
  have q13 := (km_Sc_byteAt hC e12)
  have hC14 : Cl π r11.1 := q13
  obtain ⟨g15, hm⟩ := grd_s hm
  by_cases c16 : r11.2 = 34
  · have hm := ite_t c16 hm
    exact km_Sc_scanText_69 hC14 hm
  · have hm := ite_f c16 hm
    exact km_Sc_scanText_69 hC14 hm
set_option maxHeartbeats 8000000 in
set_option maxRecDepth 100000 in
theorem km_Sc_scanText_7 {N : Nat}   {π : Sh} {r : St}  (n : Nat) : ∀ {σ : St} {x1 : Int}, Cl π σ → Sc_scanText_7 N π n σ x1 = some r → Cl π r := by
  induction n with
  | zero => intro σ x1 hC  hm; cases (show none = some r from hm)
  | succ n krec7 =>
    intro σ x1 hC  hm
    have hS := hC.1
    rw [Sc_scanText_7] at hm
    obtain ⟨g3, hm⟩ := grd_s hm
    obtain ⟨g4, hm⟩ := grd_s hm
    by_cases c5 : x1 < (fl σ 181 1)
    · have hm := ite_t c5 hm
      obtain ⟨g6, hm⟩ := grd_s hm
      obtain ⟨g7, hm⟩ := grd_s hm
      by_cases c8 : (el σ 2 x1) < 32
      · have hm := ite_t c8 hm
        exact km_Sc_scanText_54 hC hm
      · have hm := ite_f c8 hm
        by_cases c9 : (126 : Int) < (el σ 2 x1)
        · have hm := ite_t c9 hm
          exact km_Sc_scanText_54 hC hm
        · have hm := ite_f c9 hm
          by_cases c10 : (el σ 2 x1) = 34
          · have hm := ite_t c10 hm
            exact km_Sc_scanText_54 hC hm
          · have hm := ite_f c10 hm
            exact krec7 hC  hm
    · have hm := ite_f c5 hm
      exact km_Sc_scanText_54 hC hm
set_option maxHeartbeats 8000000 in
set_option maxRecDepth 100000 in
theorem km_Sc_scanText {N : Nat}   {π : Sh} {σ : St}  {r : St} (hC : Cl π σ)  (hm : Sc_scanText N π σ  = some r) : Cl π r := by
  have hS := hC.1
  rw [Sc_scanText] at hm
  obtain ⟨v1, e2, hm⟩ := bnd_s hm
  exact km_Sc_scanText_7 N hC hm
set_option maxHeartbeats 8000000 in
set_option maxRecDepth 100000 in
theorem km_Sc_advance_147 {N : Nat}   {π : Sh} {r : St}  {σ : St} {s0 : Int} (hC : Cl π σ)  (hm : Sc_advance_147 N π σ s0 = some r) : Cl π r := by
  have hS := hC.1
  rw [Sc_advance_147] at hm
  cases hm
  exact (cl_sfI hC (f := 185) rfl _ _)
set_option maxHeartbeats 8000000 in
set_option maxRecDepth 100000 in
theorem km_Sc_advance_46 {N : Nat}   {π : Sh} {r : St}  {σ : St}  (hC : Cl π σ)  (hm : Sc_advance_46 N π σ  = some r) : Cl π r := by
  have hS := hC.1
  rw [Sc_advance_46] at hm
  obtain ⟨σ7, e8, hm⟩ := bnd_s hm
  have hC9 : Cl π σ7 := e8 ▸ (cl_sfI hC (f := 187) rfl _ _)
  obtain ⟨r10, e11, hm⟩ := obd_s hm
  have q12 := (km_Sc_byteAt hC9 e11)
  have hC13 : Cl π r10.1 := q12
  obtain ⟨g14, hm⟩ := grd_s hm
  obtain ⟨g15, hm⟩ := grd_s hm
  by_cases c16 : (fl r10.1 186 1) < (fl r10.1 181 1)
  · have hm := ite_t c16 hm
    obtain ⟨r17, e18, hm⟩ := obd_s hm
    obtain ⟨g19, hm⟩ := grd_s hm
    by_cases c20 : r17 = 0
    · have hm := ite_t c20 hm
      obtain ⟨r21, e22, hm⟩ := obd_s hm
      obtain ⟨g23, hm⟩ := grd_s hm
      by_cases c24 : r21 = 0
      · have hm := ite_t c24 hm
        obtain ⟨g25, hm⟩ := grd_s hm
        by_cases c26 : r10.2 = 34
        · have hm := ite_t c26 hm
          obtain ⟨r31, e32, hm⟩ := obd_s hm
          have q33 := (km_Sc_scanText hC13 e32)
          have hC34 : Cl π r31 := q33
          cases hm
          exact hC34
        · have hm := ite_f c26 hm
          obtain ⟨r27, e28, hm⟩ := obd_s hm
          obtain ⟨g29, hm⟩ := grd_s hm
          by_cases c30 : r27 = 0
          · have hm := ite_t c30 hm
            exact km_Sc_advance_147 hC13 hm
          · have hm := ite_f c30 hm
            exact km_Sc_advance_147 hC13 hm
      · have hm := ite_f c24 hm
        obtain ⟨r35, e36, hm⟩ := obd_s hm
        have q37 := (km_Sc_scanCount hC13 e36)
        have hC38 : Cl π r35 := q37
        cases hm
        exact hC38
    · have hm := ite_f c20 hm
      obtain ⟨r39, e40, hm⟩ := obd_s hm
      have q41 := (km_Sc_scanName hC13 e40)
      have hC42 : Cl π r39 := q41
      cases hm
      exact hC42
  · have hm := ite_f c16 hm
    cases hm
    exact (cl_sfI (cl_sfI hC13 (f := 185) rfl _ _) (f := 187) rfl _ _)
set_option maxHeartbeats 8000000 in
set_option maxRecDepth 100000 in
theorem km_Sc_advance_8 {N : Nat}   {π : Sh} {r : St}  (n : Nat) : ∀ {σ : St} , Cl π σ → Sc_advance_8 N π n σ  = some r → Cl π r := by
  induction n with
  | zero => intro σ  hC  hm; cases (show none = some r from hm)
  | succ n krec8 =>
    intro σ  hC  hm
    have hS := hC.1
    rw [Sc_advance_8] at hm
    obtain ⟨g1, hm⟩ := grd_s hm
    obtain ⟨g2, hm⟩ := grd_s hm
    by_cases c3 : (fl σ 186 1) < (fl σ 181 1)
    · have hm := ite_t c3 hm
      obtain ⟨g4, hm⟩ := grd_s hm
      obtain ⟨g5, hm⟩ := grd_s hm
      by_cases c6 : (el σ 2 (fl σ 186 1)) = 32
      · have hm := ite_t c6 hm
        exact krec8 (cl_sfI hC (f := 186) rfl _ _)  hm
      · have hm := ite_f c6 hm
        exact km_Sc_advance_46 hC hm
    · have hm := ite_f c3 hm
      exact km_Sc_advance_46 hC hm
set_option maxHeartbeats 8000000 in
set_option maxRecDepth 100000 in
theorem km_Sc_advance {N : Nat}   {π : Sh} {σ : St}  {r : St} (hC : Cl π σ)  (hm : Sc_advance N π σ  = some r) : Cl π r := by
  have hS := hC.1
  rw [Sc_advance] at hm
  exact km_Sc_advance_8 N (cl_sfI hC (f := 186) rfl _ _) hm
set_option maxHeartbeats 8000000 in
set_option maxRecDepth 100000 in
theorem km_Rd_count_31 {N : Nat}   {π : Sh} {r : St}  {σ : St} {s0 : Int} (hC : Cl π σ)  (hm : Rd_count_31 N π σ s0 = some r) : Cl π r := by
  have hS := hC.1
  rw [Rd_count_31] at hm
  obtain ⟨r16, e17, hm⟩ := obd_s hm
  have q18 := (km_Sc_fail hC e17)
  have hC19 : Cl π r16 := q18
  cases hm
  exact hC19
set_option maxHeartbeats 8000000 in
set_option maxRecDepth 100000 in
theorem km_Rd_count_140 {N : Nat}   {π : Sh} {r : St}  {σ : St}  (hC : Cl π σ)  (hm : Rd_count_140 N π σ  = some r) : Cl π r := by
  have hS := hC.1
  rw [Rd_count_140] at hm
  obtain ⟨r28, e29, hm⟩ := obd_s hm
  have q30 := (km_Sc_fail hC e29)
  have hC31 : Cl π r28 := q30
  cases hm
  exact hC31
set_option maxHeartbeats 8000000 in
set_option maxRecDepth 100000 in
theorem km_Rd_count_185 {N : Nat}   {π : Sh} {r : St}  {σ : St}  (hC : Cl π σ)  (hm : Rd_count_185 N π σ  = some r) : Cl π r := by
  have hS := hC.1
  rw [Rd_count_185] at hm
  obtain ⟨r36, e37, hm⟩ := obd_s hm
  have q38 := (km_Sc_advance hC e37)
  have hC39 : Cl π r36 := q38
  cases hm
  exact hC39
set_option maxHeartbeats 8000000 in
set_option maxRecDepth 100000 in
theorem km_Rd_count_156 {N : Nat}   {π : Sh} {r : St}  {σ : St} {x1 : Int} {x2 : Int} (hC : Cl π σ) (hv_x1 : x1 < nn π) (hm : Rd_count_156 N π σ x1 x2 = some r) : Cl π r := by
  have hS := hC.1
  rw [Rd_count_156] at hm
  obtain ⟨g32, hm⟩ := grd_s hm
  by_cases c33 : x2 = 0
  · have hm := ite_t c33 hm
    obtain ⟨g34, hm⟩ := grd_s hm
    exact km_Rd_count_185 (cl_sfI hC (f := 123) rfl _ _) hm
  · have hm := ite_f c33 hm
    obtain ⟨g35, hm⟩ := grd_s hm
    exact km_Rd_count_185 (cl_sfI hC (f := 122) rfl _ _) hm
set_option maxHeartbeats 8000000 in
set_option maxRecDepth 100000 in
theorem km_Rd_count_111 {N : Nat}   {π : Sh} {r : St}  {σ : St} {x1 : Int} {x2 : Int} {x4 : Int} {s0 : Int} (hC : Cl π σ) (hv_x1 : x1 < nn π) (hm : Rd_count_111 N π σ x1 x2 x4 s0 = some r) : Cl π r := by
  have hS := hC.1
  rw [Rd_count_111] at hm
  obtain ⟨g22, hm⟩ := grd_s hm
  obtain ⟨g23, hm⟩ := grd_s hm
  by_cases c24 : s0 < (fl σ 189 1)
  · have hm := ite_t c24 hm
    exact km_Rd_count_140 hC hm
  · have hm := ite_f c24 hm
    by_cases c25 : (fl σ 189 1) = 0
    · have hm := ite_t c25 hm
      obtain ⟨g26, hm⟩ := grd_s hm
      by_cases c27 : x4 = 0
      · have hm := ite_t c27 hm
        exact km_Rd_count_140 hC hm
      · have hm := ite_f c27 hm
        exact km_Rd_count_156 hC hv_x1 hm
    · have hm := ite_f c25 hm
      exact km_Rd_count_156 hC hv_x1 hm
set_option maxHeartbeats 8000000 in
set_option maxRecDepth 100000 in
theorem km_Rd_count_97 {N : Nat}   {π : Sh} {r : St}  {σ : St} {x1 : Int} {x2 : Int} {x3 : Int} {s0 : Int} (hC : Cl π σ) (hv_x1 : x1 < nn π) (hm : Rd_count_97 N π σ x1 x2 x3 s0 = some r) : Cl π r := by
  have hS := hC.1
  rw [Rd_count_97] at hm
  obtain ⟨g20, hm⟩ := grd_s hm
  by_cases c21 : x3 = 0
  · have hm := ite_t c21 hm
    exact km_Rd_count_111 hC hv_x1 hm
  · have hm := ite_f c21 hm
    exact km_Rd_count_111 hC hv_x1 hm
set_option maxHeartbeats 8000000 in
set_option maxRecDepth 100000 in
theorem km_Rd_count_92 {N : Nat}   {π : Sh} {r : St}  {σ : St} {x1 : Int} {x2 : Int} {x3 : Int} (hC : Cl π σ) (hv_x1 : x1 < nn π) (hm : Rd_count_92 N π σ x1 x2 x3 = some r) : Cl π r := by
  have hS := hC.1
  rw [Rd_count_92] at hm
  exact km_Rd_count_97 hC hv_x1 hm
set_option maxHeartbeats 8000000 in
set_option maxRecDepth 100000 in
theorem km_Rd_count_74 {N : Nat}   {π : Sh} {r : St}  {σ : St} {x1 : Int} {x2 : Int} {s0 : Int} (hC : Cl π σ) (hv_x1 : x1 < nn π) (hm : Rd_count_74 N π σ x1 x2 s0 = some r) : Cl π r := by
  have hS := hC.1
  rw [Rd_count_74] at hm
  obtain ⟨g9, hm⟩ := grd_s hm
  by_cases c10 : s0 = 0
  · have hm := ite_t c10 hm
    obtain ⟨g11, hm⟩ := grd_s hm
    obtain ⟨g12, hm⟩ := grd_s hm
    by_cases c13 : (fl σ 120 x1) = 13
    · have hm := ite_t c13 hm
      exact km_Rd_count_92 hC hv_x1 hm
    · have hm := ite_f c13 hm
      obtain ⟨g14, hm⟩ := grd_s hm
      by_cases c15 : x2 = 0
      · have hm := ite_t c15 hm
        exact km_Rd_count_92 hC hv_x1 hm
      · have hm := ite_f c15 hm
        exact km_Rd_count_97 hC hv_x1 hm
  · have hm := ite_f c10 hm
    exact km_Rd_count_92 hC hv_x1 hm
set_option maxHeartbeats 8000000 in
set_option maxRecDepth 100000 in
theorem km_Rd_count_69 {N : Nat}   {π : Sh} {r : St}  {σ : St} {x1 : Int} {x2 : Int} (hC : Cl π σ) (hv_x1 : x1 < nn π) (hm : Rd_count_69 N π σ x1 x2 = some r) : Cl π r := by
  have hS := hC.1
  rw [Rd_count_69] at hm
  exact km_Rd_count_74 hC hv_x1 hm
set_option maxHeartbeats 8000000 in
set_option maxRecDepth 100000 in
theorem km_Rd_count {N : Nat}   {π : Sh} {σ : St} {x1 : Int} {x2 : Int} {r : St} (hC : Cl π σ) (hv_x1 : x1 < nn π) (hm : Rd_count N π σ x1 x2 = some r) : Cl π r := by
  have hS := hC.1
  rw [Rd_count] at hm
  obtain ⟨g1, hm⟩ := grd_s hm
  by_cases c2 : (fl σ 185 1) = 2
  · have hm := ite_t c2 hm
    obtain ⟨g3, hm⟩ := grd_s hm
    obtain ⟨g4, hm⟩ := grd_s hm
    by_cases c5 : (fl σ 120 x1) = 16
    · have hm := ite_t c5 hm
      exact km_Rd_count_69 hC hv_x1 hm
    · have hm := ite_f c5 hm
      by_cases c6 : (fl σ 120 x1) = 17
      · have hm := ite_t c6 hm
        exact km_Rd_count_69 hC hv_x1 hm
      · have hm := ite_f c6 hm
        by_cases c7 : (fl σ 120 x1) = 18
        · have hm := ite_t c7 hm
          exact km_Rd_count_69 hC hv_x1 hm
        · have hm := ite_f c7 hm
          exact km_Rd_count_74 hC hv_x1 hm
  · have hm := ite_f c2 hm
    by_cases c8 : (fl σ 185 1) = 3
    · have hm := ite_t c8 hm
      exact km_Rd_count_31 hC hm
    · have hm := ite_f c8 hm
      exact km_Rd_count_31 hC hm
set_option maxHeartbeats 8000000 in
set_option maxRecDepth 100000 in
theorem km_Rd_fraction_172 {N : Nat}   {π : Sh} {r : St}  {σ : St}  (hC : Cl π σ)  (hm : Rd_fraction_172 N π σ  = some r) : Cl π r := by
  have hS := hC.1
  rw [Rd_fraction_172] at hm
  obtain ⟨r37, e38, hm⟩ := obd_s hm
  have q39 := (km_Sc_fail hC e38)
  have hC40 : Cl π r37 := q39
  cases hm
  exact hC40
set_option maxHeartbeats 8000000 in
set_option maxRecDepth 100000 in
theorem km_Rd_fraction_240 {N : Nat}   {π : Sh} {r : St}  {σ : St}  (hC : Cl π σ)  (hm : Rd_fraction_240 N π σ  = some r) : Cl π r := by
  have hS := hC.1
  rw [Rd_fraction_240] at hm
  obtain ⟨r53, e54, hm⟩ := obd_s hm
  have q55 := (km_Sc_advance hC e54)
  have hC56 : Cl π r53 := q55
  cases hm
  exact hC56
set_option maxHeartbeats 8000000 in
set_option maxRecDepth 100000 in
theorem km_Rd_fraction_188 {N : Nat}   {π : Sh} {r : St}  {σ : St} {x1 : Int} {x2 : Int} {x3 : Int} {x4 : Int} (hC : Cl π σ) (hv_x1 : x1 < nn π) (hm : Rd_fraction_188 N π σ x1 x2 x3 x4 = some r) : Cl π r := by
  have hS := hC.1
  rw [Rd_fraction_188] at hm
  obtain ⟨g41, hm⟩ := grd_s hm
  obtain ⟨g42, hm⟩ := grd_s hm
  obtain ⟨r43, e44, hm⟩ := obd_s hm
  obtain ⟨g45, hm⟩ := grd_s hm
  by_cases c46 : x2 = 0
  · have hm := ite_t c46 hm
    obtain ⟨g47, hm⟩ := grd_s hm
    obtain ⟨g48, hm⟩ := grd_s hm
    obtain ⟨g49, hm⟩ := grd_s hm
    exact km_Rd_fraction_240 (cl_sfI (cl_sfI hC (f := 124) rfl _ _) (f := 125) rfl _ _) hm
  · have hm := ite_f c46 hm
    obtain ⟨g50, hm⟩ := grd_s hm
    obtain ⟨g51, hm⟩ := grd_s hm
    obtain ⟨g52, hm⟩ := grd_s hm
    exact km_Rd_fraction_240 (cl_sfI (cl_sfI hC (f := 122) rfl _ _) (f := 123) rfl _ _) hm
set_option maxHeartbeats 8000000 in
set_option maxRecDepth 100000 in
theorem km_Rd_fraction_145 {N : Nat}   {π : Sh} {r : St}  {σ : St} {x1 : Int} {x2 : Int} {x3 : Int} {x4 : Int} {s0 : Int} (hC : Cl π σ) (hv_x1 : x1 < nn π) (hm : Rd_fraction_145 N π σ x1 x2 x3 x4 s0 = some r) : Cl π r := by
  have hS := hC.1
  rw [Rd_fraction_145] at hm
  obtain ⟨g29, hm⟩ := grd_s hm
  by_cases c30 : s0 = 0
  · have hm := ite_t c30 hm
    exact km_Rd_fraction_172 hC hm
  · have hm := ite_f c30 hm
    obtain ⟨g31, hm⟩ := grd_s hm
    by_cases c32 : x2 = 0
    · have hm := ite_t c32 hm
      obtain ⟨g33, hm⟩ := grd_s hm
      obtain ⟨g34, hm⟩ := grd_s hm
      obtain ⟨g35, hm⟩ := grd_s hm
      by_cases c36 : ((fl σ 122 x1) * x4) < (x3 * (fl σ 123 x1))
      · have hm := ite_t c36 hm
        exact km_Rd_fraction_188 hC hv_x1 hm
      · have hm := ite_f c36 hm
        exact km_Rd_fraction_172 hC hm
    · have hm := ite_f c32 hm
      exact km_Rd_fraction_188 hC hv_x1 hm
set_option maxHeartbeats 8000000 in
set_option maxRecDepth 100000 in
theorem km_Rd_fraction_140 {N : Nat}   {π : Sh} {r : St}  {σ : St} {x1 : Int} {x2 : Int} {x3 : Int} {x4 : Int} (hC : Cl π σ) (hv_x1 : x1 < nn π) (hm : Rd_fraction_140 N π σ x1 x2 x3 x4 = some r) : Cl π r := by
  have hS := hC.1
  rw [Rd_fraction_140] at hm
  exact km_Rd_fraction_145 hC hv_x1 hm
set_option maxHeartbeats 8000000 in
set_option maxRecDepth 100000 in
theorem km_Rd_fraction_144 {N : Nat}   {π : Sh} {r : St}  {σ : St} {x1 : Int} {x2 : Int} {x3 : Int} {x4 : Int} (hC : Cl π σ) (hv_x1 : x1 < nn π) (hm : Rd_fraction_144 N π σ x1 x2 x3 x4 = some r) : Cl π r := by
  have hS := hC.1
  rw [Rd_fraction_144] at hm
  exact km_Rd_fraction_145 hC hv_x1 hm
set_option maxHeartbeats 8000000 in
set_option maxRecDepth 100000 in
theorem km_Rd_fraction_129 {N : Nat}   {π : Sh} {r : St}  {σ : St} {x1 : Int} {x2 : Int} {x3 : Int} {x4 : Int} {x6 : Int} (hC : Cl π σ) (hv_x1 : x1 < nn π) (hm : Rd_fraction_129 N π σ x1 x2 x3 x4 x6 = some r) : Cl π r := by
  have hS := hC.1
  rw [Rd_fraction_129] at hm
  obtain ⟨g24, hm⟩ := grd_s hm
  by_cases c25 : x6 = 0
  · have hm := ite_t c25 hm
    exact km_Rd_fraction_140 hC hv_x1 hm
  · have hm := ite_f c25 hm
    obtain ⟨g26, hm⟩ := grd_s hm
    obtain ⟨g27, hm⟩ := grd_s hm
    by_cases c28 : x4 < x3
    · have hm := ite_t c28 hm
      exact km_Rd_fraction_144 hC hv_x1 hm
    · have hm := ite_f c28 hm
      exact km_Rd_fraction_140 hC hv_x1 hm
set_option maxHeartbeats 8000000 in
set_option maxRecDepth 100000 in
theorem km_Rd_fraction_100 {N : Nat}   {π : Sh} {r : St}  {σ : St} {x1 : Int} {x2 : Int} {x3 : Int} {x4 : Int} {x5 : Int} {s0 : Int} (hC : Cl π σ) (hv_x1 : x1 < nn π) (hm : Rd_fraction_100 N π σ x1 x2 x3 x4 x5 s0 = some r) : Cl π r := by
  have hS := hC.1
  rw [Rd_fraction_100] at hm
  obtain ⟨g16, hm⟩ := grd_s hm
  by_cases c17 : (64 : Int) < x3
  · have hm := ite_t c17 hm
    exact km_Rd_fraction_144 hC hv_x1 hm
  · have hm := ite_f c17 hm
    obtain ⟨g18, hm⟩ := grd_s hm
    by_cases c19 : (64 : Int) < x4
    · have hm := ite_t c19 hm
      exact km_Rd_fraction_144 hC hv_x1 hm
    · have hm := ite_f c19 hm
      by_cases c20 : (0 : Int) < x4
      · have hm := ite_t c20 hm
        obtain ⟨g21, hm⟩ := grd_s hm
        by_cases c22 : x5 = 0
        · have hm := ite_t c22 hm
          exact km_Rd_fraction_129 hC hv_x1 hm
        · have hm := ite_f c22 hm
          by_cases c23 : x3 = 0
          · have hm := ite_t c23 hm
            exact km_Rd_fraction_144 hC hv_x1 hm
          · have hm := ite_f c23 hm
            exact km_Rd_fraction_129 hC hv_x1 hm
      · have hm := ite_f c20 hm
        exact km_Rd_fraction_144 hC hv_x1 hm
set_option maxHeartbeats 8000000 in
set_option maxRecDepth 100000 in
theorem km_Rd_fraction_95 {N : Nat}   {π : Sh} {r : St}  {σ : St} {x1 : Int} {x2 : Int} {x3 : Int} {x4 : Int} {x5 : Int} (hC : Cl π σ) (hv_x1 : x1 < nn π) (hm : Rd_fraction_95 N π σ x1 x2 x3 x4 x5 = some r) : Cl π r := by
  have hS := hC.1
  rw [Rd_fraction_95] at hm
  exact km_Rd_fraction_100 hC hv_x1 hm
set_option maxHeartbeats 8000000 in
set_option maxRecDepth 100000 in
theorem km_Rd_fraction_75 {N : Nat}   {π : Sh} {r : St}  {σ : St} {x1 : Int} {x2 : Int} {x3 : Int} {x4 : Int} {s0 : Int} (hC : Cl π σ) (hv_x1 : x1 < nn π) (hm : Rd_fraction_75 N π σ x1 x2 x3 x4 s0 = some r) : Cl π r := by
  have hS := hC.1
  rw [Rd_fraction_75] at hm
  obtain ⟨g12, hm⟩ := grd_s hm
  obtain ⟨g13, hm⟩ := grd_s hm
  by_cases c14 : (fl σ 120 x1) = 19
  · have hm := ite_t c14 hm
    exact km_Rd_fraction_95 hC hv_x1 hm
  · have hm := ite_f c14 hm
    by_cases c15 : (fl σ 120 x1) = 20
    · have hm := ite_t c15 hm
      exact km_Rd_fraction_95 hC hv_x1 hm
    · have hm := ite_f c15 hm
      exact km_Rd_fraction_100 hC hv_x1 hm
set_option maxHeartbeats 8000000 in
set_option maxRecDepth 100000 in
theorem km_Rd_fraction_70 {N : Nat}   {π : Sh} {r : St}  {σ : St} {x1 : Int} {x2 : Int} {x3 : Int} {x4 : Int} (hC : Cl π σ) (hv_x1 : x1 < nn π) (hm : Rd_fraction_70 N π σ x1 x2 x3 x4 = some r) : Cl π r := by
  have hS := hC.1
  rw [Rd_fraction_70] at hm
  exact km_Rd_fraction_75 hC hv_x1 hm
set_option maxHeartbeats 8000000 in
set_option maxRecDepth 100000 in
theorem km_Rd_fraction_38 {N : Nat}   {π : Sh} {r : St}  {σ : St} {x1 : Int} {x2 : Int} (hC : Cl π σ) (hv_x1 : x1 < nn π) (hm : Rd_fraction_38 N π σ x1 x2 = some r) : Cl π r := by
  have hS := hC.1
  rw [Rd_fraction_38] at hm
  obtain ⟨g8, hm⟩ := grd_s hm
  obtain ⟨g9, hm⟩ := grd_s hm
  by_cases c10 : (fl σ 120 x1) = 0
  · have hm := ite_t c10 hm
    exact km_Rd_fraction_70 hC hv_x1 hm
  · have hm := ite_f c10 hm
    by_cases c11 : (fl σ 120 x1) = 1
    · have hm := ite_t c11 hm
      exact km_Rd_fraction_70 hC hv_x1 hm
    · have hm := ite_f c11 hm
      exact km_Rd_fraction_75 hC hv_x1 hm
set_option maxHeartbeats 8000000 in
set_option maxRecDepth 100000 in
theorem km_Rd_fraction {N : Nat}   {π : Sh} {σ : St} {x1 : Int} {x2 : Int} {r : St} (hC : Cl π σ) (hv_x1 : x1 < nn π) (hm : Rd_fraction N π σ x1 x2 = some r) : Cl π r := by
  have hS := hC.1
  rw [Rd_fraction] at hm
  obtain ⟨g1, hm⟩ := grd_s hm
  by_cases c2 : (fl σ 185 1) = 2
  · have hm := ite_t c2 hm
    exact km_Rd_fraction_38 hC hv_x1 hm
  · have hm := ite_f c2 hm
    by_cases c3 : (fl σ 185 1) = 3
    · have hm := ite_t c3 hm
      exact km_Rd_fraction_38 hC hv_x1 hm
    · have hm := ite_f c3 hm
      obtain ⟨r4, e5, hm⟩ := obd_s hm
      have q6 := (km_Sc_fail hC e5)
      have hC7 : Cl π r4 := q6
      cases hm
      exact hC7
set_option maxHeartbeats 8000000 in
set_option maxRecDepth 100000 in
theorem km_Rd_wants_147 {N : Nat} {rArg : Sh → St → Option (Sh × St × Int)} {rFun : Sh → St → Option (Sh × St × Int)} (hmrArg : ∀ {π : Sh} {σ : St}  {r : Sh × St × Int}, Cl π σ → rArg π σ  = some r → ext π r.1 ∧ Cl r.1 r.2.1) (hmrFun : ∀ {π : Sh} {σ : St}  {r : Sh × St × Int}, Cl π σ → rFun π σ  = some r → ext π r.1 ∧ Cl r.1 r.2.1 ∧ r.2.2 < nn r.1)  {r : Sh × St} {rec9 : Sh → St → Int → Int → Int → Option (Sh × St)} (krec9 : ∀ {π : Sh} {σ : St} {x1 : Int} {x2 : Int} {x3 : Int}, Cl π σ → x1 < nn π → rec9 π σ x1 x2 x3 = some r → ext π r.1 ∧ Cl r.1 r.2) {π : Sh} {σ : St} {x1 : Int} {x2 : Int} {x3 : Int} (hC : Cl π σ) (hv_x1 : x1 < nn π) (hm : Rd_wants_147 N rArg rFun rec9 π σ x1 x2 x3 = some r) : ext π r.1 ∧ Cl r.1 r.2 := by
  have hS := hC.1
  rw [Rd_wants_147] at hm
  exact krec9 hC hv_x1 hm
set_option maxHeartbeats 8000000 in
set_option maxRecDepth 100000 in
theorem km_Rd_wants_144 {N : Nat} {rArg : Sh → St → Option (Sh × St × Int)} {rFun : Sh → St → Option (Sh × St × Int)} (hmrArg : ∀ {π : Sh} {σ : St}  {r : Sh × St × Int}, Cl π σ → rArg π σ  = some r → ext π r.1 ∧ Cl r.1 r.2.1) (hmrFun : ∀ {π : Sh} {σ : St}  {r : Sh × St × Int}, Cl π σ → rFun π σ  = some r → ext π r.1 ∧ Cl r.1 r.2.1 ∧ r.2.2 < nn r.1)  {r : Sh × St} {rec9 : Sh → St → Int → Int → Int → Option (Sh × St)} (krec9 : ∀ {π : Sh} {σ : St} {x1 : Int} {x2 : Int} {x3 : Int}, Cl π σ → x1 < nn π → rec9 π σ x1 x2 x3 = some r → ext π r.1 ∧ Cl r.1 r.2) {π : Sh} {σ : St} {x1 : Int} {x2 : Int} {x3 : Int} {s0 : Int} {s1 : Int} (hC : Cl π σ) (hv_x1 : x1 < nn π) (hv_s1 : s1 < nn π) (hm : Rd_wants_144 N rArg rFun rec9 π σ x1 x2 x3 s0 s1 = some r) : ext π r.1 ∧ Cl r.1 r.2 := by
  have hS := hC.1
  rw [Rd_wants_144] at hm
  obtain ⟨r37, e38, hm⟩ := obd_s hm
  have q39 := (km_Pc_give hC hv_s1 e38)
  obtain ⟨g40, hm⟩ := grd_s hm
  have hC41 : Cl π r37 := q39
  exact km_Rd_wants_147 hmrArg hmrFun krec9 hC41 hv_x1 hm
set_option maxHeartbeats 8000000 in
set_option maxRecDepth 100000 in
theorem km_Rd_wants_99 {N : Nat} {rArg : Sh → St → Option (Sh × St × Int)} {rFun : Sh → St → Option (Sh × St × Int)} (hmrArg : ∀ {π : Sh} {σ : St}  {r : Sh × St × Int}, Cl π σ → rArg π σ  = some r → ext π r.1 ∧ Cl r.1 r.2.1) (hmrFun : ∀ {π : Sh} {σ : St}  {r : Sh × St × Int}, Cl π σ → rFun π σ  = some r → ext π r.1 ∧ Cl r.1 r.2.1 ∧ r.2.2 < nn r.1)  {r : Sh × St} {rec9 : Sh → St → Int → Int → Int → Option (Sh × St)} (krec9 : ∀ {π : Sh} {σ : St} {x1 : Int} {x2 : Int} {x3 : Int}, Cl π σ → x1 < nn π → rec9 π σ x1 x2 x3 = some r → ext π r.1 ∧ Cl r.1 r.2) {π : Sh} {σ : St} {x1 : Int} {x2 : Int} {x3 : Int} {s0 : Int} {s1 : Int} (hC : Cl π σ) (hv_x1 : x1 < nn π) (hv_s1 : s1 < nn π) (hm : Rd_wants_99 N rArg rFun rec9 π σ x1 x2 x3 s0 s1 = some r) : ext π r.1 ∧ Cl r.1 r.2 := by
  have hS := hC.1
  rw [Rd_wants_99] at hm
  obtain ⟨r28, e29, hm⟩ := obd_s hm
  have q30 := (km_Rd_fraction hC hv_s1 e29)
  have hC31 : Cl π r28 := q30
  exact km_Rd_wants_147 hmrArg hmrFun krec9 hC31 hv_x1 hm
set_option maxHeartbeats 8000000 in
set_option maxRecDepth 100000 in
theorem km_Rd_wants_127 {N : Nat} {rArg : Sh → St → Option (Sh × St × Int)} {rFun : Sh → St → Option (Sh × St × Int)} (hmrArg : ∀ {π : Sh} {σ : St}  {r : Sh × St × Int}, Cl π σ → rArg π σ  = some r → ext π r.1 ∧ Cl r.1 r.2.1) (hmrFun : ∀ {π : Sh} {σ : St}  {r : Sh × St × Int}, Cl π σ → rFun π σ  = some r → ext π r.1 ∧ Cl r.1 r.2.1 ∧ r.2.2 < nn r.1)  {r : Sh × St} {rec9 : Sh → St → Int → Int → Int → Option (Sh × St)} (krec9 : ∀ {π : Sh} {σ : St} {x1 : Int} {x2 : Int} {x3 : Int}, Cl π σ → x1 < nn π → rec9 π σ x1 x2 x3 = some r → ext π r.1 ∧ Cl r.1 r.2) {π : Sh} {σ : St} {x1 : Int} {x2 : Int} {x3 : Int} {s0 : Int} {s1 : Int} (hC : Cl π σ) (hv_x1 : x1 < nn π) (hv_s0 : s0 < nn π) (hv_s1 : s1 < nn π) (hm : Rd_wants_127 N rArg rFun rec9 π σ x1 x2 x3 s0 s1 = some r) : ext π r.1 ∧ Cl r.1 r.2 := by
  have hS := hC.1
  rw [Rd_wants_127] at hm
  obtain ⟨g32, hm⟩ := grd_s hm
  exact km_Rd_wants_147 hmrArg hmrFun krec9 (cl_sfR hC _ _ hv_s0) hv_x1 hm
set_option maxHeartbeats 8000000 in
set_option maxRecDepth 100000 in
theorem km_Rd_wants_116 {N : Nat} {rArg : Sh → St → Option (Sh × St × Int)} {rFun : Sh → St → Option (Sh × St × Int)} (hmrArg : ∀ {π : Sh} {σ : St}  {r : Sh × St × Int}, Cl π σ → rArg π σ  = some r → ext π r.1 ∧ Cl r.1 r.2.1) (hmrFun : ∀ {π : Sh} {σ : St}  {r : Sh × St × Int}, Cl π σ → rFun π σ  = some r → ext π r.1 ∧ Cl r.1 r.2.1 ∧ r.2.2 < nn r.1)  {r : Sh × St} {rec9 : Sh → St → Int → Int → Int → Option (Sh × St)} (krec9 : ∀ {π : Sh} {σ : St} {x1 : Int} {x2 : Int} {x3 : Int}, Cl π σ → x1 < nn π → rec9 π σ x1 x2 x3 = some r → ext π r.1 ∧ Cl r.1 r.2) {π : Sh} {σ : St} {x1 : Int} {x2 : Int} {x3 : Int} {s0 : Int} {s1 : Int} (hC : Cl π σ) (hv_x1 : x1 < nn π) (hv_s1 : s1 < nn π) (hm : Rd_wants_116 N rArg rFun rec9 π σ x1 x2 x3 s0 s1 = some r) : ext π r.1 ∧ Cl r.1 r.2 := by
  have hS := hC.1
  rw [Rd_wants_116] at hm
  obtain ⟨r33, e34, hm⟩ := obd_s hm
  have q35 := (km_Rd_count hC hv_s1 e34)
  have hC36 : Cl π r33 := q35
  exact km_Rd_wants_147 hmrArg hmrFun krec9 hC36 hv_x1 hm
set_option maxHeartbeats 8000000 in
set_option maxRecDepth 100000 in
theorem km_Rd_wants_44 {N : Nat} {rArg : Sh → St → Option (Sh × St × Int)} {rFun : Sh → St → Option (Sh × St × Int)} (hmrArg : ∀ {π : Sh} {σ : St}  {r : Sh × St × Int}, Cl π σ → rArg π σ  = some r → ext π r.1 ∧ Cl r.1 r.2.1) (hmrFun : ∀ {π : Sh} {σ : St}  {r : Sh × St × Int}, Cl π σ → rFun π σ  = some r → ext π r.1 ∧ Cl r.1 r.2.1 ∧ r.2.2 < nn r.1)  {r : Sh × St} {rec9 : Sh → St → Int → Int → Int → Option (Sh × St)} (krec9 : ∀ {π : Sh} {σ : St} {x1 : Int} {x2 : Int} {x3 : Int}, Cl π σ → x1 < nn π → rec9 π σ x1 x2 x3 = some r → ext π r.1 ∧ Cl r.1 r.2) {π : Sh} {σ : St} {x1 : Int} {x2 : Int} {x3 : Int} {s0 : Int} (hC : Cl π σ) (hv_x1 : x1 < nn π) (hm : Rd_wants_44 N rArg rFun rec9 π σ x1 x2 x3 s0 = some r) : ext π r.1 ∧ Cl r.1 r.2 := by
  have hS := hC.1
  rw [Rd_wants_44] at hm
  obtain ⟨g11, hm⟩ := grd_s hm
  obtain ⟨g12, hm⟩ := grd_s hm
  by_cases c13 : (chW (x2 + x3)) = 65
  · have hm := ite_t c13 hm
    obtain ⟨g14, hm⟩ := grd_s hm
    by_cases c15 : x3 = 0
    · have hm := ite_t c15 hm
      exact km_Rd_wants_99 hmrArg hmrFun krec9 hC hv_x1 hv_x1 hm
    · have hm := ite_f c15 hm
      exact km_Rd_wants_99 hmrArg hmrFun krec9 hC hv_x1 hv_x1 hm
  have hm := ite_f c13 hm
  by_cases c16 : (chW (x2 + x3)) = 70
  · have hm := ite_t c16 hm
    obtain ⟨r17, e18, hm⟩ := obd_s hm
    have q19 := (hmrFun hC e18)
    have q := km_Rd_wants_127 hmrArg hmrFun krec9 q19.2.1 (lt_ext hv_x1 q19.1) q19.2.2 (lt_ext hv_x1 q19.1) hm
    exact ⟨q19.1.tr q.1, q.2⟩
  have hm := ite_f c16 hm
  by_cases c20 : (chW (x2 + x3)) = 78
  · have hm := ite_t c20 hm
    obtain ⟨g21, hm⟩ := grd_s hm
    by_cases c22 : x3 = 0
    · have hm := ite_t c22 hm
      exact km_Rd_wants_116 hmrArg hmrFun krec9 hC hv_x1 hv_x1 hm
    · have hm := ite_f c22 hm
      exact km_Rd_wants_116 hmrArg hmrFun krec9 hC hv_x1 hv_x1 hm
  have hm := ite_f c20 hm
  obtain ⟨g23, hm⟩ := grd_s hm
  by_cases c24 : s0 = 0
  · have hm := ite_t c24 hm
    obtain ⟨r25, e26, hm⟩ := obd_s hm
    have q27 := (hmrArg hC e26)
    have q := km_Rd_wants_144 hmrArg hmrFun krec9 q27.2 (lt_ext hv_x1 q27.1) (lt_ext hv_x1 q27.1) hm
    exact ⟨q27.1.tr q.1, q.2⟩
  · have hm := ite_f c24 hm
    cases hm
    exact ⟨ext.rf _, hC⟩
set_option maxHeartbeats 8000000 in
set_option maxRecDepth 100000 in
theorem km_Rd_wants_9 {N : Nat} {rArg : Sh → St → Option (Sh × St × Int)} {rFun : Sh → St → Option (Sh × St × Int)} (hmrArg : ∀ {π : Sh} {σ : St}  {r : Sh × St × Int}, Cl π σ → rArg π σ  = some r → ext π r.1 ∧ Cl r.1 r.2.1) (hmrFun : ∀ {π : Sh} {σ : St}  {r : Sh × St × Int}, Cl π σ → rFun π σ  = some r → ext π r.1 ∧ Cl r.1 r.2.1 ∧ r.2.2 < nn r.1)  {r : Sh × St}  (n : Nat) : ∀ {π : Sh} {σ : St} {x1 : Int} {x2 : Int} {x3 : Int}, Cl π σ → x1 < nn π → Rd_wants_9 N rArg rFun n π σ x1 x2 x3 = some r → ext π r.1 ∧ Cl r.1 r.2 := by
  induction n with
  | zero => intro π σ x1 x2 x3 hC hv_x1 hm; cases (show none = some r from hm)
  | succ n krec9 =>
    intro π σ x1 x2 x3 hC hv_x1 hm
    have hS := hC.1
    rw [Rd_wants_9] at hm
    obtain ⟨g4, hm⟩ := grd_s hm
    by_cases c5 : x3 < 3
    · have hm := ite_t c5 hm
      obtain ⟨g6, hm⟩ := grd_s hm
      by_cases c7 : (fl σ 182 1) = 0
      · have hm := ite_t c7 hm
        obtain ⟨g8, hm⟩ := grd_s hm
        obtain ⟨g9, hm⟩ := grd_s hm
        by_cases c10 : (chW ((x2 + x3) + 1)) = 32
        · have hm := ite_t c10 hm
          exact km_Rd_wants_44 hmrArg hmrFun krec9 hC hv_x1 hm
        · have hm := ite_f c10 hm
          exact km_Rd_wants_44 hmrArg hmrFun krec9 hC hv_x1 hm
      · have hm := ite_f c7 hm
        cases hm
        exact ⟨ext.rf _, hC⟩
    · have hm := ite_f c5 hm
      cases hm
      exact ⟨ext.rf _, hC⟩
set_option maxHeartbeats 8000000 in
set_option maxRecDepth 100000 in
theorem km_Rd_wants {N : Nat} {rArg : Sh → St → Option (Sh × St × Int)} {rFun : Sh → St → Option (Sh × St × Int)} (hmrArg : ∀ {π : Sh} {σ : St}  {r : Sh × St × Int}, Cl π σ → rArg π σ  = some r → ext π r.1 ∧ Cl r.1 r.2.1) (hmrFun : ∀ {π : Sh} {σ : St}  {r : Sh × St × Int}, Cl π σ → rFun π σ  = some r → ext π r.1 ∧ Cl r.1 r.2.1 ∧ r.2.2 < nn r.1) {π : Sh} {σ : St} {x1 : Int} {r : Sh × St} (hC : Cl π σ) (hv_x1 : x1 < nn π) (hm : Rd_wants N rArg rFun π σ x1 = some r) : ext π r.1 ∧ Cl r.1 r.2 := by
  have hS := hC.1
  rw [Rd_wants] at hm
  obtain ⟨g1, hm⟩ := grd_s hm
  obtain ⟨v2, e3, hm⟩ := bnd_s hm
  exact km_Rd_wants_9 hmrArg hmrFun N hC hv_x1 hm
set_option maxHeartbeats 8000000 in
set_option maxRecDepth 100000 in
theorem km_Rd_named_46 {N : Nat} {rArg : Sh → St → Option (Sh × St × Int)} {rFun : Sh → St → Option (Sh × St × Int)} (hmrArg : ∀ {π : Sh} {σ : St}  {r : Sh × St × Int}, Cl π σ → rArg π σ  = some r → ext π r.1 ∧ Cl r.1 r.2.1) (hmrFun : ∀ {π : Sh} {σ : St}  {r : Sh × St × Int}, Cl π σ → rFun π σ  = some r → ext π r.1 ∧ Cl r.1 r.2.1 ∧ r.2.2 < nn r.1)  {r : Sh × St × Int}  {π : Sh} {σ : St} {x2 : Int} (hC : Cl π σ) (hv_x2 : x2 < nn π) (hm : Rd_named_46 N rArg rFun π σ x2 = some r) : ext π r.1 ∧ Cl r.1 r.2.1 ∧ r.2.2 < nn r.1 := by
  have hS := hC.1
  rw [Rd_named_46] at hm
  cases hm
  exact ⟨ext.rf _, hC, hv_x2⟩
set_option maxHeartbeats 8000000 in
set_option maxRecDepth 100000 in
theorem km_Rd_named_97 {N : Nat} {rArg : Sh → St → Option (Sh × St × Int)} {rFun : Sh → St → Option (Sh × St × Int)} (hmrArg : ∀ {π : Sh} {σ : St}  {r : Sh × St × Int}, Cl π σ → rArg π σ  = some r → ext π r.1 ∧ Cl r.1 r.2.1) (hmrFun : ∀ {π : Sh} {σ : St}  {r : Sh × St × Int}, Cl π σ → rFun π σ  = some r → ext π r.1 ∧ Cl r.1 r.2.1 ∧ r.2.2 < nn r.1)  {r : Sh × St × Int} {rec76 : Sh → St → Int → Int → Int → Option (Sh × St × Int)} (krec76 : ∀ {π : Sh} {σ : St} {x2 : Int} {x3 : Int} {x4 : Int}, Cl π σ → x2 < nn π → rec76 π σ x2 x3 x4 = some r → ext π r.1 ∧ Cl r.1 r.2.1 ∧ r.2.2 < nn r.1) {π : Sh} {σ : St} {x2 : Int} {x3 : Int} {x4 : Int} {s0 : Int} {s1 : Int} (hC : Cl π σ) (hv_x2 : x2 < nn π) (hv_s1 : s1 < nn π) (hm : Rd_named_97 N rArg rFun rec76 π σ x2 x3 x4 s0 s1 = some r) : ext π r.1 ∧ Cl r.1 r.2.1 ∧ r.2.2 < nn r.1 := by
  have hS := hC.1
  rw [Rd_named_97] at hm
  obtain ⟨r36, e37, hm⟩ := obd_s hm
  have q38 := (km_Pc_give hC hv_s1 e37)
  obtain ⟨g39, hm⟩ := grd_s hm
  have hC40 : Cl π r36 := q38
  exact krec76 hC40 hv_x2 hm
set_option maxHeartbeats 8000000 in
set_option maxRecDepth 100000 in
theorem km_Rd_named_106 {N : Nat} {rArg : Sh → St → Option (Sh × St × Int)} {rFun : Sh → St → Option (Sh × St × Int)} (hmrArg : ∀ {π : Sh} {σ : St}  {r : Sh × St × Int}, Cl π σ → rArg π σ  = some r → ext π r.1 ∧ Cl r.1 r.2.1) (hmrFun : ∀ {π : Sh} {σ : St}  {r : Sh × St × Int}, Cl π σ → rFun π σ  = some r → ext π r.1 ∧ Cl r.1 r.2.1 ∧ r.2.2 < nn r.1)  {r : Sh × St × Int}  {π : Sh} {σ : St} {x2 : Int} (hC : Cl π σ) (hv_x2 : x2 < nn π) (hm : Rd_named_106 N rArg rFun π σ x2 = some r) : ext π r.1 ∧ Cl r.1 r.2.1 ∧ r.2.2 < nn r.1 := by
  have hS := hC.1
  rw [Rd_named_106] at hm
  cases hm
  exact ⟨ext.rf _, hC, hv_x2⟩
set_option maxHeartbeats 8000000 in
set_option maxRecDepth 100000 in
theorem km_Rd_named_76 {N : Nat} {rArg : Sh → St → Option (Sh × St × Int)} {rFun : Sh → St → Option (Sh × St × Int)} (hmrArg : ∀ {π : Sh} {σ : St}  {r : Sh × St × Int}, Cl π σ → rArg π σ  = some r → ext π r.1 ∧ Cl r.1 r.2.1) (hmrFun : ∀ {π : Sh} {σ : St}  {r : Sh × St × Int}, Cl π σ → rFun π σ  = some r → ext π r.1 ∧ Cl r.1 r.2.1 ∧ r.2.2 < nn r.1)  {r : Sh × St × Int}  (n : Nat) : ∀ {π : Sh} {σ : St} {x2 : Int} {x3 : Int} {x4 : Int}, Cl π σ → x2 < nn π → Rd_named_76 N rArg rFun n π σ x2 x3 x4 = some r → ext π r.1 ∧ Cl r.1 r.2.1 ∧ r.2.2 < nn r.1 := by
  induction n with
  | zero => intro π σ x2 x3 x4 hC hv_x2 hm; cases (show none = some r from hm)
  | succ n krec76 =>
    intro π σ x2 x3 x4 hC hv_x2 hm
    have hS := hC.1
    rw [Rd_named_76] at hm
    obtain ⟨g28, hm⟩ := grd_s hm
    obtain ⟨g29, hm⟩ := grd_s hm
    by_cases c30 : x4 < x3
    · have hm := ite_t c30 hm
      obtain ⟨g31, hm⟩ := grd_s hm
      by_cases c32 : (fl σ 182 1) = 0
      · have hm := ite_t c32 hm
        obtain ⟨r33, e34, hm⟩ := obd_s hm
        have q35 := (hmrArg hC e34)
        have q := km_Rd_named_97 hmrArg hmrFun krec76 q35.2 (lt_ext hv_x2 q35.1) (lt_ext hv_x2 q35.1) hm
        exact ⟨q35.1.tr q.1, q.2⟩
      · have hm := ite_f c32 hm
        exact km_Rd_named_106 hmrArg hmrFun hC hv_x2 hm
    · have hm := ite_f c30 hm
      exact km_Rd_named_106 hmrArg hmrFun hC hv_x2 hm
set_option maxHeartbeats 8000000 in
set_option maxRecDepth 100000 in
theorem km_Rd_named_28 {N : Nat} {rArg : Sh → St → Option (Sh × St × Int)} {rFun : Sh → St → Option (Sh × St × Int)} (hmrArg : ∀ {π : Sh} {σ : St}  {r : Sh × St × Int}, Cl π σ → rArg π σ  = some r → ext π r.1 ∧ Cl r.1 r.2.1) (hmrFun : ∀ {π : Sh} {σ : St}  {r : Sh × St × Int}, Cl π σ → rFun π σ  = some r → ext π r.1 ∧ Cl r.1 r.2.1 ∧ r.2.2 < nn r.1)  {r : Sh × St × Int}  {π : Sh} {σ : St} {x1 : Int} {s0 : Int} (hC : Cl π σ) (hv_s0 : s0 < nn π) (hm : Rd_named_28 N rArg rFun π σ x1 s0 = some r) : ext π r.1 ∧ Cl r.1 r.2.1 ∧ r.2.2 < nn r.1 := by
  have hS := hC.1
  rw [Rd_named_28] at hm
  obtain ⟨g8, hm⟩ := grd_s hm
  by_cases c9 : x1 = 2
  · have hm := ite_t c9 hm
    obtain ⟨r21, e22, hm⟩ := obd_s hm
    have q23 := (km_Sc_advance hC e22)
    have hC24 : Cl π r21 := q23
    obtain ⟨r25, e26, hm⟩ := obd_s hm
    have q27 := (km_Rd_wants hmrArg hmrFun hC24 hv_s0 e26)
    have q := km_Rd_named_46 hmrArg hmrFun  q27.2 (lt_ext hv_s0 q27.1) hm
    exact ⟨q27.1.tr q.1, q.2⟩
  · have hm := ite_f c9 hm
    obtain ⟨g10, hm⟩ := grd_s hm
    obtain ⟨g11, hm⟩ := grd_s hm
    obtain ⟨v12, e13, hm⟩ := bnd_s hm
    obtain ⟨σ14, e15, hm⟩ := bnd_s hm
    have hC16 : Cl π σ14 := e15 ▸ (cl_sfR hC _ _ (cl_fl hC (f := 146) rfl 44))
    obtain ⟨r17, e18, hm⟩ := obd_s hm
    have q19 := (km_Sc_advance hC16 e18)
    have hC20 : Cl π r17 := q19
    exact km_Rd_named_76 hmrArg hmrFun N hC20 hv_s0 hm
set_option maxHeartbeats 8000000 in
set_option maxRecDepth 100000 in
theorem km_Rd_named_18 {N : Nat} {rArg : Sh → St → Option (Sh × St × Int)} {rFun : Sh → St → Option (Sh × St × Int)} (hmrArg : ∀ {π : Sh} {σ : St}  {r : Sh × St × Int}, Cl π σ → rArg π σ  = some r → ext π r.1 ∧ Cl r.1 r.2.1) (hmrFun : ∀ {π : Sh} {σ : St}  {r : Sh × St × Int}, Cl π σ → rFun π σ  = some r → ext π r.1 ∧ Cl r.1 r.2.1 ∧ r.2.2 < nn r.1)  {r : Sh × St × Int}  {π : Sh} {σ : St} {x1 : Int} {s0 : Int} {s1 : Int} {s2 : Int} (hC : Cl π σ) (hv_s1 : s1 < nn π) (hv_s2 : s2 < nn π) (hm : Rd_named_18 N rArg rFun π σ x1 s0 s1 s2 = some r) : ext π r.1 ∧ Cl r.1 r.2.1 ∧ r.2.2 < nn r.1 := by
  have hS := hC.1
  rw [Rd_named_18] at hm
  obtain ⟨r4, e5, hm⟩ := obd_s hm
  have q6 := (km_Pc_init hC hv_s1 e5)
  obtain ⟨g7, hm⟩ := grd_s hm
  have q := km_Rd_named_28 hmrArg hmrFun  q6.2 (lt_ext hv_s2 q6.1) hm
  exact ⟨q6.1.tr q.1, q.2⟩
set_option maxHeartbeats 8000000 in
set_option maxRecDepth 100000 in
theorem km_Rd_named_3 {N : Nat} {rArg : Sh → St → Option (Sh × St × Int)} {rFun : Sh → St → Option (Sh × St × Int)} (hmrArg : ∀ {π : Sh} {σ : St}  {r : Sh × St × Int}, Cl π σ → rArg π σ  = some r → ext π r.1 ∧ Cl r.1 r.2.1) (hmrFun : ∀ {π : Sh} {σ : St}  {r : Sh × St × Int}, Cl π σ → rFun π σ  = some r → ext π r.1 ∧ Cl r.1 r.2.1 ∧ r.2.2 < nn r.1)  {r : Sh × St × Int}  {π : Sh} {σ : St} {x1 : Int} {s0 : Int} (hC : Cl π σ) (hv_s0 : s0 < nn π) (hm : Rd_named_3 N rArg rFun π σ x1 s0 = some r) : ext π r.1 ∧ Cl r.1 r.2.1 ∧ r.2.2 < nn r.1 := by
  have hS := hC.1
  rw [Rd_named_3] at hm
  obtain ⟨g2, hm⟩ := grd_s hm
  by_cases c3 : x1 = 2
  · have hm := ite_t c3 hm
    exact km_Rd_named_18 hmrArg hmrFun hC hv_s0 hv_s0 hm
  · have hm := ite_f c3 hm
    exact km_Rd_named_18 hmrArg hmrFun hC hv_s0 hv_s0 hm
set_option maxHeartbeats 8000000 in
set_option maxRecDepth 100000 in
theorem km_Rd_named {N : Nat} {rArg : Sh → St → Option (Sh × St × Int)} {rFun : Sh → St → Option (Sh × St × Int)} (hmrArg : ∀ {π : Sh} {σ : St}  {r : Sh × St × Int}, Cl π σ → rArg π σ  = some r → ext π r.1 ∧ Cl r.1 r.2.1) (hmrFun : ∀ {π : Sh} {σ : St}  {r : Sh × St × Int}, Cl π σ → rFun π σ  = some r → ext π r.1 ∧ Cl r.1 r.2.1 ∧ r.2.2 < nn r.1) {π : Sh} {σ : St} {x1 : Int} {r : Sh × St × Int} (hC : Cl π σ)  (hm : Rd_named N rArg rFun π σ x1 = some r) : ext π r.1 ∧ Cl r.1 r.2.1 ∧ r.2.2 < nn r.1 := by
  have hS := hC.1
  rw [Rd_named] at hm
  have q := km_Rd_named_3 hmrArg hmrFun  ((cl_nO hC (by decide) (by decide) _)) lt_nO hm
  exact ⟨(ext_nO π 6 11).tr q.1, q.2⟩
set_option maxHeartbeats 8000000 in
set_option maxRecDepth 100000 in
theorem km_Rd_app_15 {N : Nat} {rArg : Sh → St → Option (Sh × St × Int)} {rFun : Sh → St → Option (Sh × St × Int)} (hmrArg : ∀ {π : Sh} {σ : St}  {r : Sh × St × Int}, Cl π σ → rArg π σ  = some r → ext π r.1 ∧ Cl r.1 r.2.1) (hmrFun : ∀ {π : Sh} {σ : St}  {r : Sh × St × Int}, Cl π σ → rFun π σ  = some r → ext π r.1 ∧ Cl r.1 r.2.1 ∧ r.2.2 < nn r.1)  {r : Sh × St × Int}  {π : Sh} {σ : St} {s0 : Int} (hC : Cl π σ)  (hm : Rd_app_15 N rArg rFun π σ s0 = some r) : ext π r.1 ∧ Cl r.1 r.2.1 := by
  have hS := hC.1
  rw [Rd_app_15] at hm
  cases hm
  exact ⟨ext.rf _, hC⟩
set_option maxHeartbeats 8000000 in
set_option maxRecDepth 100000 in
theorem km_Rd_app_42 {N : Nat} {rArg : Sh → St → Option (Sh × St × Int)} {rFun : Sh → St → Option (Sh × St × Int)} (hmrArg : ∀ {π : Sh} {σ : St}  {r : Sh × St × Int}, Cl π σ → rArg π σ  = some r → ext π r.1 ∧ Cl r.1 r.2.1) (hmrFun : ∀ {π : Sh} {σ : St}  {r : Sh × St × Int}, Cl π σ → rFun π σ  = some r → ext π r.1 ∧ Cl r.1 r.2.1 ∧ r.2.2 < nn r.1)  {r : Sh × St × Int}  {π : Sh} {σ : St} {s0 : Int} (hC : Cl π σ)  (hm : Rd_app_42 N rArg rFun π σ s0 = some r) : ext π r.1 ∧ Cl r.1 r.2.1 := by
  have hS := hC.1
  rw [Rd_app_42] at hm
  cases hm
  exact ⟨ext.rf _, hC⟩
set_option maxHeartbeats 8000000 in
set_option maxRecDepth 100000 in
theorem km_Rd_app_87 {N : Nat} {rArg : Sh → St → Option (Sh × St × Int)} {rFun : Sh → St → Option (Sh × St × Int)} (hmrArg : ∀ {π : Sh} {σ : St}  {r : Sh × St × Int}, Cl π σ → rArg π σ  = some r → ext π r.1 ∧ Cl r.1 r.2.1) (hmrFun : ∀ {π : Sh} {σ : St}  {r : Sh × St × Int}, Cl π σ → rFun π σ  = some r → ext π r.1 ∧ Cl r.1 r.2.1 ∧ r.2.2 < nn r.1)  {r : Sh × St × Int}  {π : Sh} {σ : St} {s0 : Int} (hC : Cl π σ)  (hm : Rd_app_87 N rArg rFun π σ s0 = some r) : ext π r.1 ∧ Cl r.1 r.2.1 := by
  have hS := hC.1
  rw [Rd_app_87] at hm
  cases hm
  exact ⟨ext.rf _, hC⟩
set_option maxHeartbeats 8000000 in
set_option maxRecDepth 100000 in
theorem km_Rd_app_67 {N : Nat} {rArg : Sh → St → Option (Sh × St × Int)} {rFun : Sh → St → Option (Sh × St × Int)} (hmrArg : ∀ {π : Sh} {σ : St}  {r : Sh × St × Int}, Cl π σ → rArg π σ  = some r → ext π r.1 ∧ Cl r.1 r.2.1) (hmrFun : ∀ {π : Sh} {σ : St}  {r : Sh × St × Int}, Cl π σ → rFun π σ  = some r → ext π r.1 ∧ Cl r.1 r.2.1 ∧ r.2.2 < nn r.1)  {r : Sh × St × Int}  {π : Sh} {σ : St} {x2 : Int} {s0 : Int} (hC : Cl π σ) (hv_x2 : x2 < nn π) (hm : Rd_app_67 N rArg rFun π σ x2 s0 = some r) : ext π r.1 ∧ Cl r.1 r.2.1 := by
  have hS := hC.1
  rw [Rd_app_67] at hm
  obtain ⟨g24, hm⟩ := grd_s hm
  by_cases c25 : (fl σ 182 1) = 0
  · have hm := ite_t c25 hm
    obtain ⟨r26, e27, hm⟩ := obd_s hm
    have q28 := (km_Pc_applyC hC hv_x2 (cl_fl hC (f := 144) rfl 44) e27)
    obtain ⟨g29, hm⟩ := grd_s hm
    have q := km_Rd_app_87 hmrArg hmrFun  q28.2  hm
    exact ⟨q28.1.tr q.1, q.2⟩
  · have hm := ite_f c25 hm
    cases hm
    exact ⟨ext.rf _, hC⟩
set_option maxHeartbeats 8000000 in
set_option maxRecDepth 100000 in
theorem km_Rd_app_63 {N : Nat} {rArg : Sh → St → Option (Sh × St × Int)} {rFun : Sh → St → Option (Sh × St × Int)} (hmrArg : ∀ {π : Sh} {σ : St}  {r : Sh × St × Int}, Cl π σ → rArg π σ  = some r → ext π r.1 ∧ Cl r.1 r.2.1) (hmrFun : ∀ {π : Sh} {σ : St}  {r : Sh × St × Int}, Cl π σ → rFun π σ  = some r → ext π r.1 ∧ Cl r.1 r.2.1 ∧ r.2.2 < nn r.1)  {r : Sh × St × Int}  {π : Sh} {σ : St} {x2 : Int} {s0 : Int} (hC : Cl π σ) (hv_x2 : x2 < nn π) (hm : Rd_app_63 N rArg rFun π σ x2 s0 = some r) : ext π r.1 ∧ Cl r.1 r.2.1 := by
  have hS := hC.1
  rw [Rd_app_63] at hm
  exact km_Rd_app_67 hmrArg hmrFun hC hv_x2 hm
set_option maxHeartbeats 8000000 in
set_option maxRecDepth 100000 in
theorem km_Rd_app_48 {N : Nat} {rArg : Sh → St → Option (Sh × St × Int)} {rFun : Sh → St → Option (Sh × St × Int)} (hmrArg : ∀ {π : Sh} {σ : St}  {r : Sh × St × Int}, Cl π σ → rArg π σ  = some r → ext π r.1 ∧ Cl r.1 r.2.1) (hmrFun : ∀ {π : Sh} {σ : St}  {r : Sh × St × Int}, Cl π σ → rFun π σ  = some r → ext π r.1 ∧ Cl r.1 r.2.1 ∧ r.2.2 < nn r.1)  {r : Sh × St × Int}  {π : Sh} {σ : St} {s0 : Int} (hC : Cl π σ) (hv_s0 : s0 < nn π) (hm : Rd_app_48 N rArg rFun π σ s0 = some r) : ext π r.1 ∧ Cl r.1 r.2.1 := by
  have hS := hC.1
  rw [Rd_app_48] at hm
  obtain ⟨g19, hm⟩ := grd_s hm
  by_cases c20 : (fl σ 182 1) = 0
  · have hm := ite_t c20 hm
    obtain ⟨r21, e22, hm⟩ := obd_s hm
    have q23 := (hmrArg hC e22)
    have q := km_Rd_app_63 hmrArg hmrFun  q23.2 (lt_ext hv_s0 q23.1) hm
    exact ⟨q23.1.tr q.1, q.2⟩
  · have hm := ite_f c20 hm
    exact km_Rd_app_67 hmrArg hmrFun hC hv_s0 hm
set_option maxHeartbeats 8000000 in
set_option maxRecDepth 100000 in
theorem km_Rd_app_43 {N : Nat} {rArg : Sh → St → Option (Sh × St × Int)} {rFun : Sh → St → Option (Sh × St × Int)} (hmrArg : ∀ {π : Sh} {σ : St}  {r : Sh × St × Int}, Cl π σ → rArg π σ  = some r → ext π r.1 ∧ Cl r.1 r.2.1) (hmrFun : ∀ {π : Sh} {σ : St}  {r : Sh × St × Int}, Cl π σ → rFun π σ  = some r → ext π r.1 ∧ Cl r.1 r.2.1 ∧ r.2.2 < nn r.1)  {r : Sh × St × Int}  {π : Sh} {σ : St} {x1 : Int} (hC : Cl π σ)  (hm : Rd_app_43 N rArg rFun π σ x1 = some r) : ext π r.1 ∧ Cl r.1 r.2.1 := by
  have hS := hC.1
  rw [Rd_app_43] at hm
  obtain ⟨r16, e17, hm⟩ := obd_s hm
  have q18 := (km_Rd_named hmrArg hmrFun hC e17)
  have q := km_Rd_app_48 hmrArg hmrFun  q18.2.1 q18.2.2 hm
  exact ⟨q18.1.tr q.1, q.2⟩
set_option maxHeartbeats 8000000 in
set_option maxRecDepth 100000 in
theorem km_Rd_app {N : Nat} {rArg : Sh → St → Option (Sh × St × Int)} {rFun : Sh → St → Option (Sh × St × Int)} (hmrArg : ∀ {π : Sh} {σ : St}  {r : Sh × St × Int}, Cl π σ → rArg π σ  = some r → ext π r.1 ∧ Cl r.1 r.2.1) (hmrFun : ∀ {π : Sh} {σ : St}  {r : Sh × St × Int}, Cl π σ → rFun π σ  = some r → ext π r.1 ∧ Cl r.1 r.2.1 ∧ r.2.2 < nn r.1) {π : Sh} {σ : St}  {r : Sh × St × Int} (hC : Cl π σ)  (hm : Rd_app N rArg rFun π σ  = some r) : ext π r.1 ∧ Cl r.1 r.2.1 := by
  have hS := hC.1
  rw [Rd_app] at hm
  obtain ⟨g1, hm⟩ := grd_s hm
  by_cases c2 : (fl σ 185 1) = 1
  · have hm := ite_t c2 hm
    obtain ⟨r3, e4, hm⟩ := obd_s hm
    have q5 := (km_Rd_kindOf hC e4)
    have hC6 : Cl π r3.1 := q5
    obtain ⟨g7, hm⟩ := grd_s hm
    by_cases c8 : r3.2 = 2
    · have hm := ite_t c8 hm
      exact km_Rd_app_43 hmrArg hmrFun hC6 hm
    · have hm := ite_f c8 hm
      by_cases c9 : r3.2 = 4
      · have hm := ite_t c9 hm
        exact km_Rd_app_43 hmrArg hmrFun hC6 hm
      · have hm := ite_f c9 hm
        obtain ⟨r10, e11, hm⟩ := obd_s hm
        have q12 := (hmrArg hC6 e11)
        have q := km_Rd_app_42 hmrArg hmrFun  q12.2  hm
        exact ⟨q12.1.tr q.1, q.2⟩
  · have hm := ite_f c2 hm
    obtain ⟨r13, e14, hm⟩ := obd_s hm
    have q15 := (hmrArg hC e14)
    have q := km_Rd_app_15 hmrArg hmrFun  q15.2  hm
    exact ⟨q15.1.tr q.1, q.2⟩
set_option maxHeartbeats 8000000 in
set_option maxRecDepth 100000 in
theorem km_Rd_sum_90 {N : Nat} {rArg : Sh → St → Option (Sh × St × Int)} {rFun : Sh → St → Option (Sh × St × Int)} (hmrArg : ∀ {π : Sh} {σ : St}  {r : Sh × St × Int}, Cl π σ → rArg π σ  = some r → ext π r.1 ∧ Cl r.1 r.2.1) (hmrFun : ∀ {π : Sh} {σ : St}  {r : Sh × St × Int}, Cl π σ → rFun π σ  = some r → ext π r.1 ∧ Cl r.1 r.2.1 ∧ r.2.2 < nn r.1)  {r : Sh × St × Int} {rec7 : Sh → St → Int → Int → Option (Sh × St × Int)} (krec7 : ∀ {π : Sh} {σ : St} {x1 : Int} {x2 : Int}, Cl π σ → rec7 π σ x1 x2 = some r → ext π r.1 ∧ Cl r.1 r.2.1) {π : Sh} {σ : St} {x2 : Int} {s0 : Int} (hC : Cl π σ)  (hm : Rd_sum_90 N rArg rFun rec7 π σ x2 s0 = some r) : ext π r.1 ∧ Cl r.1 r.2.1 := by
  have hS := hC.1
  rw [Rd_sum_90] at hm
  exact krec7 hC  hm
set_option maxHeartbeats 8000000 in
set_option maxRecDepth 100000 in
theorem km_Rd_sum_81 {N : Nat} {rArg : Sh → St → Option (Sh × St × Int)} {rFun : Sh → St → Option (Sh × St × Int)} (hmrArg : ∀ {π : Sh} {σ : St}  {r : Sh × St × Int}, Cl π σ → rArg π σ  = some r → ext π r.1 ∧ Cl r.1 r.2.1) (hmrFun : ∀ {π : Sh} {σ : St}  {r : Sh × St × Int}, Cl π σ → rFun π σ  = some r → ext π r.1 ∧ Cl r.1 r.2.1 ∧ r.2.2 < nn r.1)  {r : Sh × St × Int} {rec7 : Sh → St → Int → Int → Option (Sh × St × Int)} (krec7 : ∀ {π : Sh} {σ : St} {x1 : Int} {x2 : Int}, Cl π σ → rec7 π σ x1 x2 = some r → ext π r.1 ∧ Cl r.1 r.2.1) {π : Sh} {σ : St} {x2 : Int} {x3 : Int} {s0 : Int} (hC : Cl π σ) (hv_x3 : x3 < nn π) (hv_s0 : s0 < nn π) (hm : Rd_sum_81 N rArg rFun rec7 π σ x2 x3 s0 = some r) : ext π r.1 ∧ Cl r.1 r.2.1 := by
  have hS := hC.1
  rw [Rd_sum_81] at hm
  obtain ⟨r32, e33, hm⟩ := obd_s hm
  have q34 := (km_Df_add hC (cl_fl hC (f := 144) rfl 44) hv_x3 e33)
  obtain ⟨g35, hm⟩ := grd_s hm
  have q := km_Rd_sum_90 hmrArg hmrFun krec7 q34.2  hm
  exact ⟨q34.1.tr q.1, q.2⟩
set_option maxHeartbeats 8000000 in
set_option maxRecDepth 100000 in
theorem km_Rd_sum_78 {N : Nat} {rArg : Sh → St → Option (Sh × St × Int)} {rFun : Sh → St → Option (Sh × St × Int)} (hmrArg : ∀ {π : Sh} {σ : St}  {r : Sh × St × Int}, Cl π σ → rArg π σ  = some r → ext π r.1 ∧ Cl r.1 r.2.1) (hmrFun : ∀ {π : Sh} {σ : St}  {r : Sh × St × Int}, Cl π σ → rFun π σ  = some r → ext π r.1 ∧ Cl r.1 r.2.1 ∧ r.2.2 < nn r.1)  {r : Sh × St × Int} {rec7 : Sh → St → Int → Int → Option (Sh × St × Int)} (krec7 : ∀ {π : Sh} {σ : St} {x1 : Int} {x2 : Int}, Cl π σ → rec7 π σ x1 x2 = some r → ext π r.1 ∧ Cl r.1 r.2.1) {π : Sh} {σ : St} {x2 : Int} {x3 : Int} {s0 : Int} {s1 : Int} (hC : Cl π σ) (hv_x3 : x3 < nn π) (hv_s1 : s1 < nn π) (hm : Rd_sum_78 N rArg rFun rec7 π σ x2 x3 s0 s1 = some r) : ext π r.1 ∧ Cl r.1 r.2.1 := by
  have hS := hC.1
  rw [Rd_sum_78] at hm
  obtain ⟨r28, e29, hm⟩ := obd_s hm
  have q30 := (km_Sp_give hC hv_s1 e29)
  obtain ⟨g31, hm⟩ := grd_s hm
  have q := km_Rd_sum_81 hmrArg hmrFun krec7 q30.2.1 (lt_ext hv_x3 q30.1) q30.2.2 hm
  exact ⟨q30.1.tr q.1, q.2⟩
set_option maxHeartbeats 8000000 in
set_option maxRecDepth 100000 in
theorem km_Rd_sum_74 {N : Nat} {rArg : Sh → St → Option (Sh × St × Int)} {rFun : Sh → St → Option (Sh × St × Int)} (hmrArg : ∀ {π : Sh} {σ : St}  {r : Sh × St × Int}, Cl π σ → rArg π σ  = some r → ext π r.1 ∧ Cl r.1 r.2.1) (hmrFun : ∀ {π : Sh} {σ : St}  {r : Sh × St × Int}, Cl π σ → rFun π σ  = some r → ext π r.1 ∧ Cl r.1 r.2.1 ∧ r.2.2 < nn r.1)  {r : Sh × St × Int} {rec7 : Sh → St → Int → Int → Option (Sh × St × Int)} (krec7 : ∀ {π : Sh} {σ : St} {x1 : Int} {x2 : Int}, Cl π σ → rec7 π σ x1 x2 = some r → ext π r.1 ∧ Cl r.1 r.2.1) {π : Sh} {σ : St} {x2 : Int} {x3 : Int} {s0 : Int} (hC : Cl π σ) (hv_x3 : x3 < nn π) (hv_s0 : s0 < nn π) (hm : Rd_sum_74 N rArg rFun rec7 π σ x2 x3 s0 = some r) : ext π r.1 ∧ Cl r.1 r.2.1 := by
  have hS := hC.1
  rw [Rd_sum_74] at hm
  obtain ⟨r25, e26, hm⟩ := obd_s hm
  have q27 := (km_Rd_app hmrArg hmrFun hC e26)
  have q := km_Rd_sum_78 hmrArg hmrFun krec7 q27.2 (lt_ext hv_x3 q27.1) (lt_ext hv_s0 q27.1) hm
  exact ⟨q27.1.tr q.1, q.2⟩
set_option maxHeartbeats 8000000 in
set_option maxRecDepth 100000 in
theorem km_Rd_sum_61 {N : Nat} {rArg : Sh → St → Option (Sh × St × Int)} {rFun : Sh → St → Option (Sh × St × Int)} (hmrArg : ∀ {π : Sh} {σ : St}  {r : Sh × St × Int}, Cl π σ → rArg π σ  = some r → ext π r.1 ∧ Cl r.1 r.2.1) (hmrFun : ∀ {π : Sh} {σ : St}  {r : Sh × St × Int}, Cl π σ → rFun π σ  = some r → ext π r.1 ∧ Cl r.1 r.2.1 ∧ r.2.2 < nn r.1)  {r : Sh × St × Int} {rec7 : Sh → St → Int → Int → Option (Sh × St × Int)} (krec7 : ∀ {π : Sh} {σ : St} {x1 : Int} {x2 : Int}, Cl π σ → rec7 π σ x1 x2 = some r → ext π r.1 ∧ Cl r.1 r.2.1) {π : Sh} {σ : St} {x1 : Int} {x2 : Int} {s0 : Int} (hC : Cl π σ) (hv_s0 : s0 < nn π) (hm : Rd_sum_61 N rArg rFun rec7 π σ x1 x2 s0 = some r) : ext π r.1 ∧ Cl r.1 r.2.1 := by
  have hS := hC.1
  rw [Rd_sum_61] at hm
  obtain ⟨r17, e18, hm⟩ := obd_s hm
  have q19 := (km_Sc_advance hC e18)
  have hC20 : Cl π r17 := q19
  obtain ⟨r21, e22, hm⟩ := obd_s hm
  have q23 := (km_Sp_give hC20 hv_s0 e22)
  obtain ⟨g24, hm⟩ := grd_s hm
  have q := km_Rd_sum_74 hmrArg hmrFun krec7 q23.2.1 (lt_ext hv_s0 q23.1) q23.2.2 hm
  exact ⟨q23.1.tr q.1, q.2⟩
set_option maxHeartbeats 8000000 in
set_option maxRecDepth 100000 in
theorem km_Rd_sum_40 {N : Nat} {rArg : Sh → St → Option (Sh × St × Int)} {rFun : Sh → St → Option (Sh × St × Int)} (hmrArg : ∀ {π : Sh} {σ : St}  {r : Sh × St × Int}, Cl π σ → rArg π σ  = some r → ext π r.1 ∧ Cl r.1 r.2.1) (hmrFun : ∀ {π : Sh} {σ : St}  {r : Sh × St × Int}, Cl π σ → rFun π σ  = some r → ext π r.1 ∧ Cl r.1 r.2.1 ∧ r.2.2 < nn r.1)  {r : Sh × St × Int} {rec7 : Sh → St → Int → Int → Option (Sh × St × Int)} (krec7 : ∀ {π : Sh} {σ : St} {x1 : Int} {x2 : Int}, Cl π σ → rec7 π σ x1 x2 = some r → ext π r.1 ∧ Cl r.1 r.2.1) {π : Sh} {σ : St} {x1 : Int} {x2 : Int} {s0 : Int} (hC : Cl π σ) (hv_s0 : s0 < nn π) (hm : Rd_sum_40 N rArg rFun rec7 π σ x1 x2 s0 = some r) : ext π r.1 ∧ Cl r.1 r.2.1 := by
  have hS := hC.1
  rw [Rd_sum_40] at hm
  obtain ⟨r13, e14, hm⟩ := obd_s hm
  have q15 := (km_Sp_initB hC hv_s0 e14)
  obtain ⟨g16, hm⟩ := grd_s hm
  have q := km_Rd_sum_61 hmrArg hmrFun krec7 q15.2 (lt_ext hv_s0 q15.1) hm
  exact ⟨q15.1.tr q.1, q.2⟩
set_option maxHeartbeats 8000000 in
set_option maxRecDepth 100000 in
theorem km_Rd_sum_7 {N : Nat} {rArg : Sh → St → Option (Sh × St × Int)} {rFun : Sh → St → Option (Sh × St × Int)} (hmrArg : ∀ {π : Sh} {σ : St}  {r : Sh × St × Int}, Cl π σ → rArg π σ  = some r → ext π r.1 ∧ Cl r.1 r.2.1) (hmrFun : ∀ {π : Sh} {σ : St}  {r : Sh × St × Int}, Cl π σ → rFun π σ  = some r → ext π r.1 ∧ Cl r.1 r.2.1 ∧ r.2.2 < nn r.1)  {r : Sh × St × Int}  (n : Nat) : ∀ {π : Sh} {σ : St} {x1 : Int} {x2 : Int}, Cl π σ → Rd_sum_7 N rArg rFun n π σ x1 x2 = some r → ext π r.1 ∧ Cl r.1 r.2.1 := by
  induction n with
  | zero => intro π σ x1 x2 hC  hm; cases (show none = some r from hm)
  | succ n krec7 =>
    intro π σ x1 x2 hC  hm
    have hS := hC.1
    rw [Rd_sum_7] at hm
    obtain ⟨g4, hm⟩ := grd_s hm
    by_cases c5 : x2 < 2000
    · have hm := ite_t c5 hm
      obtain ⟨g6, hm⟩ := grd_s hm
      by_cases c7 : (fl σ 182 1) = 0
      · have hm := ite_t c7 hm
        obtain ⟨r8, e9, hm⟩ := obd_s hm
        obtain ⟨g10, hm⟩ := grd_s hm
        by_cases c11 : r8 = 0
        · have hm := ite_t c11 hm
          cases hm
          exact ⟨ext.rf _, hC⟩
        · have hm := ite_f c11 hm
          have q := km_Rd_sum_40 hmrArg hmrFun krec7 ((cl_nO hC (by decide) (by decide) _)) lt_nO hm
          exact ⟨(ext_nO π 10 14).tr q.1, q.2⟩
      · have hm := ite_f c7 hm
        cases hm
        exact ⟨ext.rf _, hC⟩
    · have hm := ite_f c5 hm
      cases hm
      exact ⟨ext.rf _, hC⟩
set_option maxHeartbeats 8000000 in
set_option maxRecDepth 100000 in
theorem km_Rd_sum_4 {N : Nat} {rArg : Sh → St → Option (Sh × St × Int)} {rFun : Sh → St → Option (Sh × St × Int)} (hmrArg : ∀ {π : Sh} {σ : St}  {r : Sh × St × Int}, Cl π σ → rArg π σ  = some r → ext π r.1 ∧ Cl r.1 r.2.1) (hmrFun : ∀ {π : Sh} {σ : St}  {r : Sh × St × Int}, Cl π σ → rFun π σ  = some r → ext π r.1 ∧ Cl r.1 r.2.1 ∧ r.2.2 < nn r.1)  {r : Sh × St × Int}  {π : Sh} {σ : St} {s0 : Int} (hC : Cl π σ)  (hm : Rd_sum_4 N rArg rFun π σ s0 = some r) : ext π r.1 ∧ Cl r.1 r.2.1 := by
  have hS := hC.1
  rw [Rd_sum_4] at hm
  exact km_Rd_sum_7 hmrArg hmrFun N hC hm
set_option maxHeartbeats 8000000 in
set_option maxRecDepth 100000 in
theorem km_Rd_sum {N : Nat} {rArg : Sh → St → Option (Sh × St × Int)} {rFun : Sh → St → Option (Sh × St × Int)} (hmrArg : ∀ {π : Sh} {σ : St}  {r : Sh × St × Int}, Cl π σ → rArg π σ  = some r → ext π r.1 ∧ Cl r.1 r.2.1) (hmrFun : ∀ {π : Sh} {σ : St}  {r : Sh × St × Int}, Cl π σ → rFun π σ  = some r → ext π r.1 ∧ Cl r.1 r.2.1 ∧ r.2.2 < nn r.1) {π : Sh} {σ : St}  {r : Sh × St × Int} (hC : Cl π σ)  (hm : Rd_sum N rArg rFun π σ  = some r) : ext π r.1 ∧ Cl r.1 r.2.1 := by
  have hS := hC.1
  rw [Rd_sum] at hm
  obtain ⟨r1, e2, hm⟩ := obd_s hm
  have q3 := (km_Rd_app hmrArg hmrFun hC e2)
  have q := km_Rd_sum_4 hmrArg hmrFun  q3.2  hm
  exact ⟨q3.1.tr q.1, q.2⟩
set_option maxHeartbeats 8000000 in
set_option maxRecDepth 100000 in
theorem km_Rd_cat_105 {N : Nat} {rArg : Sh → St → Option (Sh × St × Int)} {rFun : Sh → St → Option (Sh × St × Int)} (hmrArg : ∀ {π : Sh} {σ : St}  {r : Sh × St × Int}, Cl π σ → rArg π σ  = some r → ext π r.1 ∧ Cl r.1 r.2.1) (hmrFun : ∀ {π : Sh} {σ : St}  {r : Sh × St × Int}, Cl π σ → rFun π σ  = some r → ext π r.1 ∧ Cl r.1 r.2.1 ∧ r.2.2 < nn r.1)  {r : Sh × St × Int} {rec59 : Sh → St → Int → Int → Option (Sh × St × Int)} (krec59 : ∀ {π : Sh} {σ : St} {x2 : Int} {x3 : Int}, Cl π σ → x2 < nn π → rec59 π σ x2 x3 = some r → ext π r.1 ∧ Cl r.1 r.2.1) {π : Sh} {σ : St} {x2 : Int} {x3 : Int} (hC : Cl π σ) (hv_x2 : x2 < nn π) (hm : Rd_cat_105 N rArg rFun rec59 π σ x2 x3 = some r) : ext π r.1 ∧ Cl r.1 r.2.1 := by
  have hS := hC.1
  rw [Rd_cat_105] at hm
  exact krec59 hC hv_x2 hm
set_option maxHeartbeats 8000000 in
set_option maxRecDepth 100000 in
theorem km_Rd_cat_100 {N : Nat} {rArg : Sh → St → Option (Sh × St × Int)} {rFun : Sh → St → Option (Sh × St × Int)} (hmrArg : ∀ {π : Sh} {σ : St}  {r : Sh × St × Int}, Cl π σ → rArg π σ  = some r → ext π r.1 ∧ Cl r.1 r.2.1) (hmrFun : ∀ {π : Sh} {σ : St}  {r : Sh × St × Int}, Cl π σ → rFun π σ  = some r → ext π r.1 ∧ Cl r.1 r.2.1 ∧ r.2.2 < nn r.1)  {r : Sh × St × Int} {rec59 : Sh → St → Int → Int → Option (Sh × St × Int)} (krec59 : ∀ {π : Sh} {σ : St} {x2 : Int} {x3 : Int}, Cl π σ → x2 < nn π → rec59 π σ x2 x3 = some r → ext π r.1 ∧ Cl r.1 r.2.1) {π : Sh} {σ : St} {x2 : Int} {x3 : Int} {s0 : Int} {s1 : Int} (hC : Cl π σ) (hv_x2 : x2 < nn π) (hv_s1 : s1 < nn π) (hm : Rd_cat_100 N rArg rFun rec59 π σ x2 x3 s0 s1 = some r) : ext π r.1 ∧ Cl r.1 r.2.1 := by
  have hS := hC.1
  rw [Rd_cat_100] at hm
  obtain ⟨r37, e38, hm⟩ := obd_s hm
  have q39 := (km_Sp_giveWeighted hC hv_s1 e38)
  obtain ⟨g40, hm⟩ := grd_s hm
  have q := km_Rd_cat_105 hmrArg hmrFun krec59 q39.2 (lt_ext hv_x2 q39.1) hm
  exact ⟨q39.1.tr q.1, q.2⟩
set_option maxHeartbeats 8000000 in
set_option maxRecDepth 100000 in
theorem km_Rd_cat_119 {N : Nat} {rArg : Sh → St → Option (Sh × St × Int)} {rFun : Sh → St → Option (Sh × St × Int)} (hmrArg : ∀ {π : Sh} {σ : St}  {r : Sh × St × Int}, Cl π σ → rArg π σ  = some r → ext π r.1 ∧ Cl r.1 r.2.1) (hmrFun : ∀ {π : Sh} {σ : St}  {r : Sh × St × Int}, Cl π σ → rFun π σ  = some r → ext π r.1 ∧ Cl r.1 r.2.1 ∧ r.2.2 < nn r.1)  {r : Sh × St × Int}  {π : Sh} {σ : St} {s0 : Int} (hC : Cl π σ)  (hm : Rd_cat_119 N rArg rFun π σ s0 = some r) : ext π r.1 ∧ Cl r.1 r.2.1 := by
  have hS := hC.1
  rw [Rd_cat_119] at hm
  cases hm
  exact ⟨ext.rf _, hC⟩
set_option maxHeartbeats 8000000 in
set_option maxRecDepth 100000 in
theorem km_Rd_cat_111 {N : Nat} {rArg : Sh → St → Option (Sh × St × Int)} {rFun : Sh → St → Option (Sh × St × Int)} (hmrArg : ∀ {π : Sh} {σ : St}  {r : Sh × St × Int}, Cl π σ → rArg π σ  = some r → ext π r.1 ∧ Cl r.1 r.2.1) (hmrFun : ∀ {π : Sh} {σ : St}  {r : Sh × St × Int}, Cl π σ → rFun π σ  = some r → ext π r.1 ∧ Cl r.1 r.2.1 ∧ r.2.2 < nn r.1)  {r : Sh × St × Int}  {π : Sh} {σ : St} {x2 : Int} (hC : Cl π σ) (hv_x2 : x2 < nn π) (hm : Rd_cat_111 N rArg rFun π σ x2 = some r) : ext π r.1 ∧ Cl r.1 r.2.1 := by
  have hS := hC.1
  rw [Rd_cat_111] at hm
  obtain ⟨r33, e34, hm⟩ := obd_s hm
  have q35 := (km_Df_add hC (cl_fl hC (f := 144) rfl 44) hv_x2 e34)
  obtain ⟨g36, hm⟩ := grd_s hm
  have q := km_Rd_cat_119 hmrArg hmrFun  q35.2  hm
  exact ⟨q35.1.tr q.1, q.2⟩
set_option maxHeartbeats 8000000 in
set_option maxRecDepth 100000 in
theorem km_Rd_cat_59 {N : Nat} {rArg : Sh → St → Option (Sh × St × Int)} {rFun : Sh → St → Option (Sh × St × Int)} (hmrArg : ∀ {π : Sh} {σ : St}  {r : Sh × St × Int}, Cl π σ → rArg π σ  = some r → ext π r.1 ∧ Cl r.1 r.2.1) (hmrFun : ∀ {π : Sh} {σ : St}  {r : Sh × St × Int}, Cl π σ → rFun π σ  = some r → ext π r.1 ∧ Cl r.1 r.2.1 ∧ r.2.2 < nn r.1)  {r : Sh × St × Int}  (n : Nat) : ∀ {π : Sh} {σ : St} {x2 : Int} {x3 : Int}, Cl π σ → x2 < nn π → Rd_cat_59 N rArg rFun n π σ x2 x3 = some r → ext π r.1 ∧ Cl r.1 r.2.1 := by
  induction n with
  | zero => intro π σ x2 x3 hC hv_x2 hm; cases (show none = some r from hm)
  | succ n krec59 =>
    intro π σ x2 x3 hC hv_x2 hm
    have hS := hC.1
    rw [Rd_cat_59] at hm
    obtain ⟨g20, hm⟩ := grd_s hm
    by_cases c21 : x3 < 2000
    · have hm := ite_t c21 hm
      obtain ⟨g22, hm⟩ := grd_s hm
      by_cases c23 : (fl σ 182 1) = 0
      · have hm := ite_t c23 hm
        obtain ⟨g24, hm⟩ := grd_s hm
        by_cases c25 : (fl σ 185 1) = 59
        · have hm := ite_t c25 hm
          obtain ⟨r26, e27, hm⟩ := obd_s hm
          have q28 := (km_Sc_advance hC e27)
          have hC29 : Cl π r26 := q28
          obtain ⟨r30, e31, hm⟩ := obd_s hm
          have q32 := (km_Rd_sum hmrArg hmrFun hC29 e31)
          have q := km_Rd_cat_100 hmrArg hmrFun krec59 q32.2 (lt_ext hv_x2 q32.1) (lt_ext hv_x2 q32.1) hm
          exact ⟨q32.1.tr q.1, q.2⟩
        · have hm := ite_f c25 hm
          exact km_Rd_cat_111 hmrArg hmrFun hC hv_x2 hm
      · have hm := ite_f c23 hm
        exact km_Rd_cat_111 hmrArg hmrFun hC hv_x2 hm
    · have hm := ite_f c21 hm
      exact km_Rd_cat_111 hmrArg hmrFun hC hv_x2 hm
set_option maxHeartbeats 8000000 in
set_option maxRecDepth 100000 in
theorem km_Rd_cat_57 {N : Nat} {rArg : Sh → St → Option (Sh × St × Int)} {rFun : Sh → St → Option (Sh × St × Int)} (hmrArg : ∀ {π : Sh} {σ : St}  {r : Sh × St × Int}, Cl π σ → rArg π σ  = some r → ext π r.1 ∧ Cl r.1 r.2.1) (hmrFun : ∀ {π : Sh} {σ : St}  {r : Sh × St × Int}, Cl π σ → rFun π σ  = some r → ext π r.1 ∧ Cl r.1 r.2.1 ∧ r.2.2 < nn r.1)  {r : Sh × St × Int}  {π : Sh} {σ : St} {x2 : Int} (hC : Cl π σ) (hv_x2 : x2 < nn π) (hm : Rd_cat_57 N rArg rFun π σ x2 = some r) : ext π r.1 ∧ Cl r.1 r.2.1 := by
  have hS := hC.1
  rw [Rd_cat_57] at hm
  exact km_Rd_cat_59 hmrArg hmrFun N hC hv_x2 hm
set_option maxHeartbeats 8000000 in
set_option maxRecDepth 100000 in
theorem km_Rd_cat_44 {N : Nat} {rArg : Sh → St → Option (Sh × St × Int)} {rFun : Sh → St → Option (Sh × St × Int)} (hmrArg : ∀ {π : Sh} {σ : St}  {r : Sh × St × Int}, Cl π σ → rArg π σ  = some r → ext π r.1 ∧ Cl r.1 r.2.1) (hmrFun : ∀ {π : Sh} {σ : St}  {r : Sh × St × Int}, Cl π σ → rFun π σ  = some r → ext π r.1 ∧ Cl r.1 r.2.1 ∧ r.2.2 < nn r.1)  {r : Sh × St × Int}  {π : Sh} {σ : St} {x1 : Int} {s0 : Int} (hC : Cl π σ) (hv_s0 : s0 < nn π) (hm : Rd_cat_44 N rArg rFun π σ x1 s0 = some r) : ext π r.1 ∧ Cl r.1 r.2.1 := by
  have hS := hC.1
  rw [Rd_cat_44] at hm
  obtain ⟨g13, hm⟩ := grd_s hm
  obtain ⟨σ14, e15, hm⟩ := bnd_s hm
  have hC16 : Cl π σ14 := e15 ▸ (cl_sfI hC (f := 206) rfl _ _)
  obtain ⟨r17, e18, hm⟩ := obd_s hm
  have q19 := (km_Sp_giveWeighted hC16 hv_s0 e18)
  have q := km_Rd_cat_57 hmrArg hmrFun  q19.2 (lt_ext hv_s0 q19.1) hm
  exact ⟨q19.1.tr q.1, q.2⟩
set_option maxHeartbeats 8000000 in
set_option maxRecDepth 100000 in
theorem km_Rd_cat_32 {N : Nat} {rArg : Sh → St → Option (Sh × St × Int)} {rFun : Sh → St → Option (Sh × St × Int)} (hmrArg : ∀ {π : Sh} {σ : St}  {r : Sh × St × Int}, Cl π σ → rArg π σ  = some r → ext π r.1 ∧ Cl r.1 r.2.1) (hmrFun : ∀ {π : Sh} {σ : St}  {r : Sh × St × Int}, Cl π σ → rFun π σ  = some r → ext π r.1 ∧ Cl r.1 r.2.1 ∧ r.2.2 < nn r.1)  {r : Sh × St × Int}  {π : Sh} {σ : St} {x1 : Int} {s0 : Int} (hC : Cl π σ) (hv_s0 : s0 < nn π) (hm : Rd_cat_32 N rArg rFun π σ x1 s0 = some r) : ext π r.1 ∧ Cl r.1 r.2.1 := by
  have hS := hC.1
  rw [Rd_cat_32] at hm
  obtain ⟨r9, e10, hm⟩ := obd_s hm
  have q11 := (km_Sp_init hC hv_s0 e10)
  obtain ⟨g12, hm⟩ := grd_s hm
  have q := km_Rd_cat_44 hmrArg hmrFun  q11.2 (lt_ext hv_s0 q11.1) hm
  exact ⟨q11.1.tr q.1, q.2⟩
set_option maxHeartbeats 8000000 in
set_option maxRecDepth 100000 in
theorem km_Rd_cat_4 {N : Nat} {rArg : Sh → St → Option (Sh × St × Int)} {rFun : Sh → St → Option (Sh × St × Int)} (hmrArg : ∀ {π : Sh} {σ : St}  {r : Sh × St × Int}, Cl π σ → rArg π σ  = some r → ext π r.1 ∧ Cl r.1 r.2.1) (hmrFun : ∀ {π : Sh} {σ : St}  {r : Sh × St × Int}, Cl π σ → rFun π σ  = some r → ext π r.1 ∧ Cl r.1 r.2.1 ∧ r.2.2 < nn r.1)  {r : Sh × St × Int}  {π : Sh} {σ : St} {s0 : Int} (hC : Cl π σ)  (hm : Rd_cat_4 N rArg rFun π σ s0 = some r) : ext π r.1 ∧ Cl r.1 r.2.1 := by
  have hS := hC.1
  rw [Rd_cat_4] at hm
  obtain ⟨g4, hm⟩ := grd_s hm
  by_cases c5 : (fl σ 182 1) = 0
  · have hm := ite_t c5 hm
    obtain ⟨g6, hm⟩ := grd_s hm
    by_cases c7 : (fl σ 185 1) = 59
    · have hm := ite_t c7 hm
      have q := km_Rd_cat_32 hmrArg hmrFun  ((cl_nO hC (by decide) (by decide) _)) lt_nO hm
      exact ⟨(ext_nO π 10 14).tr q.1, q.2⟩
    · have hm := ite_f c7 hm
      cases hm
      exact ⟨ext.rf _, hC⟩
  · have hm := ite_f c5 hm
    cases hm
    exact ⟨ext.rf _, hC⟩
set_option maxHeartbeats 8000000 in
set_option maxRecDepth 100000 in
theorem km_Rd_cat {N : Nat} {rArg : Sh → St → Option (Sh × St × Int)} {rFun : Sh → St → Option (Sh × St × Int)} (hmrArg : ∀ {π : Sh} {σ : St}  {r : Sh × St × Int}, Cl π σ → rArg π σ  = some r → ext π r.1 ∧ Cl r.1 r.2.1) (hmrFun : ∀ {π : Sh} {σ : St}  {r : Sh × St × Int}, Cl π σ → rFun π σ  = some r → ext π r.1 ∧ Cl r.1 r.2.1 ∧ r.2.2 < nn r.1) {π : Sh} {σ : St}  {r : Sh × St × Int} (hC : Cl π σ)  (hm : Rd_cat N rArg rFun π σ  = some r) : ext π r.1 ∧ Cl r.1 r.2.1 := by
  have hS := hC.1
  rw [Rd_cat] at hm
  obtain ⟨r1, e2, hm⟩ := obd_s hm
  have q3 := (km_Rd_sum hmrArg hmrFun hC e2)
  have q := km_Rd_cat_4 hmrArg hmrFun  q3.2  hm
  exact ⟨q3.1.tr q.1, q.2⟩
set_option maxHeartbeats 8000000 in
set_option maxRecDepth 100000 in
theorem km_Rd_exp_103 {N : Nat} {rArg : Sh → St → Option (Sh × St × Int)} {rFun : Sh → St → Option (Sh × St × Int)} (hmrArg : ∀ {π : Sh} {σ : St}  {r : Sh × St × Int}, Cl π σ → rArg π σ  = some r → ext π r.1 ∧ Cl r.1 r.2.1) (hmrFun : ∀ {π : Sh} {σ : St}  {r : Sh × St × Int}, Cl π σ → rFun π σ  = some r → ext π r.1 ∧ Cl r.1 r.2.1 ∧ r.2.2 < nn r.1)  {r : Sh × St × Int} {rec59 : Sh → St → Int → Int → Option (Sh × St × Int)} (krec59 : ∀ {π : Sh} {σ : St} {x2 : Int} {x3 : Int}, Cl π σ → x2 < nn π → rec59 π σ x2 x3 = some r → ext π r.1 ∧ Cl r.1 r.2.1) {π : Sh} {σ : St} {x2 : Int} {x3 : Int} {s0 : Int} (hC : Cl π σ) (hv_x2 : x2 < nn π) (hv_s0 : s0 < nn π) (hm : Rd_exp_103 N rArg rFun rec59 π σ x2 x3 s0 = some r) : ext π r.1 ∧ Cl r.1 r.2.1 := by
  have hS := hC.1
  rw [Rd_exp_103] at hm
  exact krec59 hC hv_x2 hm
set_option maxHeartbeats 8000000 in
set_option maxRecDepth 100000 in
theorem km_Rd_exp_100 {N : Nat} {rArg : Sh → St → Option (Sh × St × Int)} {rFun : Sh → St → Option (Sh × St × Int)} (hmrArg : ∀ {π : Sh} {σ : St}  {r : Sh × St × Int}, Cl π σ → rArg π σ  = some r → ext π r.1 ∧ Cl r.1 r.2.1) (hmrFun : ∀ {π : Sh} {σ : St}  {r : Sh × St × Int}, Cl π σ → rFun π σ  = some r → ext π r.1 ∧ Cl r.1 r.2.1 ∧ r.2.2 < nn r.1)  {r : Sh × St × Int} {rec59 : Sh → St → Int → Int → Option (Sh × St × Int)} (krec59 : ∀ {π : Sh} {σ : St} {x2 : Int} {x3 : Int}, Cl π σ → x2 < nn π → rec59 π σ x2 x3 = some r → ext π r.1 ∧ Cl r.1 r.2.1) {π : Sh} {σ : St} {x2 : Int} {x3 : Int} {s0 : Int} {s1 : Int} (hC : Cl π σ) (hv_x2 : x2 < nn π) (hv_s1 : s1 < nn π) (hm : Rd_exp_100 N rArg rFun rec59 π σ x2 x3 s0 s1 = some r) : ext π r.1 ∧ Cl r.1 r.2.1 := by
  have hS := hC.1
  rw [Rd_exp_100] at hm
  obtain ⟨r37, e38, hm⟩ := obd_s hm
  have q39 := (km_Sp_give hC hv_s1 e38)
  obtain ⟨g40, hm⟩ := grd_s hm
  have q := km_Rd_exp_103 hmrArg hmrFun krec59 q39.2.1 (lt_ext hv_x2 q39.1) q39.2.2 hm
  exact ⟨q39.1.tr q.1, q.2⟩
set_option maxHeartbeats 8000000 in
set_option maxRecDepth 100000 in
theorem km_Rd_exp_118 {N : Nat} {rArg : Sh → St → Option (Sh × St × Int)} {rFun : Sh → St → Option (Sh × St × Int)} (hmrArg : ∀ {π : Sh} {σ : St}  {r : Sh × St × Int}, Cl π σ → rArg π σ  = some r → ext π r.1 ∧ Cl r.1 r.2.1) (hmrFun : ∀ {π : Sh} {σ : St}  {r : Sh × St × Int}, Cl π σ → rFun π σ  = some r → ext π r.1 ∧ Cl r.1 r.2.1 ∧ r.2.2 < nn r.1)  {r : Sh × St × Int}  {π : Sh} {σ : St} {s0 : Int} (hC : Cl π σ)  (hm : Rd_exp_118 N rArg rFun π σ s0 = some r) : ext π r.1 ∧ Cl r.1 r.2.1 := by
  have hS := hC.1
  rw [Rd_exp_118] at hm
  cases hm
  exact ⟨ext.rf _, hC⟩
set_option maxHeartbeats 8000000 in
set_option maxRecDepth 100000 in
theorem km_Rd_exp_110 {N : Nat} {rArg : Sh → St → Option (Sh × St × Int)} {rFun : Sh → St → Option (Sh × St × Int)} (hmrArg : ∀ {π : Sh} {σ : St}  {r : Sh × St × Int}, Cl π σ → rArg π σ  = some r → ext π r.1 ∧ Cl r.1 r.2.1) (hmrFun : ∀ {π : Sh} {σ : St}  {r : Sh × St × Int}, Cl π σ → rFun π σ  = some r → ext π r.1 ∧ Cl r.1 r.2.1 ∧ r.2.2 < nn r.1)  {r : Sh × St × Int}  {π : Sh} {σ : St} {x2 : Int} (hC : Cl π σ) (hv_x2 : x2 < nn π) (hm : Rd_exp_110 N rArg rFun π σ x2 = some r) : ext π r.1 ∧ Cl r.1 r.2.1 := by
  have hS := hC.1
  rw [Rd_exp_110] at hm
  obtain ⟨r33, e34, hm⟩ := obd_s hm
  have q35 := (km_Df_add hC (cl_fl hC (f := 144) rfl 44) hv_x2 e34)
  obtain ⟨g36, hm⟩ := grd_s hm
  have q := km_Rd_exp_118 hmrArg hmrFun  q35.2  hm
  exact ⟨q35.1.tr q.1, q.2⟩
set_option maxHeartbeats 8000000 in
set_option maxRecDepth 100000 in
theorem km_Rd_exp_59 {N : Nat} {rArg : Sh → St → Option (Sh × St × Int)} {rFun : Sh → St → Option (Sh × St × Int)} (hmrArg : ∀ {π : Sh} {σ : St}  {r : Sh × St × Int}, Cl π σ → rArg π σ  = some r → ext π r.1 ∧ Cl r.1 r.2.1) (hmrFun : ∀ {π : Sh} {σ : St}  {r : Sh × St × Int}, Cl π σ → rFun π σ  = some r → ext π r.1 ∧ Cl r.1 r.2.1 ∧ r.2.2 < nn r.1)  {r : Sh × St × Int}  (n : Nat) : ∀ {π : Sh} {σ : St} {x2 : Int} {x3 : Int}, Cl π σ → x2 < nn π → Rd_exp_59 N rArg rFun n π σ x2 x3 = some r → ext π r.1 ∧ Cl r.1 r.2.1 := by
  induction n with
  | zero => intro π σ x2 x3 hC hv_x2 hm; cases (show none = some r from hm)
  | succ n krec59 =>
    intro π σ x2 x3 hC hv_x2 hm
    have hS := hC.1
    rw [Rd_exp_59] at hm
    obtain ⟨g20, hm⟩ := grd_s hm
    by_cases c21 : x3 < 2000
    · have hm := ite_t c21 hm
      obtain ⟨g22, hm⟩ := grd_s hm
      by_cases c23 : (fl σ 182 1) = 0
      · have hm := ite_t c23 hm
        obtain ⟨g24, hm⟩ := grd_s hm
        by_cases c25 : (fl σ 185 1) = 38
        · have hm := ite_t c25 hm
          obtain ⟨r26, e27, hm⟩ := obd_s hm
          have q28 := (km_Sc_advance hC e27)
          have hC29 : Cl π r26 := q28
          obtain ⟨r30, e31, hm⟩ := obd_s hm
          have q32 := (km_Rd_cat hmrArg hmrFun hC29 e31)
          have q := km_Rd_exp_100 hmrArg hmrFun krec59 q32.2 (lt_ext hv_x2 q32.1) (lt_ext hv_x2 q32.1) hm
          exact ⟨q32.1.tr q.1, q.2⟩
        · have hm := ite_f c25 hm
          exact km_Rd_exp_110 hmrArg hmrFun hC hv_x2 hm
      · have hm := ite_f c23 hm
        exact km_Rd_exp_110 hmrArg hmrFun hC hv_x2 hm
    · have hm := ite_f c21 hm
      exact km_Rd_exp_110 hmrArg hmrFun hC hv_x2 hm
set_option maxHeartbeats 8000000 in
set_option maxRecDepth 100000 in
theorem km_Rd_exp_56 {N : Nat} {rArg : Sh → St → Option (Sh × St × Int)} {rFun : Sh → St → Option (Sh × St × Int)} (hmrArg : ∀ {π : Sh} {σ : St}  {r : Sh × St × Int}, Cl π σ → rArg π σ  = some r → ext π r.1 ∧ Cl r.1 r.2.1) (hmrFun : ∀ {π : Sh} {σ : St}  {r : Sh × St × Int}, Cl π σ → rFun π σ  = some r → ext π r.1 ∧ Cl r.1 r.2.1 ∧ r.2.2 < nn r.1)  {r : Sh × St × Int}  {π : Sh} {σ : St} {x2 : Int} {s0 : Int} (hC : Cl π σ) (hv_x2 : x2 < nn π) (hv_s0 : s0 < nn π) (hm : Rd_exp_56 N rArg rFun π σ x2 s0 = some r) : ext π r.1 ∧ Cl r.1 r.2.1 := by
  have hS := hC.1
  rw [Rd_exp_56] at hm
  exact km_Rd_exp_59 hmrArg hmrFun N hC hv_x2 hm
set_option maxHeartbeats 8000000 in
set_option maxRecDepth 100000 in
theorem km_Rd_exp_45 {N : Nat} {rArg : Sh → St → Option (Sh × St × Int)} {rFun : Sh → St → Option (Sh × St × Int)} (hmrArg : ∀ {π : Sh} {σ : St}  {r : Sh × St × Int}, Cl π σ → rArg π σ  = some r → ext π r.1 ∧ Cl r.1 r.2.1) (hmrFun : ∀ {π : Sh} {σ : St}  {r : Sh × St × Int}, Cl π σ → rFun π σ  = some r → ext π r.1 ∧ Cl r.1 r.2.1 ∧ r.2.2 < nn r.1)  {r : Sh × St × Int}  {π : Sh} {σ : St} {x1 : Int} {s0 : Int} (hC : Cl π σ) (hv_s0 : s0 < nn π) (hm : Rd_exp_45 N rArg rFun π σ x1 s0 = some r) : ext π r.1 ∧ Cl r.1 r.2.1 := by
  have hS := hC.1
  rw [Rd_exp_45] at hm
  obtain ⟨g13, hm⟩ := grd_s hm
  obtain ⟨σ14, e15, hm⟩ := bnd_s hm
  have hC16 : Cl π σ14 := e15 ▸ (cl_sfI hC (f := 206) rfl _ _)
  obtain ⟨r17, e18, hm⟩ := obd_s hm
  have q19 := (km_Sp_give hC16 hv_s0 e18)
  have q := km_Rd_exp_56 hmrArg hmrFun  q19.2.1 (lt_ext hv_s0 q19.1) q19.2.2 hm
  exact ⟨q19.1.tr q.1, q.2⟩
set_option maxHeartbeats 8000000 in
set_option maxRecDepth 100000 in
theorem km_Rd_exp_32 {N : Nat} {rArg : Sh → St → Option (Sh × St × Int)} {rFun : Sh → St → Option (Sh × St × Int)} (hmrArg : ∀ {π : Sh} {σ : St}  {r : Sh × St × Int}, Cl π σ → rArg π σ  = some r → ext π r.1 ∧ Cl r.1 r.2.1) (hmrFun : ∀ {π : Sh} {σ : St}  {r : Sh × St × Int}, Cl π σ → rFun π σ  = some r → ext π r.1 ∧ Cl r.1 r.2.1 ∧ r.2.2 < nn r.1)  {r : Sh × St × Int}  {π : Sh} {σ : St} {x1 : Int} {s0 : Int} (hC : Cl π σ) (hv_s0 : s0 < nn π) (hm : Rd_exp_32 N rArg rFun π σ x1 s0 = some r) : ext π r.1 ∧ Cl r.1 r.2.1 := by
  have hS := hC.1
  rw [Rd_exp_32] at hm
  obtain ⟨r9, e10, hm⟩ := obd_s hm
  have q11 := (km_Sp_init hC hv_s0 e10)
  obtain ⟨g12, hm⟩ := grd_s hm
  have q := km_Rd_exp_45 hmrArg hmrFun  q11.2 (lt_ext hv_s0 q11.1) hm
  exact ⟨q11.1.tr q.1, q.2⟩
set_option maxHeartbeats 8000000 in
set_option maxRecDepth 100000 in
theorem km_Rd_exp_4 {N : Nat} {rArg : Sh → St → Option (Sh × St × Int)} {rFun : Sh → St → Option (Sh × St × Int)} (hmrArg : ∀ {π : Sh} {σ : St}  {r : Sh × St × Int}, Cl π σ → rArg π σ  = some r → ext π r.1 ∧ Cl r.1 r.2.1) (hmrFun : ∀ {π : Sh} {σ : St}  {r : Sh × St × Int}, Cl π σ → rFun π σ  = some r → ext π r.1 ∧ Cl r.1 r.2.1 ∧ r.2.2 < nn r.1)  {r : Sh × St × Int}  {π : Sh} {σ : St} {s0 : Int} (hC : Cl π σ)  (hm : Rd_exp_4 N rArg rFun π σ s0 = some r) : ext π r.1 ∧ Cl r.1 r.2.1 := by
  have hS := hC.1
  rw [Rd_exp_4] at hm
  obtain ⟨g4, hm⟩ := grd_s hm
  by_cases c5 : (fl σ 182 1) = 0
  · have hm := ite_t c5 hm
    obtain ⟨g6, hm⟩ := grd_s hm
    by_cases c7 : (fl σ 185 1) = 38
    · have hm := ite_t c7 hm
      have q := km_Rd_exp_32 hmrArg hmrFun  ((cl_nO hC (by decide) (by decide) _)) lt_nO hm
      exact ⟨(ext_nO π 10 14).tr q.1, q.2⟩
    · have hm := ite_f c7 hm
      cases hm
      exact ⟨ext.rf _, hC⟩
  · have hm := ite_f c5 hm
    cases hm
    exact ⟨ext.rf _, hC⟩
set_option maxHeartbeats 8000000 in
set_option maxRecDepth 100000 in
theorem km_Rd_exp {N : Nat} {rArg : Sh → St → Option (Sh × St × Int)} {rFun : Sh → St → Option (Sh × St × Int)} (hmrArg : ∀ {π : Sh} {σ : St}  {r : Sh × St × Int}, Cl π σ → rArg π σ  = some r → ext π r.1 ∧ Cl r.1 r.2.1) (hmrFun : ∀ {π : Sh} {σ : St}  {r : Sh × St × Int}, Cl π σ → rFun π σ  = some r → ext π r.1 ∧ Cl r.1 r.2.1 ∧ r.2.2 < nn r.1) {π : Sh} {σ : St}  {r : Sh × St × Int} (hC : Cl π σ)  (hm : Rd_exp N rArg rFun π σ  = some r) : ext π r.1 ∧ Cl r.1 r.2.1 := by
  have hS := hC.1
  rw [Rd_exp] at hm
  obtain ⟨r1, e2, hm⟩ := obd_s hm
  have q3 := (km_Rd_cat hmrArg hmrFun hC e2)
  have q := km_Rd_exp_4 hmrArg hmrFun  q3.2  hm
  exact ⟨q3.1.tr q.1, q.2⟩
set_option maxHeartbeats 8000000 in
set_option maxRecDepth 100000 in
theorem km_Rd_expect {N : Nat}   {π : Sh} {σ : St} {x1 : Int} {r : St} (hC : Cl π σ)  (hm : Rd_expect N π σ x1 = some r) : Cl π r := by
  have hS := hC.1
  rw [Rd_expect] at hm
  obtain ⟨g1, hm⟩ := grd_s hm
  obtain ⟨g2, hm⟩ := grd_s hm
  by_cases c3 : (fl σ 185 1) = x1
  · have hm := ite_t c3 hm
    obtain ⟨r4, e5, hm⟩ := obd_s hm
    have q6 := (km_Sc_advance hC e5)
    have hC7 : Cl π r4 := q6
    cases hm
    exact hC7
  · have hm := ite_f c3 hm
    obtain ⟨r8, e9, hm⟩ := obd_s hm
    have q10 := (km_Sc_fail hC e9)
    have hC11 : Cl π r8 := q10
    cases hm
    exact hC11
set_option maxHeartbeats 8000000 in
set_option maxRecDepth 100000 in
theorem km_Rd_patternName_72 {N : Nat}    {r : Sh × St × Int}  {π : Sh} {σ : St} {s0 : Int} (hC : Cl π σ)  (hm : Rd_patternName_72 N π σ s0 = some r) : ext π r.1 ∧ Cl r.1 r.2.1 := by
  have hS := hC.1
  rw [Rd_patternName_72] at hm
  cases hm
  exact ⟨ext.rf _, hC⟩
set_option maxHeartbeats 8000000 in
set_option maxRecDepth 100000 in
theorem km_Rd_patternName_39 {N : Nat}    {r : Sh × St × Int}  {π : Sh} {σ : St} {x1 : Int} (hC : Cl π σ)  (hm : Rd_patternName_39 N π σ x1 = some r) : ext π r.1 ∧ Cl r.1 r.2.1 := by
  have hS := hC.1
  rw [Rd_patternName_39] at hm
  obtain ⟨r12, e13, hm⟩ := obd_s hm
  have q14 := (km_Sc_advance hC e13)
  have hC15 : Cl π r12 := q14
  obtain ⟨g16, hm⟩ := grd_s hm
  by_cases c17 : x1 = 1
  · have hm := ite_t c17 hm
    exact km_Rd_patternName_72 hC15 hm
  · have hm := ite_f c17 hm
    obtain ⟨g18, hm⟩ := grd_s hm
    obtain ⟨r19, e20, hm⟩ := obd_s hm
    have q21 := (km_Df_addKnown hC15 (cl_fl hC15 (f := 144) rfl 44) (cl_fl hC15 (f := 26) rfl (fl r12 146 44)) e20)
    obtain ⟨g22, hm⟩ := grd_s hm
    have q := km_Rd_patternName_72   q21.2  hm
    exact ⟨q21.1.tr q.1, q.2⟩
set_option maxHeartbeats 8000000 in
set_option maxRecDepth 100000 in
theorem km_Rd_patternName {N : Nat}   {π : Sh} {σ : St}  {r : Sh × St × Int} (hC : Cl π σ)  (hm : Rd_patternName N π σ  = some r) : ext π r.1 ∧ Cl r.1 r.2.1 := by
  have hS := hC.1
  rw [Rd_patternName] at hm
  obtain ⟨r1, e2, hm⟩ := obd_s hm
  have q3 := (km_Rd_kindOf hC e2)
  have hC4 : Cl π r1.1 := q3
  obtain ⟨g5, hm⟩ := grd_s hm
  by_cases c6 : r1.2 = 1
  · have hm := ite_t c6 hm
    exact km_Rd_patternName_39 hC4 hm
  · have hm := ite_f c6 hm
    by_cases c7 : r1.2 = 3
    · have hm := ite_t c7 hm
      exact km_Rd_patternName_39 hC4 hm
    · have hm := ite_f c7 hm
      obtain ⟨r8, e9, hm⟩ := obd_s hm
      have q10 := (km_Sc_fail hC4 e9)
      have hC11 : Cl π r8 := q10
      cases hm
      exact ⟨ext.rf _, hC11⟩
set_option maxHeartbeats 8000000 in
set_option maxRecDepth 100000 in
theorem km_Rd_arg_15 {N : Nat} {rArg : Sh → St → Option (Sh × St × Int)} {rFun : Sh → St → Option (Sh × St × Int)} (hmrArg : ∀ {π : Sh} {σ : St}  {r : Sh × St × Int}, Cl π σ → rArg π σ  = some r → ext π r.1 ∧ Cl r.1 r.2.1) (hmrFun : ∀ {π : Sh} {σ : St}  {r : Sh × St × Int}, Cl π σ → rFun π σ  = some r → ext π r.1 ∧ Cl r.1 r.2.1 ∧ r.2.2 < nn r.1)  {r : Sh × St × Int}  {π : Sh} {σ : St} {s0 : Int} (hC : Cl π σ)  (hm : Rd_arg_15 N rArg rFun π σ s0 = some r) : ext π r.1 ∧ Cl r.1 r.2.1 := by
  have hS := hC.1
  rw [Rd_arg_15] at hm
  cases hm
  exact ⟨ext.rf _, hC⟩
set_option maxHeartbeats 8000000 in
set_option maxRecDepth 100000 in
theorem km_Rd_arg_161 {N : Nat} {rArg : Sh → St → Option (Sh × St × Int)} {rFun : Sh → St → Option (Sh × St × Int)} (hmrArg : ∀ {π : Sh} {σ : St}  {r : Sh × St × Int}, Cl π σ → rArg π σ  = some r → ext π r.1 ∧ Cl r.1 r.2.1) (hmrFun : ∀ {π : Sh} {σ : St}  {r : Sh × St × Int}, Cl π σ → rFun π σ  = some r → ext π r.1 ∧ Cl r.1 r.2.1 ∧ r.2.2 < nn r.1)  {r : Sh × St × Int}  {π : Sh} {σ : St} {x2 : Int} (hC : Cl π σ)  (hm : Rd_arg_161 N rArg rFun π σ x2 = some r) : ext π r.1 ∧ Cl r.1 r.2.1 := by
  have hS := hC.1
  rw [Rd_arg_161] at hm
  cases hm
  exact ⟨ext.rf _, (cl_sfI hC (f := 184) rfl _ _)⟩
set_option maxHeartbeats 8000000 in
set_option maxRecDepth 100000 in
theorem km_Rd_arg_125 {N : Nat} {rArg : Sh → St → Option (Sh × St × Int)} {rFun : Sh → St → Option (Sh × St × Int)} (hmrArg : ∀ {π : Sh} {σ : St}  {r : Sh × St × Int}, Cl π σ → rArg π σ  = some r → ext π r.1 ∧ Cl r.1 r.2.1) (hmrFun : ∀ {π : Sh} {σ : St}  {r : Sh × St × Int}, Cl π σ → rFun π σ  = some r → ext π r.1 ∧ Cl r.1 r.2.1 ∧ r.2.2 < nn r.1)  {r : Sh × St × Int}  {π : Sh} {σ : St} {s0 : Int} (hC : Cl π σ)  (hm : Rd_arg_125 N rArg rFun π σ s0 = some r) : ext π r.1 ∧ Cl r.1 r.2.1 := by
  have hS := hC.1
  rw [Rd_arg_125] at hm
  obtain ⟨r41, e42, hm⟩ := obd_s hm
  have q43 := (km_Tx_finish hC e42)
  have hC44 : Cl π r41 := q43
  obtain ⟨r45, e46, hm⟩ := obd_s hm
  have q47 := (km_Sc_advance hC44 e46)
  have hC48 : Cl π r45 := q47
  exact km_Rd_arg_161 hmrArg hmrFun hC48 hm
set_option maxHeartbeats 8000000 in
set_option maxRecDepth 100000 in
theorem km_Rd_arg_154 {N : Nat} {rArg : Sh → St → Option (Sh × St × Int)} {rFun : Sh → St → Option (Sh × St × Int)} (hmrArg : ∀ {π : Sh} {σ : St}  {r : Sh × St × Int}, Cl π σ → rArg π σ  = some r → ext π r.1 ∧ Cl r.1 r.2.1) (hmrFun : ∀ {π : Sh} {σ : St}  {r : Sh × St × Int}, Cl π σ → rFun π σ  = some r → ext π r.1 ∧ Cl r.1 r.2.1 ∧ r.2.2 < nn r.1)  {r : Sh × St × Int}  {π : Sh} {σ : St} {s0 : Int} (hC : Cl π σ)  (hm : Rd_arg_154 N rArg rFun π σ s0 = some r) : ext π r.1 ∧ Cl r.1 r.2.1 := by
  have hS := hC.1
  rw [Rd_arg_154] at hm
  obtain ⟨r37, e38, hm⟩ := obd_s hm
  have q39 := (km_Rd_expect hC e38)
  have hC40 : Cl π r37 := q39
  exact km_Rd_arg_161 hmrArg hmrFun hC40 hm
set_option maxHeartbeats 8000000 in
set_option maxRecDepth 100000 in
theorem km_Rd_arg_66 {N : Nat} {rArg : Sh → St → Option (Sh × St × Int)} {rFun : Sh → St → Option (Sh × St × Int)} (hmrArg : ∀ {π : Sh} {σ : St}  {r : Sh × St × Int}, Cl π σ → rArg π σ  = some r → ext π r.1 ∧ Cl r.1 r.2.1) (hmrFun : ∀ {π : Sh} {σ : St}  {r : Sh × St × Int}, Cl π σ → rFun π σ  = some r → ext π r.1 ∧ Cl r.1 r.2.1 ∧ r.2.2 < nn r.1)  {r : Sh × St × Int}  {π : Sh} {σ : St} {x1 : Int} (hC : Cl π σ)  (hm : Rd_arg_66 N rArg rFun π σ x1 = some r) : ext π r.1 ∧ Cl r.1 r.2.1 := by
  have hS := hC.1
  rw [Rd_arg_66] at hm
  obtain ⟨r15, e16, hm⟩ := obd_s hm
  have q17 := (km_Sc_opens hC e16)
  have hC18 : Cl π r15.1 := q17
  obtain ⟨g19, hm⟩ := grd_s hm
  by_cases c20 : r15.2 = 0
  · have hm := ite_t c20 hm
    cases hm
    exact ⟨ext.rf _, hC18⟩
  · have hm := ite_f c20 hm
    obtain ⟨g21, hm⟩ := grd_s hm
    by_cases c22 : x1 = 0
    · have hm := ite_t c22 hm
      obtain ⟨r23, e24, hm⟩ := obd_s hm
      have q25 := (km_Sc_advance hC18 e24)
      have hC26 : Cl π r23 := q25
      obtain ⟨r27, e28, hm⟩ := obd_s hm
      have q29 := (km_Rd_exp hmrArg hmrFun hC26 e28)
      have q := km_Rd_arg_154 hmrArg hmrFun  q29.2  hm
      exact ⟨q29.1.tr q.1, q.2⟩
    · have hm := ite_f c22 hm
      obtain ⟨r30, e31, hm⟩ := obd_s hm
      have q32 := (km_Tx_start hC18 (cl_fl hC18 (f := 144) rfl 44) e31)
      have hC33 : Cl π r30 := q32
      obtain ⟨r34, e35, hm⟩ := obd_s hm
      have q36 := (km_Tx_seq km_Tx_partC hC33 e35)
      have q := km_Rd_arg_125 hmrArg hmrFun  q36.2  hm
      exact ⟨q36.1.tr q.1, q.2⟩
set_option maxHeartbeats 8000000 in
set_option maxRecDepth 100000 in
theorem km_Rd_arg_32 {N : Nat} {rArg : Sh → St → Option (Sh × St × Int)} {rFun : Sh → St → Option (Sh × St × Int)} (hmrArg : ∀ {π : Sh} {σ : St}  {r : Sh × St × Int}, Cl π σ → rArg π σ  = some r → ext π r.1 ∧ Cl r.1 r.2.1) (hmrFun : ∀ {π : Sh} {σ : St}  {r : Sh × St × Int}, Cl π σ → rFun π σ  = some r → ext π r.1 ∧ Cl r.1 r.2.1 ∧ r.2.2 < nn r.1)  {r : Sh × St × Int}  {π : Sh} {σ : St} {s0 : Int} (hC : Cl π σ)  (hm : Rd_arg_32 N rArg rFun π σ s0 = some r) : ext π r.1 ∧ Cl r.1 r.2.1 := by
  have hS := hC.1
  rw [Rd_arg_32] at hm
  obtain ⟨g7, hm⟩ := grd_s hm
  by_cases c8 : s0 = 0
  · have hm := ite_t c8 hm
    obtain ⟨g9, hm⟩ := grd_s hm
    by_cases c10 : (fl σ 185 1) = 40
    · have hm := ite_t c10 hm
      exact km_Rd_arg_66 hmrArg hmrFun hC hm
    · have hm := ite_f c10 hm
      obtain ⟨r11, e12, hm⟩ := obd_s hm
      have q13 := (km_Sc_fail hC e12)
      have hC14 : Cl π r11 := q13
      cases hm
      exact ⟨ext.rf _, hC14⟩
  · have hm := ite_f c8 hm
    exact km_Rd_arg_66 hmrArg hmrFun hC hm
set_option maxHeartbeats 8000000 in
set_option maxRecDepth 100000 in
theorem km_Rd_arg {N : Nat} {rArg : Sh → St → Option (Sh × St × Int)} {rFun : Sh → St → Option (Sh × St × Int)} (hmrArg : ∀ {π : Sh} {σ : St}  {r : Sh × St × Int}, Cl π σ → rArg π σ  = some r → ext π r.1 ∧ Cl r.1 r.2.1) (hmrFun : ∀ {π : Sh} {σ : St}  {r : Sh × St × Int}, Cl π σ → rFun π σ  = some r → ext π r.1 ∧ Cl r.1 r.2.1 ∧ r.2.2 < nn r.1) {π : Sh} {σ : St}  {r : Sh × St × Int} (hC : Cl π σ)  (hm : Rd_arg N rArg rFun π σ  = some r) : ext π r.1 ∧ Cl r.1 r.2.1 := by
  have hS := hC.1
  rw [Rd_arg] at hm
  obtain ⟨g1, hm⟩ := grd_s hm
  by_cases c2 : (fl σ 185 1) = 1
  · have hm := ite_t c2 hm
    obtain ⟨r4, e5, hm⟩ := obd_s hm
    have q6 := (km_Rd_patternName hC e5)
    have q := km_Rd_arg_15 hmrArg hmrFun  q6.2  hm
    exact ⟨q6.1.tr q.1, q.2⟩
  · have hm := ite_f c2 hm
    by_cases c3 : (fl σ 185 1) = 4
    · have hm := ite_t c3 hm
      exact km_Rd_arg_32 hmrArg hmrFun hC hm
    · have hm := ite_f c3 hm
      exact km_Rd_arg_32 hmrArg hmrFun hC hm
set_option maxHeartbeats 8000000 in
set_option maxRecDepth 100000 in
theorem km_Rd_funName_83 {N : Nat} {rArg : Sh → St → Option (Sh × St × Int)} {rFun : Sh → St → Option (Sh × St × Int)} (hmrArg : ∀ {π : Sh} {σ : St}  {r : Sh × St × Int}, Cl π σ → rArg π σ  = some r → ext π r.1 ∧ Cl r.1 r.2.1) (hmrFun : ∀ {π : Sh} {σ : St}  {r : Sh × St × Int}, Cl π σ → rFun π σ  = some r → ext π r.1 ∧ Cl r.1 r.2.1 ∧ r.2.2 < nn r.1)  {r : Sh × St × Int}  {π : Sh} {σ : St} {s0 : Int} (hC : Cl π σ) (hv_s0 : s0 < nn π) (hm : Rd_funName_83 N rArg rFun π σ s0 = some r) : ext π r.1 ∧ Cl r.1 r.2.1 ∧ r.2.2 < nn r.1 := by
  have hS := hC.1
  rw [Rd_funName_83] at hm
  cases hm
  exact ⟨ext.rf _, hC, hv_s0⟩
set_option maxHeartbeats 8000000 in
set_option maxRecDepth 100000 in
theorem km_Rd_funName_78 {N : Nat} {rArg : Sh → St → Option (Sh × St × Int)} {rFun : Sh → St → Option (Sh × St × Int)} (hmrArg : ∀ {π : Sh} {σ : St}  {r : Sh × St × Int}, Cl π σ → rArg π σ  = some r → ext π r.1 ∧ Cl r.1 r.2.1) (hmrFun : ∀ {π : Sh} {σ : St}  {r : Sh × St × Int}, Cl π σ → rFun π σ  = some r → ext π r.1 ∧ Cl r.1 r.2.1 ∧ r.2.2 < nn r.1)  {r : Sh × St × Int}  {π : Sh} {σ : St} {x1 : Int} (hC : Cl π σ)  (hm : Rd_funName_78 N rArg rFun π σ x1 = some r) : ext π r.1 ∧ Cl r.1 r.2.1 ∧ r.2.2 < nn r.1 := by
  have hS := hC.1
  rw [Rd_funName_78] at hm
  obtain ⟨r22, e23, hm⟩ := obd_s hm
  have q24 := (km_Rd_named hmrArg hmrFun hC e23)
  have q := km_Rd_funName_83 hmrArg hmrFun  q24.2.1 q24.2.2 hm
  exact ⟨q24.1.tr q.1, q.2⟩
set_option maxHeartbeats 8000000 in
set_option maxRecDepth 100000 in
theorem km_Rd_funName_52 {N : Nat} {rArg : Sh → St → Option (Sh × St × Int)} {rFun : Sh → St → Option (Sh × St × Int)} (hmrArg : ∀ {π : Sh} {σ : St}  {r : Sh × St × Int}, Cl π σ → rArg π σ  = some r → ext π r.1 ∧ Cl r.1 r.2.1) (hmrFun : ∀ {π : Sh} {σ : St}  {r : Sh × St × Int}, Cl π σ → rFun π σ  = some r → ext π r.1 ∧ Cl r.1 r.2.1 ∧ r.2.2 < nn r.1)  {r : Sh × St × Int}  {π : Sh} {σ : St} {x1 : Int} {x2 : Int} {s0 : Int} (hC : Cl π σ)  (hm : Rd_funName_52 N rArg rFun π σ x1 x2 s0 = some r) : ext π r.1 ∧ Cl r.1 r.2.1 ∧ r.2.2 < nn r.1 := by
  have hS := hC.1
  rw [Rd_funName_52] at hm
  obtain ⟨g14, hm⟩ := grd_s hm
  by_cases c15 : x2 = 0
  · have hm := ite_t c15 hm
    obtain ⟨g16, hm⟩ := grd_s hm
    by_cases c17 : s0 = 0
    · have hm := ite_t c17 hm
      obtain ⟨r18, e19, hm⟩ := obd_s hm
      have q20 := (km_Sc_fail hC e19)
      have hC21 : Cl π r18 := q20
      cases hm
      exact ⟨ext.rf _, hC21, (lt_m1 π)⟩
    · have hm := ite_f c17 hm
      exact km_Rd_funName_78 hmrArg hmrFun hC hm
  · have hm := ite_f c15 hm
    exact km_Rd_funName_78 hmrArg hmrFun hC hm
set_option maxHeartbeats 8000000 in
set_option maxRecDepth 100000 in
theorem km_Rd_funName_51 {N : Nat} {rArg : Sh → St → Option (Sh × St × Int)} {rFun : Sh → St → Option (Sh × St × Int)} (hmrArg : ∀ {π : Sh} {σ : St}  {r : Sh × St × Int}, Cl π σ → rArg π σ  = some r → ext π r.1 ∧ Cl r.1 r.2.1) (hmrFun : ∀ {π : Sh} {σ : St}  {r : Sh × St × Int}, Cl π σ → rFun π σ  = some r → ext π r.1 ∧ Cl r.1 r.2.1 ∧ r.2.2 < nn r.1)  {r : Sh × St × Int}  {π : Sh} {σ : St} {x1 : Int} {x2 : Int} (hC : Cl π σ)  (hm : Rd_funName_51 N rArg rFun π σ x1 x2 = some r) : ext π r.1 ∧ Cl r.1 r.2.1 ∧ r.2.2 < nn r.1 := by
  have hS := hC.1
  rw [Rd_funName_51] at hm
  exact km_Rd_funName_52 hmrArg hmrFun hC hm
set_option maxHeartbeats 8000000 in
set_option maxRecDepth 100000 in
theorem km_Rd_funName_30 {N : Nat} {rArg : Sh → St → Option (Sh × St × Int)} {rFun : Sh → St → Option (Sh × St × Int)} (hmrArg : ∀ {π : Sh} {σ : St}  {r : Sh × St × Int}, Cl π σ → rArg π σ  = some r → ext π r.1 ∧ Cl r.1 r.2.1) (hmrFun : ∀ {π : Sh} {σ : St}  {r : Sh × St × Int}, Cl π σ → rFun π σ  = some r → ext π r.1 ∧ Cl r.1 r.2.1 ∧ r.2.2 < nn r.1)  {r : Sh × St × Int}  {π : Sh} {σ : St} {x1 : Int} {s0 : Int} (hC : Cl π σ)  (hm : Rd_funName_30 N rArg rFun π σ x1 s0 = some r) : ext π r.1 ∧ Cl r.1 r.2.1 ∧ r.2.2 < nn r.1 := by
  have hS := hC.1
  rw [Rd_funName_30] at hm
  obtain ⟨g9, hm⟩ := grd_s hm
  by_cases c10 : x1 = 4
  · have hm := ite_t c10 hm
    obtain ⟨g11, hm⟩ := grd_s hm
    obtain ⟨g12, hm⟩ := grd_s hm
    by_cases c13 : (fl σ 22 (fl σ 146 44)) = 1
    · have hm := ite_t c13 hm
      exact km_Rd_funName_52 hmrArg hmrFun hC hm
    · have hm := ite_f c13 hm
      exact km_Rd_funName_51 hmrArg hmrFun hC hm
  · have hm := ite_f c10 hm
    exact km_Rd_funName_51 hmrArg hmrFun hC hm
set_option maxHeartbeats 8000000 in
set_option maxRecDepth 100000 in
theorem km_Rd_funName_29 {N : Nat} {rArg : Sh → St → Option (Sh × St × Int)} {rFun : Sh → St → Option (Sh × St × Int)} (hmrArg : ∀ {π : Sh} {σ : St}  {r : Sh × St × Int}, Cl π σ → rArg π σ  = some r → ext π r.1 ∧ Cl r.1 r.2.1) (hmrFun : ∀ {π : Sh} {σ : St}  {r : Sh × St × Int}, Cl π σ → rFun π σ  = some r → ext π r.1 ∧ Cl r.1 r.2.1 ∧ r.2.2 < nn r.1)  {r : Sh × St × Int}  {π : Sh} {σ : St} {x1 : Int} (hC : Cl π σ)  (hm : Rd_funName_29 N rArg rFun π σ x1 = some r) : ext π r.1 ∧ Cl r.1 r.2.1 ∧ r.2.2 < nn r.1 := by
  have hS := hC.1
  rw [Rd_funName_29] at hm
  exact km_Rd_funName_30 hmrArg hmrFun hC hm
set_option maxHeartbeats 8000000 in
set_option maxRecDepth 100000 in
theorem km_Rd_funName {N : Nat} {rArg : Sh → St → Option (Sh × St × Int)} {rFun : Sh → St → Option (Sh × St × Int)} (hmrArg : ∀ {π : Sh} {σ : St}  {r : Sh × St × Int}, Cl π σ → rArg π σ  = some r → ext π r.1 ∧ Cl r.1 r.2.1) (hmrFun : ∀ {π : Sh} {σ : St}  {r : Sh × St × Int}, Cl π σ → rFun π σ  = some r → ext π r.1 ∧ Cl r.1 r.2.1 ∧ r.2.2 < nn r.1) {π : Sh} {σ : St}  {r : Sh × St × Int} (hC : Cl π σ)  (hm : Rd_funName N rArg rFun π σ  = some r) : ext π r.1 ∧ Cl r.1 r.2.1 ∧ r.2.2 < nn r.1 := by
  have hS := hC.1
  rw [Rd_funName] at hm
  obtain ⟨r1, e2, hm⟩ := obd_s hm
  have q3 := (km_Rd_kindOf hC e2)
  have hC4 : Cl π r1.1 := q3
  obtain ⟨g5, hm⟩ := grd_s hm
  by_cases c6 : r1.2 = 2
  · have hm := ite_t c6 hm
    obtain ⟨g7, hm⟩ := grd_s hm
    by_cases c8 : (fl r1.1 145 44) = 4
    · have hm := ite_t c8 hm
      exact km_Rd_funName_30 hmrArg hmrFun hC4 hm
    · have hm := ite_f c8 hm
      exact km_Rd_funName_29 hmrArg hmrFun hC4 hm
  · have hm := ite_f c6 hm
    exact km_Rd_funName_29 hmrArg hmrFun hC4 hm
set_option maxHeartbeats 8000000 in
set_option maxRecDepth 100000 in
theorem km_Rd_piece_46 {N : Nat} {rArg : Sh → St → Option (Sh × St × Int)} {rFun : Sh → St → Option (Sh × St × Int)} (hmrArg : ∀ {π : Sh} {σ : St}  {r : Sh × St × Int}, Cl π σ → rArg π σ  = some r → ext π r.1 ∧ Cl r.1 r.2.1) (hmrFun : ∀ {π : Sh} {σ : St}  {r : Sh × St × Int}, Cl π σ → rFun π σ  = some r → ext π r.1 ∧ Cl r.1 r.2.1 ∧ r.2.2 < nn r.1)  {r : Sh × St × Int}  {π : Sh} {σ : St} {s0 : Int} (hC : Cl π σ) (hv_s0 : s0 < nn π) (hm : Rd_piece_46 N rArg rFun π σ s0 = some r) : ext π r.1 ∧ Cl r.1 r.2.1 ∧ r.2.2 < nn r.1 := by
  have hS := hC.1
  rw [Rd_piece_46] at hm
  cases hm
  exact ⟨ext.rf _, hC, hv_s0⟩
set_option maxHeartbeats 8000000 in
set_option maxRecDepth 100000 in
theorem km_Rd_piece_41 {N : Nat} {rArg : Sh → St → Option (Sh × St × Int)} {rFun : Sh → St → Option (Sh × St × Int)} (hmrArg : ∀ {π : Sh} {σ : St}  {r : Sh × St × Int}, Cl π σ → rArg π σ  = some r → ext π r.1 ∧ Cl r.1 r.2.1) (hmrFun : ∀ {π : Sh} {σ : St}  {r : Sh × St × Int}, Cl π σ → rFun π σ  = some r → ext π r.1 ∧ Cl r.1 r.2.1 ∧ r.2.2 < nn r.1)  {r : Sh × St × Int}  {π : Sh} {σ : St} {x2 : Int} (hC : Cl π σ)  (hm : Rd_piece_41 N rArg rFun π σ x2 = some r) : ext π r.1 ∧ Cl r.1 r.2.1 ∧ r.2.2 < nn r.1 := by
  have hS := hC.1
  rw [Rd_piece_41] at hm
  obtain ⟨r33, e34, hm⟩ := obd_s hm
  have q35 := (km_Rd_named hmrArg hmrFun hC e34)
  have q := km_Rd_piece_46 hmrArg hmrFun  q35.2.1 q35.2.2 hm
  exact ⟨q35.1.tr q.1, q.2⟩
set_option maxHeartbeats 8000000 in
set_option maxRecDepth 100000 in
theorem km_Rd_piece_86 {N : Nat} {rArg : Sh → St → Option (Sh × St × Int)} {rFun : Sh → St → Option (Sh × St × Int)} (hmrArg : ∀ {π : Sh} {σ : St}  {r : Sh × St × Int}, Cl π σ → rArg π σ  = some r → ext π r.1 ∧ Cl r.1 r.2.1) (hmrFun : ∀ {π : Sh} {σ : St}  {r : Sh × St × Int}, Cl π σ → rFun π σ  = some r → ext π r.1 ∧ Cl r.1 r.2.1 ∧ r.2.2 < nn r.1)  {r : Sh × St × Int}  {π : Sh} {σ : St} {x2 : Int} {s0 : Int} {s1 : Int} (hC : Cl π σ) (hv_x2 : x2 < nn π) (hv_s0 : s0 < nn π) (hv_s1 : s1 < nn π) (hm : Rd_piece_86 N rArg rFun π σ x2 s0 s1 = some r) : ext π r.1 ∧ Cl r.1 r.2.1 ∧ r.2.2 < nn r.1 := by
  have hS := hC.1
  rw [Rd_piece_86] at hm
  obtain ⟨g55, hm⟩ := grd_s hm
  cases hm
  exact ⟨ext.rf _, (cl_sfR hC _ _ hv_s0), hv_x2⟩
set_option maxHeartbeats 8000000 in
set_option maxRecDepth 100000 in
theorem km_Rd_piece_80 {N : Nat} {rArg : Sh → St → Option (Sh × St × Int)} {rFun : Sh → St → Option (Sh × St × Int)} (hmrArg : ∀ {π : Sh} {σ : St}  {r : Sh × St × Int}, Cl π σ → rArg π σ  = some r → ext π r.1 ∧ Cl r.1 r.2.1) (hmrFun : ∀ {π : Sh} {σ : St}  {r : Sh × St × Int}, Cl π σ → rFun π σ  = some r → ext π r.1 ∧ Cl r.1 r.2.1 ∧ r.2.2 < nn r.1)  {r : Sh × St × Int}  {π : Sh} {σ : St} {s0 : Int} (hC : Cl π σ) (hv_s0 : s0 < nn π) (hm : Rd_piece_80 N rArg rFun π σ s0 = some r) : ext π r.1 ∧ Cl r.1 r.2.1 ∧ r.2.2 < nn r.1 := by
  have hS := hC.1
  rw [Rd_piece_80] at hm
  obtain ⟨r47, e48, hm⟩ := obd_s hm
  have q49 := (hmrFun hC e48)
  have q := km_Rd_piece_86 hmrArg hmrFun  q49.2.1 (lt_ext hv_s0 q49.1) q49.2.2 (lt_ext hv_s0 q49.1) hm
  exact ⟨q49.1.tr q.1, q.2⟩
set_option maxHeartbeats 8000000 in
set_option maxRecDepth 100000 in
theorem km_Rd_piece_73 {N : Nat} {rArg : Sh → St → Option (Sh × St × Int)} {rFun : Sh → St → Option (Sh × St × Int)} (hmrArg : ∀ {π : Sh} {σ : St}  {r : Sh × St × Int}, Cl π σ → rArg π σ  = some r → ext π r.1 ∧ Cl r.1 r.2.1) (hmrFun : ∀ {π : Sh} {σ : St}  {r : Sh × St × Int}, Cl π σ → rFun π σ  = some r → ext π r.1 ∧ Cl r.1 r.2.1 ∧ r.2.2 < nn r.1)  {r : Sh × St × Int}  {π : Sh} {σ : St} {x1 : Int} {s0 : Int} (hC : Cl π σ) (hv_s0 : s0 < nn π) (hm : Rd_piece_73 N rArg rFun π σ x1 s0 = some r) : ext π r.1 ∧ Cl r.1 r.2.1 ∧ r.2.2 < nn r.1 := by
  have hS := hC.1
  rw [Rd_piece_73] at hm
  obtain ⟨r29, e30, hm⟩ := obd_s hm
  have q31 := (km_Pc_init hC hv_s0 e30)
  obtain ⟨g32, hm⟩ := grd_s hm
  have q := km_Rd_piece_80 hmrArg hmrFun  q31.2 (lt_ext hv_s0 q31.1) hm
  exact ⟨q31.1.tr q.1, q.2⟩
set_option maxHeartbeats 8000000 in
set_option maxRecDepth 100000 in
theorem km_Rd_piece_149 {N : Nat} {rArg : Sh → St → Option (Sh × St × Int)} {rFun : Sh → St → Option (Sh × St × Int)} (hmrArg : ∀ {π : Sh} {σ : St}  {r : Sh × St × Int}, Cl π σ → rArg π σ  = some r → ext π r.1 ∧ Cl r.1 r.2.1) (hmrFun : ∀ {π : Sh} {σ : St}  {r : Sh × St × Int}, Cl π σ → rFun π σ  = some r → ext π r.1 ∧ Cl r.1 r.2.1 ∧ r.2.2 < nn r.1)  {r : Sh × St × Int}  {π : Sh} {σ : St} {x2 : Int} {s0 : Int} {s1 : Int} (hC : Cl π σ) (hv_x2 : x2 < nn π) (hv_s1 : s1 < nn π) (hm : Rd_piece_149 N rArg rFun π σ x2 s0 s1 = some r) : ext π r.1 ∧ Cl r.1 r.2.1 ∧ r.2.2 < nn r.1 := by
  have hS := hC.1
  rw [Rd_piece_149] at hm
  obtain ⟨r50, e51, hm⟩ := obd_s hm
  have q52 := (km_Pc_give hC hv_s1 e51)
  obtain ⟨g53, hm⟩ := grd_s hm
  have hC54 : Cl π r50 := q52
  cases hm
  exact ⟨ext.rf _, hC54, hv_x2⟩
set_option maxHeartbeats 8000000 in
set_option maxRecDepth 100000 in
theorem km_Rd_piece_125 {N : Nat} {rArg : Sh → St → Option (Sh × St × Int)} {rFun : Sh → St → Option (Sh × St × Int)} (hmrArg : ∀ {π : Sh} {σ : St}  {r : Sh × St × Int}, Cl π σ → rArg π σ  = some r → ext π r.1 ∧ Cl r.1 r.2.1) (hmrFun : ∀ {π : Sh} {σ : St}  {r : Sh × St × Int}, Cl π σ → rFun π σ  = some r → ext π r.1 ∧ Cl r.1 r.2.1 ∧ r.2.2 < nn r.1)  {r : Sh × St × Int}  {π : Sh} {σ : St} {s0 : Int} (hC : Cl π σ) (hv_s0 : s0 < nn π) (hm : Rd_piece_125 N rArg rFun π σ s0 = some r) : ext π r.1 ∧ Cl r.1 r.2.1 ∧ r.2.2 < nn r.1 := by
  have hS := hC.1
  rw [Rd_piece_125] at hm
  obtain ⟨g36, hm⟩ := grd_s hm
  obtain ⟨σ37, e38, hm⟩ := bnd_s hm
  have hC39 : Cl π σ37 := e38 ▸ (cl_sfI hC (f := 122) rfl _ _)
  obtain ⟨r40, e41, hm⟩ := obd_s hm
  have q42 := (km_Sc_advance hC39 e41)
  have hC43 : Cl π r40 := q42
  obtain ⟨r44, e45, hm⟩ := obd_s hm
  have q46 := (hmrArg hC43 e45)
  have q := km_Rd_piece_149 hmrArg hmrFun  q46.2 (lt_ext hv_s0 q46.1) (lt_ext hv_s0 q46.1) hm
  exact ⟨q46.1.tr q.1, q.2⟩
set_option maxHeartbeats 8000000 in
set_option maxRecDepth 100000 in
theorem km_Rd_piece_118 {N : Nat} {rArg : Sh → St → Option (Sh × St × Int)} {rFun : Sh → St → Option (Sh × St × Int)} (hmrArg : ∀ {π : Sh} {σ : St}  {r : Sh × St × Int}, Cl π σ → rArg π σ  = some r → ext π r.1 ∧ Cl r.1 r.2.1) (hmrFun : ∀ {π : Sh} {σ : St}  {r : Sh × St × Int}, Cl π σ → rFun π σ  = some r → ext π r.1 ∧ Cl r.1 r.2.1 ∧ r.2.2 < nn r.1)  {r : Sh × St × Int}  {π : Sh} {σ : St} {x1 : Int} {s0 : Int} (hC : Cl π σ) (hv_s0 : s0 < nn π) (hm : Rd_piece_118 N rArg rFun π σ x1 s0 = some r) : ext π r.1 ∧ Cl r.1 r.2.1 ∧ r.2.2 < nn r.1 := by
  have hS := hC.1
  rw [Rd_piece_118] at hm
  obtain ⟨r25, e26, hm⟩ := obd_s hm
  have q27 := (km_Pc_init hC hv_s0 e26)
  obtain ⟨g28, hm⟩ := grd_s hm
  have q := km_Rd_piece_125 hmrArg hmrFun  q27.2 (lt_ext hv_s0 q27.1) hm
  exact ⟨q27.1.tr q.1, q.2⟩
set_option maxHeartbeats 8000000 in
set_option maxRecDepth 100000 in
theorem km_Rd_piece {N : Nat} {rArg : Sh → St → Option (Sh × St × Int)} {rFun : Sh → St → Option (Sh × St × Int)} (hmrArg : ∀ {π : Sh} {σ : St}  {r : Sh × St × Int}, Cl π σ → rArg π σ  = some r → ext π r.1 ∧ Cl r.1 r.2.1) (hmrFun : ∀ {π : Sh} {σ : St}  {r : Sh × St × Int}, Cl π σ → rFun π σ  = some r → ext π r.1 ∧ Cl r.1 r.2.1 ∧ r.2.2 < nn r.1) {π : Sh} {σ : St}  {r : Sh × St × Int} (hC : Cl π σ)  (hm : Rd_piece N rArg rFun π σ  = some r) : ext π r.1 ∧ Cl r.1 r.2.1 ∧ r.2.2 < nn r.1 := by
  have hS := hC.1
  rw [Rd_piece] at hm
  obtain ⟨g1, hm⟩ := grd_s hm
  by_cases c2 : (fl σ 185 1) = 1
  · have hm := ite_t c2 hm
    obtain ⟨r14, e15, hm⟩ := obd_s hm
    have q16 := (km_Rd_kindOf hC e15)
    have hC17 : Cl π r14.1 := q16
    obtain ⟨g18, hm⟩ := grd_s hm
    by_cases c19 : r14.2 = 2
    · have hm := ite_t c19 hm
      exact km_Rd_piece_41 hmrArg hmrFun hC17 hm
    · have hm := ite_f c19 hm
      by_cases c20 : r14.2 = 4
      · have hm := ite_t c20 hm
        exact km_Rd_piece_41 hmrArg hmrFun hC17 hm
      · have hm := ite_f c20 hm
        obtain ⟨r21, e22, hm⟩ := obd_s hm
        have q23 := (km_Sc_fail hC17 e22)
        have hC24 : Cl π r21 := q23
        cases hm
        exact ⟨ext.rf _, hC24, (lt_m1 π)⟩
  · have hm := ite_f c2 hm
    by_cases c3 : (fl σ 185 1) = 40
    · have hm := ite_t c3 hm
      have q := km_Rd_piece_73 hmrArg hmrFun  ((cl_nO hC (by decide) (by decide) _)) lt_nO hm
      exact ⟨(ext_nO π 6 11).tr q.1, q.2⟩
    · have hm := ite_f c3 hm
      obtain ⟨r4, e5, hm⟩ := obd_s hm
      obtain ⟨g6, hm⟩ := grd_s hm
      by_cases c7 : r4 = 0
      · have hm := ite_t c7 hm
        obtain ⟨r9, e10, hm⟩ := obd_s hm
        have q11 := (km_Sc_fail hC e10)
        have hC12 : Cl π r9 := q11
        cases hm
        exact ⟨ext.rf _, hC12, (lt_m1 π)⟩
      · have hm := ite_f c7 hm
        have q := km_Rd_piece_118 hmrArg hmrFun  ((cl_nO hC (by decide) (by decide) _)) lt_nO hm
        exact ⟨(ext_nO π 6 11).tr q.1, q.2⟩
set_option maxHeartbeats 8000000 in
set_option maxRecDepth 100000 in
theorem km_Rd_fun_15 {N : Nat} {rArg : Sh → St → Option (Sh × St × Int)} {rFun : Sh → St → Option (Sh × St × Int)} (hmrArg : ∀ {π : Sh} {σ : St}  {r : Sh × St × Int}, Cl π σ → rArg π σ  = some r → ext π r.1 ∧ Cl r.1 r.2.1) (hmrFun : ∀ {π : Sh} {σ : St}  {r : Sh × St × Int}, Cl π σ → rFun π σ  = some r → ext π r.1 ∧ Cl r.1 r.2.1 ∧ r.2.2 < nn r.1)  {r : Sh × St × Int}  {π : Sh} {σ : St} {s0 : Int} (hC : Cl π σ) (hv_s0 : s0 < nn π) (hm : Rd_fun_15 N rArg rFun π σ s0 = some r) : ext π r.1 ∧ Cl r.1 r.2.1 ∧ r.2.2 < nn r.1 := by
  have hS := hC.1
  rw [Rd_fun_15] at hm
  cases hm
  exact ⟨ext.rf _, hC, hv_s0⟩
set_option maxHeartbeats 8000000 in
set_option maxRecDepth 100000 in
theorem km_Rd_fun_135 {N : Nat} {rArg : Sh → St → Option (Sh × St × Int)} {rFun : Sh → St → Option (Sh × St × Int)} (hmrArg : ∀ {π : Sh} {σ : St}  {r : Sh × St × Int}, Cl π σ → rArg π σ  = some r → ext π r.1 ∧ Cl r.1 r.2.1) (hmrFun : ∀ {π : Sh} {σ : St}  {r : Sh × St × Int}, Cl π σ → rFun π σ  = some r → ext π r.1 ∧ Cl r.1 r.2.1 ∧ r.2.2 < nn r.1)  {r : Sh × St × Int} {rec70 : Sh → St → Int → Int → Int → Option (Sh × St × Int)} (krec70 : ∀ {π : Sh} {σ : St} {x1 : Int} {x2 : Int} {x3 : Int}, Cl π σ → x1 < nn π → rec70 π σ x1 x2 x3 = some r → ext π r.1 ∧ Cl r.1 r.2.1 ∧ r.2.2 < nn r.1) {π : Sh} {σ : St} {x1 : Int} {x3 : Int} {s0 : Int} (hC : Cl π σ) (hv_x1 : x1 < nn π) (hm : Rd_fun_135 N rArg rFun rec70 π σ x1 x3 s0 = some r) : ext π r.1 ∧ Cl r.1 r.2.1 ∧ r.2.2 < nn r.1 := by
  have hS := hC.1
  rw [Rd_fun_135] at hm
  exact krec70 hC hv_x1 hm
set_option maxHeartbeats 8000000 in
set_option maxRecDepth 100000 in
theorem km_Rd_fun_118 {N : Nat} {rArg : Sh → St → Option (Sh × St × Int)} {rFun : Sh → St → Option (Sh × St × Int)} (hmrArg : ∀ {π : Sh} {σ : St}  {r : Sh × St × Int}, Cl π σ → rArg π σ  = some r → ext π r.1 ∧ Cl r.1 r.2.1) (hmrFun : ∀ {π : Sh} {σ : St}  {r : Sh × St × Int}, Cl π σ → rFun π σ  = some r → ext π r.1 ∧ Cl r.1 r.2.1 ∧ r.2.2 < nn r.1)  {r : Sh × St × Int} {rec70 : Sh → St → Int → Int → Int → Option (Sh × St × Int)} (krec70 : ∀ {π : Sh} {σ : St} {x1 : Int} {x2 : Int} {x3 : Int}, Cl π σ → x1 < nn π → rec70 π σ x1 x2 x3 = some r → ext π r.1 ∧ Cl r.1 r.2.1 ∧ r.2.2 < nn r.1) {π : Sh} {σ : St} {x1 : Int} {x3 : Int} (hC : Cl π σ) (hv_x1 : x1 < nn π) (hm : Rd_fun_118 N rArg rFun rec70 π σ x1 x3 = some r) : ext π r.1 ∧ Cl r.1 r.2.1 ∧ r.2.2 < nn r.1 := by
  have hS := hC.1
  rw [Rd_fun_118] at hm
  obtain ⟨g36, hm⟩ := grd_s hm
  by_cases c37 : (fl σ 185 1) = 46
  · have hm := ite_t c37 hm
    exact km_Rd_fun_135 hmrArg hmrFun krec70 hC hv_x1 hm
  · have hm := ite_f c37 hm
    exact km_Rd_fun_135 hmrArg hmrFun krec70 hC hv_x1 hm
set_option maxHeartbeats 8000000 in
set_option maxRecDepth 100000 in
theorem km_Rd_fun_102 {N : Nat} {rArg : Sh → St → Option (Sh × St × Int)} {rFun : Sh → St → Option (Sh × St × Int)} (hmrArg : ∀ {π : Sh} {σ : St}  {r : Sh × St × Int}, Cl π σ → rArg π σ  = some r → ext π r.1 ∧ Cl r.1 r.2.1) (hmrFun : ∀ {π : Sh} {σ : St}  {r : Sh × St × Int}, Cl π σ → rFun π σ  = some r → ext π r.1 ∧ Cl r.1 r.2.1 ∧ r.2.2 < nn r.1)  {r : Sh × St × Int} {rec70 : Sh → St → Int → Int → Int → Option (Sh × St × Int)} (krec70 : ∀ {π : Sh} {σ : St} {x1 : Int} {x2 : Int} {x3 : Int}, Cl π σ → x1 < nn π → rec70 π σ x1 x2 x3 = some r → ext π r.1 ∧ Cl r.1 r.2.1 ∧ r.2.2 < nn r.1) {π : Sh} {σ : St} {x1 : Int} {x3 : Int} {s0 : Int} (hC : Cl π σ) (hv_x1 : x1 < nn π) (hv_s0 : s0 < nn π) (hm : Rd_fun_102 N rArg rFun rec70 π σ x1 x3 s0 = some r) : ext π r.1 ∧ Cl r.1 r.2.1 ∧ r.2.2 < nn r.1 := by
  have hS := hC.1
  rw [Rd_fun_102] at hm
  by_cases c34 : s0 < 0
  · have hm := ite_t c34 hm
    exact km_Rd_fun_118 hmrArg hmrFun krec70 hC hv_x1 hm
  · have hm := ite_f c34 hm
    obtain ⟨g35, hm⟩ := grd_s hm
    exact km_Rd_fun_118 hmrArg hmrFun krec70 (cl_sfR hC _ _ hv_x1) hv_s0 hm
set_option maxHeartbeats 8000000 in
set_option maxRecDepth 100000 in
theorem km_Rd_fun_142 {N : Nat} {rArg : Sh → St → Option (Sh × St × Int)} {rFun : Sh → St → Option (Sh × St × Int)} (hmrArg : ∀ {π : Sh} {σ : St}  {r : Sh × St × Int}, Cl π σ → rArg π σ  = some r → ext π r.1 ∧ Cl r.1 r.2.1) (hmrFun : ∀ {π : Sh} {σ : St}  {r : Sh × St × Int}, Cl π σ → rFun π σ  = some r → ext π r.1 ∧ Cl r.1 r.2.1 ∧ r.2.2 < nn r.1)  {r : Sh × St × Int}  {π : Sh} {σ : St} {x1 : Int} (hC : Cl π σ) (hv_x1 : x1 < nn π) (hm : Rd_fun_142 N rArg rFun π σ x1 = some r) : ext π r.1 ∧ Cl r.1 r.2.1 ∧ r.2.2 < nn r.1 := by
  have hS := hC.1
  rw [Rd_fun_142] at hm
  obtain ⟨r30, e31, hm⟩ := obd_s hm
  have q32 := (km_Rd_expect hC e31)
  have hC33 : Cl π r30 := q32
  cases hm
  exact ⟨ext.rf _, (cl_sfI hC33 (f := 184) rfl _ _), hv_x1⟩
set_option maxHeartbeats 8000000 in
set_option maxRecDepth 100000 in
theorem km_Rd_fun_70 {N : Nat} {rArg : Sh → St → Option (Sh × St × Int)} {rFun : Sh → St → Option (Sh × St × Int)} (hmrArg : ∀ {π : Sh} {σ : St}  {r : Sh × St × Int}, Cl π σ → rArg π σ  = some r → ext π r.1 ∧ Cl r.1 r.2.1) (hmrFun : ∀ {π : Sh} {σ : St}  {r : Sh × St × Int}, Cl π σ → rFun π σ  = some r → ext π r.1 ∧ Cl r.1 r.2.1 ∧ r.2.2 < nn r.1)  {r : Sh × St × Int}  (n : Nat) : ∀ {π : Sh} {σ : St} {x1 : Int} {x2 : Int} {x3 : Int}, Cl π σ → x1 < nn π → Rd_fun_70 N rArg rFun n π σ x1 x2 x3 = some r → ext π r.1 ∧ Cl r.1 r.2.1 ∧ r.2.2 < nn r.1 := by
  induction n with
  | zero => intro π σ x1 x2 x3 hC hv_x1 hm; cases (show none = some r from hm)
  | succ n krec70 =>
    intro π σ x1 x2 x3 hC hv_x1 hm
    have hS := hC.1
    rw [Rd_fun_70] at hm
    obtain ⟨g17, hm⟩ := grd_s hm
    by_cases c18 : x3 < 2000
    · have hm := ite_t c18 hm
      obtain ⟨g19, hm⟩ := grd_s hm
      by_cases c20 : x2 = 0
      · have hm := ite_t c20 hm
        exact km_Rd_fun_142 hmrArg hmrFun hC hv_x1 hm
      · have hm := ite_f c20 hm
        obtain ⟨g21, hm⟩ := grd_s hm
        by_cases c22 : (fl σ 182 1) = 0
        · have hm := ite_t c22 hm
          obtain ⟨r23, e24, hm⟩ := obd_s hm
          have q25 := (km_Sc_advance hC e24)
          have hC26 : Cl π r23 := q25
          obtain ⟨r27, e28, hm⟩ := obd_s hm
          have q29 := (km_Rd_piece hmrArg hmrFun hC26 e28)
          have q := km_Rd_fun_102 hmrArg hmrFun krec70 q29.2.1 (lt_ext hv_x1 q29.1) q29.2.2 hm
          exact ⟨q29.1.tr q.1, q.2⟩
        · have hm := ite_f c22 hm
          exact km_Rd_fun_142 hmrArg hmrFun hC hv_x1 hm
    · have hm := ite_f c18 hm
      exact km_Rd_fun_142 hmrArg hmrFun hC hv_x1 hm
set_option maxHeartbeats 8000000 in
set_option maxRecDepth 100000 in
theorem km_Rd_fun {N : Nat} {rArg : Sh → St → Option (Sh × St × Int)} {rFun : Sh → St → Option (Sh × St × Int)} (hmrArg : ∀ {π : Sh} {σ : St}  {r : Sh × St × Int}, Cl π σ → rArg π σ  = some r → ext π r.1 ∧ Cl r.1 r.2.1) (hmrFun : ∀ {π : Sh} {σ : St}  {r : Sh × St × Int}, Cl π σ → rFun π σ  = some r → ext π r.1 ∧ Cl r.1 r.2.1 ∧ r.2.2 < nn r.1) {π : Sh} {σ : St}  {r : Sh × St × Int} (hC : Cl π σ)  (hm : Rd_fun N rArg rFun π σ  = some r) : ext π r.1 ∧ Cl r.1 r.2.1 ∧ r.2.2 < nn r.1 := by
  have hS := hC.1
  rw [Rd_fun] at hm
  obtain ⟨g1, hm⟩ := grd_s hm
  by_cases c2 : (fl σ 185 1) = 1
  · have hm := ite_t c2 hm
    obtain ⟨r14, e15, hm⟩ := obd_s hm
    have q16 := (km_Rd_funName hmrArg hmrFun hC e15)
    have q := km_Rd_fun_15 hmrArg hmrFun  q16.2.1 q16.2.2 hm
    exact ⟨q16.1.tr q.1, q.2⟩
  · have hm := ite_f c2 hm
    by_cases c3 : (fl σ 185 1) = 40
    · have hm := ite_t c3 hm
      obtain ⟨r4, e5, hm⟩ := obd_s hm
      have q6 := (km_Sc_opens hC e5)
      have hC7 : Cl π r4.1 := q6
      obtain ⟨g8, hm⟩ := grd_s hm
      by_cases c9 : r4.2 = 0
      · have hm := ite_t c9 hm
        cases hm
        exact ⟨ext.rf _, hC7, (lt_m1 π)⟩
      · have hm := ite_f c9 hm
        exact km_Rd_fun_70 hmrArg hmrFun N hC7 (lt_m1 π) hm
    · have hm := ite_f c3 hm
      obtain ⟨r10, e11, hm⟩ := obd_s hm
      have q12 := (km_Sc_fail hC e11)
      have hC13 : Cl π r10 := q12
      cases hm
      exact ⟨ext.rf _, hC13, (lt_m1 π)⟩
set_option maxHeartbeats 8000000 in
set_option maxRecDepth 100000 in
theorem km_RdC {N d : Nat} : (∀ {π : Sh} {σ : St} {r : Sh × St × Int}, Cl π σ → (RdC N d).1 π σ = some r → ext π r.1 ∧ Cl r.1 r.2.1) ∧ (∀ {π : Sh} {σ : St} {r : Sh × St × Int}, Cl π σ → (RdC N d).2 π σ = some r → ext π r.1 ∧ Cl r.1 r.2.1 ∧ r.2.2 < nn r.1) := by
  induction d with
  | zero => exact ⟨(fun {π σ r} _ hm => by cases (show none = some r from hm)), (fun {π σ r} _ hm => by cases (show none = some r from hm))⟩
  | succ d ih => exact ⟨fun {π σ r} hC hm => km_Rd_arg (N := N) ih.1 ih.2 hC hm, fun {π σ r} hC hm => km_Rd_fun (N := N) ih.1 ih.2 hC hm⟩
theorem km_Rd_argC {N d : Nat} {π : Sh} {σ : St} {r : Sh × St × Int} (hC : Cl π σ) (hm : Rd_argC N d π σ = some r) : ext π r.1 ∧ Cl r.1 r.2.1 := km_RdC.1 hC hm
theorem km_Rd_funC {N d : Nat} {π : Sh} {σ : St} {r : Sh × St × Int} (hC : Cl π σ) (hm : Rd_funC N d π σ = some r) : ext π r.1 ∧ Cl r.1 r.2.1 ∧ r.2.2 < nn r.1 := km_RdC.2 hC hm
set_option maxHeartbeats 8000000 in
set_option maxRecDepth 100000 in
theorem km_Rd_header_144 {N : Nat}    {r : Sh × St}  {π : Sh} {σ : St}  (hC : Cl π σ)  (hm : Rd_header_144 N π σ  = some r) : ext π r.1 ∧ Cl r.1 r.2 := by
  have hS := hC.1
  rw [Rd_header_144] at hm
  obtain ⟨r62, e63, hm⟩ := obd_s hm
  have q64 := (km_Sc_fail hC e63)
  have hC65 : Cl π r62 := q64
  cases hm
  exact ⟨ext.rf _, hC65⟩
set_option maxHeartbeats 8000000 in
set_option maxRecDepth 100000 in
theorem km_Rd_header_208 {N : Nat}    {r : Sh × St}  {π : Sh} {σ : St}  (hC : Cl π σ)  (hm : Rd_header_208 N π σ  = some r) : ext π r.1 ∧ Cl r.1 r.2 := by
  have hS := hC.1
  rw [Rd_header_208] at hm
  obtain ⟨r58, e59, hm⟩ := obd_s hm
  have q60 := (km_Rd_expect hC e59)
  have hC61 : Cl π r58 := q60
  cases hm
  exact ⟨ext.rf _, hC61⟩
set_option maxHeartbeats 8000000 in
set_option maxRecDepth 100000 in
theorem km_Rd_header_84 {N : Nat}    {r : Sh × St}  (n : Nat) : ∀ {π : Sh} {σ : St} {x1 : Int}, Cl π σ → Rd_header_84 N n π σ x1 = some r → ext π r.1 ∧ Cl r.1 r.2 := by
  induction n with
  | zero => intro π σ x1 hC  hm; cases (show none = some r from hm)
  | succ n krec84 =>
    intro π σ x1 hC  hm
    have hS := hC.1
    rw [Rd_header_84] at hm
    obtain ⟨g29, hm⟩ := grd_s hm
    by_cases c30 : x1 < 2000
    · have hm := ite_t c30 hm
      obtain ⟨g31, hm⟩ := grd_s hm
      by_cases c32 : (fl σ 185 1) = 1
      · have hm := ite_t c32 hm
        obtain ⟨r33, e34, hm⟩ := obd_s hm
        have q35 := (km_Rd_functionOf hC e34)
        have hC36 : Cl π r33.1 := q35
        obtain ⟨g37, hm⟩ := grd_s hm
        by_cases c38 : r33.2 < 0
        · have hm := ite_t c38 hm
          obtain ⟨r39, e40, hm⟩ := obd_s hm
          have q41 := (km_Df_hasName hC36 (cl_fl hC36 (f := 144) rfl 44) e40)
          obtain ⟨g42, hm⟩ := grd_s hm
          have hC43 : Cl π r39.1 := q41
          obtain ⟨g44, hm⟩ := grd_s hm
          by_cases c45 : r39.2 = 0
          · have hm := ite_t c45 hm
            obtain ⟨g46, hm⟩ := grd_s hm
            obtain ⟨g47, hm⟩ := grd_s hm
            by_cases c48 : (fl r39.1 22 (fl r39.1 144 44)) < 4
            · have hm := ite_t c48 hm
              obtain ⟨g49, hm⟩ := grd_s hm
              obtain ⟨g50, hm⟩ := grd_s hm
              obtain ⟨σ51, e52, hm⟩ := bnd_s hm
              have hC53 : Cl π σ51 := e52 ▸ (cl_sfI (cl_seI hC43 g49 (by decide) _ _) (f := 22) rfl _ _)
              obtain ⟨r54, e55, hm⟩ := obd_s hm
              have q56 := (km_Sc_advance hC53 e55)
              have hC57 : Cl π r54 := q56
              exact krec84 hC57  hm
            · have hm := ite_f c48 hm
              exact km_Rd_header_144 hC43 hm
          · have hm := ite_f c45 hm
            exact km_Rd_header_144 hC43 hm
        · have hm := ite_f c38 hm
          exact km_Rd_header_144 hC36 hm
      · have hm := ite_f c32 hm
        exact km_Rd_header_208 hC hm
    · have hm := ite_f c30 hm
      exact km_Rd_header_208 hC hm
set_option maxHeartbeats 8000000 in
set_option maxRecDepth 100000 in
theorem km_Rd_header_72 {N : Nat}    {r : Sh × St}  {π : Sh} {σ : St} {s0 : Int} (hC : Cl π σ) (hv_s0 : s0 < nn π) (hm : Rd_header_72 N π σ s0 = some r) : ext π r.1 ∧ Cl r.1 r.2 := by
  have hS := hC.1
  rw [Rd_header_72] at hm
  obtain ⟨σ22, e23, hm⟩ := bnd_s hm
  have hC24 : Cl π σ22 := e23 ▸ (cl_sfR hC _ _ hv_s0)
  obtain ⟨r25, e26, hm⟩ := obd_s hm
  have q27 := (km_Sc_advance hC24 e26)
  have hC28 : Cl π r25 := q27
  exact km_Rd_header_84 N hC28 hm
set_option maxHeartbeats 8000000 in
set_option maxRecDepth 100000 in
theorem km_Rd_header_61 {N : Nat}    {r : Sh × St}  {π : Sh} {σ : St} {s0 : Int} (hC : Cl π σ) (hv_s0 : s0 < nn π) (hm : Rd_header_61 N π σ s0 = some r) : ext π r.1 ∧ Cl r.1 r.2 := by
  have hS := hC.1
  rw [Rd_header_61] at hm
  obtain ⟨r18, e19, hm⟩ := obd_s hm
  have q20 := (km_Df_init hC hv_s0 e19)
  obtain ⟨g21, hm⟩ := grd_s hm
  have q := km_Rd_header_72   q20.2 (lt_ext hv_s0 q20.1) hm
  exact ⟨q20.1.tr q.1, q.2⟩
set_option maxHeartbeats 8000000 in
set_option maxRecDepth 100000 in
theorem km_Rd_header {N : Nat}   {π : Sh} {σ : St}  {r : Sh × St} (hC : Cl π σ)  (hm : Rd_header N π σ  = some r) : ext π r.1 ∧ Cl r.1 r.2 := by
  have hS := hC.1
  rw [Rd_header] at hm
  obtain ⟨g1, hm⟩ := grd_s hm
  by_cases c2 : (fl σ 185 1) = 1
  · have hm := ite_t c2 hm
    obtain ⟨r3, e4, hm⟩ := obd_s hm
    have q5 := (km_Rd_functionOf hC e4)
    have hC6 : Cl π r3.1 := q5
    obtain ⟨g7, hm⟩ := grd_s hm
    by_cases c8 : r3.2 < 0
    · have hm := ite_t c8 hm
      have q := km_Rd_header_61   ((cl_nO hC6 (by decide) (by decide) _)) lt_nO hm
      exact ⟨(ext_nO π 1 7).tr q.1, q.2⟩
    · have hm := ite_f c8 hm
      obtain ⟨r10, e11, hm⟩ := obd_s hm
      have q12 := (km_Sc_fail hC6 e11)
      have hC13 : Cl π r10 := q12
      cases hm
      exact ⟨ext.rf _, hC13⟩
  · have hm := ite_f c2 hm
    obtain ⟨r14, e15, hm⟩ := obd_s hm
    have q16 := (km_Sc_fail hC e15)
    have hC17 : Cl π r14 := q16
    cases hm
    exact ⟨ext.rf _, hC17⟩
set_option maxHeartbeats 8000000 in
set_option maxRecDepth 100000 in
theorem km_Rd_line_84 {N : Nat}    {r : Sh × St × Int}  {π : Sh} {σ : St}  (hC : Cl π σ)  (hm : Rd_line_84 N π σ  = some r) : ext π r.1 ∧ Cl r.1 r.2.1 ∧ r.2.2 < nn r.1 := by
  have hS := hC.1
  rw [Rd_line_84] at hm
  obtain ⟨g6, hm⟩ := grd_s hm
  by_cases c7 : (fl σ 182 1) = 0
  · have hm := ite_t c7 hm
    obtain ⟨r8, e9, hm⟩ := obd_s hm
    have q10 := (km_Sc_advance hC e9)
    have hC11 : Cl π r8 := q10
    cases hm
    exact ⟨ext.rf _, hC11, (cl_fl hC11 (f := 144) rfl 44)⟩
  · have hm := ite_f c7 hm
    cases hm
    exact ⟨ext.rf _, hC, (lt_m1 π)⟩
set_option maxHeartbeats 8000000 in
set_option maxRecDepth 100000 in
theorem km_Rd_line_37 {N : Nat}    {r : Sh × St × Int}  {π : Sh} {σ : St}  (hC : Cl π σ)  (hm : Rd_line_37 N π σ  = some r) : ext π r.1 ∧ Cl r.1 r.2.1 ∧ r.2.2 < nn r.1 := by
  have hS := hC.1
  rw [Rd_line_37] at hm
  obtain ⟨g17, hm⟩ := grd_s hm
  by_cases c18 : (fl σ 185 1) = 10
  · have hm := ite_t c18 hm
    exact km_Rd_line_84 hC hm
  · have hm := ite_f c18 hm
    by_cases c19 : (fl σ 185 1) = 6
    · have hm := ite_t c19 hm
      exact km_Rd_line_84 hC hm
    · have hm := ite_f c19 hm
      obtain ⟨r20, e21, hm⟩ := obd_s hm
      have q22 := (km_Sc_fail hC e21)
      have hC23 : Cl π r20 := q22
      exact km_Rd_line_84 hC23 hm
set_option maxHeartbeats 8000000 in
set_option maxRecDepth 100000 in
theorem km_Rd_line_34 {N : Nat}    {r : Sh × St × Int}  {π : Sh} {σ : St} {s0 : Int} {s1 : Int} (hC : Cl π σ) (hv_s1 : s1 < nn π) (hm : Rd_line_34 N π σ s0 s1 = some r) : ext π r.1 ∧ Cl r.1 r.2.1 ∧ r.2.2 < nn r.1 := by
  have hS := hC.1
  rw [Rd_line_34] at hm
  obtain ⟨g24, hm⟩ := grd_s hm
  exact km_Rd_line_37 (cl_sfI hC (f := 25) rfl _ _) hm
set_option maxHeartbeats 8000000 in
set_option maxRecDepth 100000 in
theorem km_Rd_line_16 {N : Nat}    {r : Sh × St × Int}  {π : Sh} {σ : St}  (hC : Cl π σ)  (hm : Rd_line_16 N π σ  = some r) : ext π r.1 ∧ Cl r.1 r.2.1 ∧ r.2.2 < nn r.1 := by
  have hS := hC.1
  rw [Rd_line_16] at hm
  obtain ⟨g12, hm⟩ := grd_s hm
  by_cases c13 : (fl σ 182 1) = 0
  · have hm := ite_t c13 hm
    obtain ⟨r14, e15, hm⟩ := obd_s hm
    have q16 := (km_Rd_exp km_Rd_argC km_Rd_funC hC e15)
    have q := km_Rd_line_34   q16.2 (lt_ext (cl_fl hC (f := 144) rfl 44) q16.1) hm
    exact ⟨q16.1.tr q.1, q.2⟩
  · have hm := ite_f c13 hm
    exact km_Rd_line_37 hC hm
set_option maxHeartbeats 8000000 in
set_option maxRecDepth 100000 in
theorem km_Rd_line {N : Nat}   {π : Sh} {σ : St}  {r : Sh × St × Int} (hC : Cl π σ)  (hm : Rd_line N π σ  = some r) : ext π r.1 ∧ Cl r.1 r.2.1 ∧ r.2.2 < nn r.1 := by
  have hS := hC.1
  rw [Rd_line] at hm
  obtain ⟨g1, hm⟩ := grd_s hm
  by_cases c2 : (fl σ 185 1) = 10
  · have hm := ite_t c2 hm
    exact km_Rd_line_84 (cl_sfR hC _ _ (lt_m1 π)) hm
  · have hm := ite_f c2 hm
    obtain ⟨r3, e4, hm⟩ := obd_s hm
    have q5 := (km_Rd_header hC e4)
    have q := km_Rd_line_16   q5.2  hm
    exact ⟨q5.1.tr q.1, q.2⟩
