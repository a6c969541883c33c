set_option maxHeartbeats 8000000 in
set_option maxRecDepth 100000 in
theorem km_Rd_wholeExp_94 {N : Nat}    {r : Sh × St × Int}  {π : Sh} {σ : St}  (hC : Cl π σ)  (hm : Rd_wholeExp_94 N π σ  = some r) : ext π r.1 ∧ Cl r.1 r.2.1 ∧ r.2.2 < nn r.1 := by
  have hS := hC.1
  rw [Rd_wholeExp_94] at hm
  cases hm
  exact ⟨ext.rf _, hC, (cl_fl hC (f := 144) rfl 44)⟩
set_option maxHeartbeats 8000000 in
set_option maxRecDepth 100000 in
theorem km_Rd_wholeExp_67 {N : Nat}    {r : Sh × St × Int}  {π : Sh} {σ : St}  (hC : Cl π σ)  (hm : Rd_wholeExp_67 N π σ  = some r) : ext π r.1 ∧ Cl r.1 r.2.1 ∧ r.2.2 < nn r.1 := by
  have hS := hC.1
  rw [Rd_wholeExp_67] at hm
  obtain ⟨g23, hm⟩ := grd_s hm
  by_cases c24 : (fl σ 185 1) = 6
  · have hm := ite_t c24 hm
    exact km_Rd_wholeExp_94 hC hm
  · have hm := ite_f c24 hm
    obtain ⟨r25, e26, hm⟩ := obd_s hm
    have q27 := (km_Sc_fail hC e26)
    have hC28 : Cl π r25 := q27
    exact km_Rd_wholeExp_94 hC28 hm
set_option maxHeartbeats 8000000 in
set_option maxRecDepth 100000 in
theorem km_Rd_wholeExp_25 {N : Nat}    {r : Sh × St × Int}  (n : Nat) : ∀ {π : Sh} {σ : St} {x1 : Int}, Cl π σ → Rd_wholeExp_25 N n π σ x1 = some r → ext π r.1 ∧ Cl r.1 r.2.1 ∧ r.2.2 < nn r.1 := by
  induction n with
  | zero => intro π σ x1 hC  hm; cases (show none = some r from hm)
  | succ n krec25 =>
    intro π σ x1 hC  hm
    have hS := hC.1
    rw [Rd_wholeExp_25] at hm
    obtain ⟨g13, hm⟩ := grd_s hm
    by_cases c14 : x1 < 2000
    · have hm := ite_t c14 hm
      obtain ⟨g15, hm⟩ := grd_s hm
      by_cases c16 : (fl σ 182 1) = 0
      · have hm := ite_t c16 hm
        obtain ⟨g17, hm⟩ := grd_s hm
        by_cases c18 : (fl σ 185 1) = 10
        · have hm := ite_t c18 hm
          obtain ⟨r19, e20, hm⟩ := obd_s hm
          have q21 := (km_Sc_advance hC e20)
          have hC22 : Cl π r19 := q21
          exact krec25 hC22  hm
        · have hm := ite_f c18 hm
          exact km_Rd_wholeExp_67 hC hm
      · have hm := ite_f c16 hm
        exact km_Rd_wholeExp_67 hC hm
    · have hm := ite_f c14 hm
      exact km_Rd_wholeExp_67 hC hm
set_option maxHeartbeats 8000000 in
set_option maxRecDepth 100000 in
theorem km_Rd_wholeExp_20 {N : Nat}    {r : Sh × St × Int}  {π : Sh} {σ : St} {s0 : Int} {s1 : Int} (hC : Cl π σ) (hv_s1 : s1 < nn π) (hm : Rd_wholeExp_20 N π σ s0 s1 = some r) : ext π r.1 ∧ Cl r.1 r.2.1 ∧ r.2.2 < nn r.1 := by
  have hS := hC.1
  rw [Rd_wholeExp_20] at hm
  obtain ⟨g12, hm⟩ := grd_s hm
  exact km_Rd_wholeExp_25 N (cl_sfI hC (f := 25) rfl _ _) hm
set_option maxHeartbeats 8000000 in
set_option maxRecDepth 100000 in
theorem km_Rd_wholeExp_9 {N : Nat}    {r : Sh × St × Int}  {π : Sh} {σ : St} {s0 : Int} (hC : Cl π σ) (hv_s0 : s0 < nn π) (hm : Rd_wholeExp_9 N π σ s0 = some r) : ext π r.1 ∧ Cl r.1 r.2.1 ∧ r.2.2 < nn r.1 := by
  have hS := hC.1
  rw [Rd_wholeExp_9] at hm
  obtain ⟨σ6, e7, hm⟩ := bnd_s hm
  have hC8 : Cl π σ6 := e7 ▸ (cl_sfR hC _ _ hv_s0)
  obtain ⟨r9, e10, hm⟩ := obd_s hm
  have q11 := (km_Rd_exp km_Rd_argC km_Rd_funC hC8 e10)
  have q := km_Rd_wholeExp_20   q11.2 (lt_ext hv_s0 q11.1) hm
  exact ⟨q11.1.tr q.1, q.2⟩
set_option maxHeartbeats 8000000 in
set_option maxRecDepth 100000 in
theorem km_Rd_wholeExp_4 {N : Nat}    {r : Sh × St × Int}  {π : Sh} {σ : St} {s0 : Int} (hC : Cl π σ) (hv_s0 : s0 < nn π) (hm : Rd_wholeExp_4 N π σ s0 = some r) : ext π r.1 ∧ Cl r.1 r.2.1 ∧ r.2.2 < nn r.1 := by
  have hS := hC.1
  rw [Rd_wholeExp_4] at hm
  obtain ⟨r2, e3, hm⟩ := obd_s hm
  have q4 := (km_Df_init hC hv_s0 e3)
  obtain ⟨g5, hm⟩ := grd_s hm
  have q := km_Rd_wholeExp_9   q4.2 (lt_ext hv_s0 q4.1) hm
  exact ⟨q4.1.tr q.1, q.2⟩
set_option maxHeartbeats 8000000 in
set_option maxRecDepth 100000 in
theorem km_Rd_wholeExp {N : Nat}   {π : Sh} {σ : St}  {r : Sh × St × Int} (hC : Cl π σ)  (hm : Rd_wholeExp N π σ  = some r) : ext π r.1 ∧ Cl r.1 r.2.1 ∧ r.2.2 < nn r.1 := by
  have hS := hC.1
  rw [Rd_wholeExp] at hm
  have q := km_Rd_wholeExp_4   ((cl_nO hC (by decide) (by decide) _)) lt_nO hm
  exact ⟨(ext_nO π 1 7).tr q.1, q.2⟩

set_option maxHeartbeats 8000000 in
set_option maxRecDepth 100000 in
theorem km_Rw_within {N : Nat} {rRow : Sh → St → Int → Int → Option St} (hmrRow : ∀ {π : Sh} {σ : St} {y1 : Int} {y2 : Int} {r : St}, Cl π σ → y1 < nn π → rRow π σ y1 y2 = some r → Cl π r) {π : Sh} {σ : St} {x1 : Int} {x2 : Int} {x4 : Int} {x6 : Int} {r : St} (hC : Cl π σ) (hv_x1 : x1 < nn π) (hm : Rw_within N rRow π σ x1 x2 x4 x6 = some r) : Cl π r := by
  have hS := hC.1
  rw [Rw_within] at hm
  obtain ⟨g1, hm⟩ := grd_s hm
  obtain ⟨g2, hm⟩ := grd_s hm
  obtain ⟨g3, hm⟩ := grd_s hm
  obtain ⟨r4, e5, hm⟩ := obd_s hm
  have q6 := (hmrRow hC (cl_el hC g2 (by decide) 0) e5)
  have hC7 : Cl π r4 := q6
  obtain ⟨g8, hm⟩ := grd_s hm
  obtain ⟨g9, hm⟩ := grd_s hm
  obtain ⟨g10, hm⟩ := grd_s hm
  obtain ⟨g11, hm⟩ := grd_s hm
  obtain ⟨g12, hm⟩ := grd_s hm
  obtain ⟨g13, hm⟩ := grd_s hm
  obtain ⟨r14, e15, hm⟩ := obd_s hm
  have q16 := (km_Es_scale hC7 e15)
  have hC17 : Cl π r14 := q16
  obtain ⟨r18, e19, hm⟩ := obd_s hm
  have q20 := (km_Es_choose hC17 e19)
  have hC21 : Cl π r18 := q20
  obtain ⟨g22, hm⟩ := grd_s hm
  obtain ⟨g23, hm⟩ := grd_s hm
  obtain ⟨r24, e25, hm⟩ := obd_s hm
  have q26 := (hmrRow hC21 (cl_el hC21 g22 (by decide) 1) e25)
  have hC27 : Cl π r24 := q26
  obtain ⟨g28, hm⟩ := grd_s hm
  obtain ⟨g29, hm⟩ := grd_s hm
  obtain ⟨g30, hm⟩ := grd_s hm
  obtain ⟨g31, hm⟩ := grd_s hm
  obtain ⟨g32, hm⟩ := grd_s hm
  obtain ⟨g33, hm⟩ := grd_s hm
  obtain ⟨r34, e35, hm⟩ := obd_s hm
  have q36 := (km_Es_scale hC27 e35)
  have hC37 : Cl π r34 := q36
  obtain ⟨r38, e39, hm⟩ := obd_s hm
  have q40 := (km_Es_choose hC37 e39)
  have hC41 : Cl π r38 := q40
  obtain ⟨r42, e43, hm⟩ := obd_s hm
  have q44 := (km_Es_sort hC41 e43)
  have hC45 : Cl π r42 := q44
  cases hm
  exact hC45
set_option maxHeartbeats 8000000 in
set_option maxRecDepth 100000 in
theorem km_Rw_chunk {N : Nat} {rRow : Sh → St → Int → Int → Option St} (hmrRow : ∀ {π : Sh} {σ : St} {y1 : Int} {y2 : Int} {r : St}, Cl π σ → y1 < nn π → rRow π σ y1 y2 = some r → Cl π r) {π : Sh} {σ : St} {x1 : Int} {x2 : Int} {r : St} (hC : Cl π σ) (hv_x1 : x1 < nn π) (hm : Rw_chunk N rRow π σ x1 x2 = some r) : Cl π r := by
  have hS := hC.1
  rw [Rw_chunk] at hm
  obtain ⟨g1, hm⟩ := grd_s hm
  obtain ⟨g2, hm⟩ := grd_s hm
  obtain ⟨g3, hm⟩ := grd_s hm
  obtain ⟨g4, hm⟩ := grd_s hm
  obtain ⟨v5, e6, hm⟩ := bnd_s hm
  obtain ⟨r7, e8, hm⟩ := obd_s hm
  obtain ⟨r9, e10, hm⟩ := obd_s hm
  obtain ⟨r11, e12, hm⟩ := obd_s hm
  obtain ⟨r13, e14, hm⟩ := obd_s hm
  have q15 := (km_Rw_within hmrRow hC hv_x1 e14)
  have hC16 : Cl π r13 := q15
  cases hm
  exact hC16
set_option maxHeartbeats 8000000 in
set_option maxRecDepth 100000 in
theorem km_Rw_draw {N : Nat}   {π : Sh} {σ : St} {x1 : Int} {x3 : Int} {x5 : Int} {x7 : Int} {r : St × Int} (hC : Cl π σ)  (hm : Rw_draw N π σ x1 x3 x5 x7 = some r) : Cl π r.1 := by
  have hS := hC.1
  rw [Rw_draw] at hm
  obtain ⟨r1, e2, hm⟩ := obd_s hm
  obtain ⟨g3, hm⟩ := grd_s hm
  obtain ⟨g4, hm⟩ := grd_s hm
  obtain ⟨g5, hm⟩ := grd_s hm
  obtain ⟨v6, e7, hm⟩ := bnd_s hm
  obtain ⟨g8, hm⟩ := grd_s hm
  obtain ⟨v9, e10, hm⟩ := bnd_s hm
  obtain ⟨g11, hm⟩ := grd_s hm
  obtain ⟨g12, hm⟩ := grd_s hm
  obtain ⟨v13, e14, hm⟩ := bnd_s hm
  obtain ⟨v15, e16, hm⟩ := bnd_s hm
  obtain ⟨v17, e18, hm⟩ := bnd_s hm
  obtain ⟨v19, e20, hm⟩ := bnd_s hm
  obtain ⟨g21, hm⟩ := grd_s hm
  cases hm
  exact hC
set_option maxHeartbeats 8000000 in
set_option maxRecDepth 100000 in
theorem km_Rw_draws_119 {N : Nat} {rRow : Sh → St → Int → Int → Option St} (hmrRow : ∀ {π : Sh} {σ : St} {y1 : Int} {y2 : Int} {r : St}, Cl π σ → y1 < nn π → rRow π σ y1 y2 = some r → Cl π r) {π : Sh} {r : St} {rec43 : St → Int → Int → Int → Int → Int → Option St} (krec43 : ∀ {σ : St} {x1 : Int} {x2 : Int} {x4 : Int} {x5 : Int} {x6 : Int}, Cl π σ → x1 < nn π → rec43 σ x1 x2 x4 x5 x6 = some r → Cl π r) {σ : St} {x1 : Int} {x2 : Int} {x4 : Int} {x5 : Int} {x6 : Int} {s0 : Int} {s1 : Int} (hC : Cl π σ) (hv_x1 : x1 < nn π) (hm : Rw_draws_119 N rRow π rec43 σ x1 x2 x4 x5 x6 s0 s1 = some r) : Cl π r := by
  have hS := hC.1
  rw [Rw_draws_119] at hm
  obtain ⟨g32, hm⟩ := grd_s hm
  exact krec43 (cl_seI hC (sh_16 hS) (by decide) _ _) hv_x1 hm
set_option maxHeartbeats 8000000 in
set_option maxRecDepth 100000 in
theorem km_Rw_draws_96 {N : Nat} {rRow : Sh → St → Int → Int → Option St} (hmrRow : ∀ {π : Sh} {σ : St} {y1 : Int} {y2 : Int} {r : St}, Cl π σ → y1 < nn π → rRow π σ y1 y2 = some r → Cl π r) {π : Sh} {r : St} {rec43 : St → Int → Int → Int → Int → Int → Option St} (krec43 : ∀ {σ : St} {x1 : Int} {x2 : Int} {x4 : Int} {x5 : Int} {x6 : Int}, Cl π σ → x1 < nn π → rec43 σ x1 x2 x4 x5 x6 = some r → Cl π r) {σ : St} {x1 : Int} {x2 : Int} {x4 : Int} {x5 : Int} {x6 : Int} {s0 : Int} (hC : Cl π σ) (hv_x1 : x1 < nn π) (hm : Rw_draws_96 N rRow π rec43 σ x1 x2 x4 x5 x6 s0 = some r) : Cl π r := by
  have hS := hC.1
  rw [Rw_draws_96] at hm
  obtain ⟨g29, hm⟩ := grd_s hm
  obtain ⟨g30, hm⟩ := grd_s hm
  by_cases c31 : s0 = x5
  · have hm := ite_t c31 hm
    exact km_Rw_draws_119 hmrRow krec43 hC hv_x1 hm
  · have hm := ite_f c31 hm
    exact km_Rw_draws_119 hmrRow krec43 hC hv_x1 hm
set_option maxHeartbeats 8000000 in
set_option maxRecDepth 100000 in
theorem km_Rw_draws_43 {N : Nat} {rRow : Sh → St → Int → Int → Option St} (hmrRow : ∀ {π : Sh} {σ : St} {y1 : Int} {y2 : Int} {r : St}, Cl π σ → y1 < nn π → rRow π σ y1 y2 = some r → Cl π r) {π : Sh} {r : St}  (n : Nat) : ∀ {σ : St} {x1 : Int} {x2 : Int} {x4 : Int} {x5 : Int} {x6 : Int}, Cl π σ → x1 < nn π → Rw_draws_43 N rRow π n σ x1 x2 x4 x5 x6 = some r → Cl π r := by
  induction n with
  | zero => intro σ x1 x2 x4 x5 x6 hC hv_x1 hm; cases (show none = some r from hm)
  | succ n krec43 =>
    intro σ x1 x2 x4 x5 x6 hC hv_x1 hm
    have hS := hC.1
    rw [Rw_draws_43] at hm
    obtain ⟨g11, hm⟩ := grd_s hm
    obtain ⟨g12, hm⟩ := grd_s hm
    by_cases c13 : x6 < (fl σ 46 10)
    · have hm := ite_t c13 hm
      obtain ⟨g18, hm⟩ := grd_s hm
      obtain ⟨g19, hm⟩ := grd_s hm
      obtain ⟨g20, hm⟩ := grd_s hm
      obtain ⟨r21, e22, hm⟩ := obd_s hm
      have q23 := (km_Rw_draw hC e22)
      have hC24 : Cl π r21.1 := q23
      obtain ⟨g25, hm⟩ := grd_s hm
      obtain ⟨g26, hm⟩ := grd_s hm
      obtain ⟨g27, hm⟩ := grd_s hm
      by_cases c28 : r21.2 < (fl r21.1 202 (fl r21.1 100 x1))
      · have hm := ite_t c28 hm
        exact km_Rw_draws_96 hmrRow krec43 hC24 hv_x1 hm
      · have hm := ite_f c28 hm
        exact km_Rw_draws_96 hmrRow krec43 hC24 hv_x1 hm
    · have hm := ite_f c13 hm
      obtain ⟨r14, e15, hm⟩ := obd_s hm
      have q16 := (km_Es_chooseMarked hC e15)
      have hC17 : Cl π r14 := q16
      cases hm
      exact hC17
set_option maxHeartbeats 8000000 in
set_option maxRecDepth 100000 in
theorem km_Rw_draws_37 {N : Nat} {rRow : Sh → St → Int → Int → Option St} (hmrRow : ∀ {π : Sh} {σ : St} {y1 : Int} {y2 : Int} {r : St}, Cl π σ → y1 < nn π → rRow π σ y1 y2 = some r → Cl π r) {π : Sh} {r : St}  {σ : St} {x1 : Int} {x2 : Int} {x4 : Int} {s0 : Int} (hC : Cl π σ) (hv_x1 : x1 < nn π) (hm : Rw_draws_37 N rRow π σ x1 x2 x4 s0 = some r) : Cl π r := by
  have hS := hC.1
  rw [Rw_draws_37] at hm
  exact km_Rw_draws_43 hmrRow N hC hv_x1 hm
set_option maxHeartbeats 8000000 in
set_option maxRecDepth 100000 in
theorem km_Rw_draws {N : Nat} {rRow : Sh → St → Int → Int → Option St} (hmrRow : ∀ {π : Sh} {σ : St} {y1 : Int} {y2 : Int} {r : St}, Cl π σ → y1 < nn π → rRow π σ y1 y2 = some r → Cl π r) {π : Sh} {σ : St} {x1 : Int} {x2 : Int} {r : St} (hC : Cl π σ) (hv_x1 : x1 < nn π) (hm : Rw_draws N rRow π σ x1 x2 = some r) : Cl π r := by
  have hS := hC.1
  rw [Rw_draws] at hm
  obtain ⟨g1, hm⟩ := grd_s hm
  obtain ⟨g2, hm⟩ := grd_s hm
  obtain ⟨g3, hm⟩ := grd_s hm
  obtain ⟨r4, e5, hm⟩ := obd_s hm
  have q6 := (hmrRow hC (cl_el hC g2 (by decide) 0) e5)
  have hC7 : Cl π r4 := q6
  obtain ⟨g8, hm⟩ := grd_s hm
  obtain ⟨g9, hm⟩ := grd_s hm
  by_cases c10 : (fl r4 200 (fl r4 100 x1)) = 23
  · have hm := ite_t c10 hm
    exact km_Rw_draws_37 hmrRow hC7 hv_x1 hm
  · have hm := ite_f c10 hm
    exact km_Rw_draws_37 hmrRow hC7 hv_x1 hm
set_option maxHeartbeats 8000000 in
set_option maxRecDepth 100000 in
theorem km_Rw_either_20 {N : Nat} {rRow : Sh → St → Int → Int → Option St} (hmrRow : ∀ {π : Sh} {σ : St} {y1 : Int} {y2 : Int} {r : St}, Cl π σ → y1 < nn π → rRow π σ y1 y2 = some r → Cl π r) {π : Sh} {r : St}  {σ : St} {x1 : Int} {x2 : Int} {s0 : Int} (hC : Cl π σ) (hv_x1 : x1 < nn π) (hv_s0 : s0 < nn π) (hm : Rw_either_20 N rRow π σ x1 x2 s0 = some r) : Cl π r := by
  have hS := hC.1
  rw [Rw_either_20] at hm
  obtain ⟨r9, e10, hm⟩ := obd_s hm
  have q11 := (hmrRow hC hv_s0 e10)
  have hC12 : Cl π r9 := q11
  obtain ⟨g13, hm⟩ := grd_s hm
  obtain ⟨g14, hm⟩ := grd_s hm
  obtain ⟨g15, hm⟩ := grd_s hm
  obtain ⟨g16, hm⟩ := grd_s hm
  obtain ⟨g17, hm⟩ := grd_s hm
  obtain ⟨r18, e19, hm⟩ := obd_s hm
  have q20 := (km_Es_scale hC12 e19)
  have hC21 : Cl π r18 := q20
  cases hm
  exact hC21
set_option maxHeartbeats 8000000 in
set_option maxRecDepth 100000 in
theorem km_Rw_either {N : Nat} {rRow : Sh → St → Int → Int → Option St} (hmrRow : ∀ {π : Sh} {σ : St} {y1 : Int} {y2 : Int} {r : St}, Cl π σ → y1 < nn π → rRow π σ y1 y2 = some r → Cl π r) {π : Sh} {σ : St} {x1 : Int} {x2 : Int} {x4 : Int} {r : St} (hC : Cl π σ) (hv_x1 : x1 < nn π) (hm : Rw_either N rRow π σ x1 x2 x4 = some r) : Cl π r := by
  have hS := hC.1
  rw [Rw_either] at hm
  obtain ⟨g1, hm⟩ := grd_s hm
  by_cases c2 : x4 = 0
  · have hm := ite_t c2 hm
    obtain ⟨g3, hm⟩ := grd_s hm
    obtain ⟨g4, hm⟩ := grd_s hm
    obtain ⟨g5, hm⟩ := grd_s hm
    exact km_Rw_either_20 hmrRow hC hv_x1 (cl_el hC g4 (by decide) 0) hm
  · have hm := ite_f c2 hm
    obtain ⟨g6, hm⟩ := grd_s hm
    obtain ⟨g7, hm⟩ := grd_s hm
    obtain ⟨g8, hm⟩ := grd_s hm
    exact km_Rw_either_20 hmrRow hC hv_x1 (cl_el hC g7 (by decide) 1) hm
set_option maxHeartbeats 8000000 in
set_option maxRecDepth 100000 in
theorem km_Rw_euclid_136 {N : Nat} {rRow : Sh → St → Int → Int → Option St} (hmrRow : ∀ {π : Sh} {σ : St} {y1 : Int} {y2 : Int} {r : St}, Cl π σ → y1 < nn π → rRow π σ y1 y2 = some r → Cl π r) {π : Sh} {r : St} {rec46 : St → Int → Int → Int → Int → Int → Int → Int → Int → Option St} (krec46 : ∀ {σ : St} {x2 : Int} {x4 : Int} {x5 : Int} {x6 : Int} {x7 : Int} {x8 : Int} {x9 : Int} {x11 : Int}, Cl π σ → x4 < nn π → x5 < nn π → rec46 σ x2 x4 x5 x6 x7 x8 x9 x11 = some r → Cl π r) {σ : St} {x2 : Int} {x4 : Int} {x5 : Int} {x6 : Int} {x7 : Int} {x8 : Int} {x9 : Int} {x11 : Int} (hC : Cl π σ) (hv_x4 : x4 < nn π) (hv_x5 : x5 < nn π) (hm : Rw_euclid_136 N rRow π rec46 σ x2 x4 x5 x6 x7 x8 x9 x11 = some r) : Cl π r := by
  have hS := hC.1
  rw [Rw_euclid_136] at hm
  exact krec46 hC hv_x4 hv_x5 hm
set_option maxHeartbeats 8000000 in
set_option maxRecDepth 100000 in
theorem km_Rw_euclid_146 {N : Nat} {rRow : Sh → St → Int → Int → Option St} (hmrRow : ∀ {π : Sh} {σ : St} {y1 : Int} {y2 : Int} {r : St}, Cl π σ → y1 < nn π → rRow π σ y1 y2 = some r → Cl π r) {π : Sh} {r : St}  (n : Nat) : ∀ {σ : St} {x5 : Int} {x8 : Int} {x9 : Int} {x11 : Int}, Cl π σ → x5 < nn π → Rw_euclid_146 N rRow π n σ x5 x8 x9 x11 = some r → Cl π r := by
  induction n with
  | zero => intro σ x5 x8 x9 x11 hC hv_x5 hm; cases (show none = some r from hm)
  | succ n krec146 =>
    intro σ x5 x8 x9 x11 hC hv_x5 hm
    have hS := hC.1
    rw [Rw_euclid_146] at hm
    obtain ⟨g31, hm⟩ := grd_s hm
    obtain ⟨g32, hm⟩ := grd_s hm
    by_cases c33 : x11 < x8
    · have hm := ite_t c33 hm
      obtain ⟨g34, hm⟩ := grd_s hm
      obtain ⟨g35, hm⟩ := grd_s hm
      exact krec146 (cl_seI hC (sh_11 hS) (by decide) _ _) hv_x5 hm
    · have hm := ite_f c33 hm
      cases hm
      exact hC
set_option maxHeartbeats 8000000 in
set_option maxRecDepth 100000 in
theorem km_Rw_euclid_46 {N : Nat} {rRow : Sh → St → Int → Int → Option St} (hmrRow : ∀ {π : Sh} {σ : St} {y1 : Int} {y2 : Int} {r : St}, Cl π σ → y1 < nn π → rRow π σ y1 y2 = some r → Cl π r) {π : Sh} {r : St}  (n : Nat) : ∀ {σ : St} {x2 : Int} {x4 : Int} {x5 : Int} {x6 : Int} {x7 : Int} {x8 : Int} {x9 : Int} {x11 : Int}, Cl π σ → x4 < nn π → x5 < nn π → Rw_euclid_46 N rRow π n σ x2 x4 x5 x6 x7 x8 x9 x11 = some r → Cl π r := by
  induction n with
  | zero => intro σ x2 x4 x5 x6 x7 x8 x9 x11 hC hv_x4 hv_x5 hm; cases (show none = some r from hm)
  | succ n krec46 =>
    intro σ x2 x4 x5 x6 x7 x8 x9 x11 hC hv_x4 hv_x5 hm
    have hS := hC.1
    rw [Rw_euclid_46] at hm
    obtain ⟨g10, hm⟩ := grd_s hm
    obtain ⟨g11, hm⟩ := grd_s hm
    by_cases c12 : x11 < x6
    · have hm := ite_t c12 hm
      obtain ⟨g13, hm⟩ := grd_s hm
      obtain ⟨g14, hm⟩ := grd_s hm
      obtain ⟨g15, hm⟩ := grd_s hm
      obtain ⟨g16, hm⟩ := grd_s hm
      obtain ⟨g17, hm⟩ := grd_s hm
      obtain ⟨g18, hm⟩ := grd_s hm
      by_cases c19 : (Int.tmod ((Int.tmod (x11 + (fl σ 204 x4)) x6) * (fl σ 202 x4)) x6) < (fl σ 202 x4)
      · have hm := ite_t c19 hm
        obtain ⟨g20, hm⟩ := grd_s hm
        by_cases c21 : x9 < 0
        · have hm := ite_t c21 hm
          obtain ⟨r27, e28, hm⟩ := obd_s hm
          have q29 := (hmrRow hC hv_x5 e28)
          have hC30 : Cl π r27 := q29
          exact km_Rw_euclid_136 hmrRow krec46 hC30 hv_x4 hv_x5 hm
        · have hm := ite_f c21 hm
          obtain ⟨g22, hm⟩ := grd_s hm
          obtain ⟨r23, e24, hm⟩ := obd_s hm
          have q25 := (km_Es_pushAgain hC e24)
          have hC26 : Cl π r23 := q25
          exact km_Rw_euclid_136 hmrRow krec46 hC26 hv_x4 hv_x5 hm
      · have hm := ite_f c19 hm
        exact km_Rw_euclid_136 hmrRow krec46 hC hv_x4 hv_x5 hm
    · have hm := ite_f c12 hm
      exact km_Rw_euclid_146 hmrRow N hC hv_x5 hm
set_option maxHeartbeats 8000000 in
set_option maxRecDepth 100000 in
theorem km_Rw_euclid {N : Nat} {rRow : Sh → St → Int → Int → Option St} (hmrRow : ∀ {π : Sh} {σ : St} {y1 : Int} {y2 : Int} {r : St}, Cl π σ → y1 < nn π → rRow π σ y1 y2 = some r → Cl π r) {π : Sh} {σ : St} {x1 : Int} {x2 : Int} {r : St} (hC : Cl π σ) (hv_x1 : x1 < nn π) (hm : Rw_euclid N rRow π σ x1 x2 = some r) : Cl π r := by
  have hS := hC.1
  rw [Rw_euclid] at hm
  obtain ⟨g1, hm⟩ := grd_s hm
  obtain ⟨g2, hm⟩ := grd_s hm
  obtain ⟨g3, hm⟩ := grd_s hm
  obtain ⟨v4, e5, hm⟩ := bnd_s hm
  obtain ⟨g6, hm⟩ := grd_s hm
  obtain ⟨g7, hm⟩ := grd_s hm
  obtain ⟨v8, e9, hm⟩ := bnd_s hm
  exact km_Rw_euclid_46 hmrRow N hC (cl_fl hC (f := 100) rfl x1) (e5 ▸ (cl_el hC g2 (by decide) 0)) hm
set_option maxHeartbeats 8000000 in
set_option maxRecDepth 100000 in
theorem km_Rw_fast_62 {N : Nat} {rRow : Sh → St → Int → Int → Option St} (hmrRow : ∀ {π : Sh} {σ : St} {y1 : Int} {y2 : Int} {r : St}, Cl π σ → y1 < nn π → rRow π σ y1 y2 = some r → Cl π r) {π : Sh} {r : St}  (n : Nat) : ∀ {σ : St} {x1 : Int} {x2 : Int} {x4 : Int} {x5 : Int} {x7 : Int} {x9 : Int} {x11 : Int}, Cl π σ → x1 < nn π → x4 < nn π → Rw_fast_62 N rRow π n σ x1 x2 x4 x5 x7 x9 x11 = some r → Cl π r := by
  induction n with
  | zero => intro σ x1 x2 x4 x5 x7 x9 x11 hC hv_x1 hv_x4 hm; cases (show none = some r from hm)
  | succ n krec62 =>
    intro σ x1 x2 x4 x5 x7 x9 x11 hC hv_x1 hv_x4 hm
    have hS := hC.1
    rw [Rw_fast_62] at hm
    obtain ⟨g19, hm⟩ := grd_s hm
    obtain ⟨g20, hm⟩ := grd_s hm
    by_cases c21 : x9 < x11
    · have hm := ite_t c21 hm
      cases hm
      exact hC
    · have hm := ite_f c21 hm
      obtain ⟨r22, e23, hm⟩ := obd_s hm
      have q24 := (hmrRow hC hv_x4 e23)
      have hC25 : Cl π r22 := q24
      obtain ⟨g26, hm⟩ := grd_s hm
      obtain ⟨r27, e28, hm⟩ := obd_s hm
      have q29 := (km_Es_scale hC25 e28)
      have hC30 : Cl π r27 := q29
      obtain ⟨g31, hm⟩ := grd_s hm
      obtain ⟨r32, e33, hm⟩ := obd_s hm
      have q34 := (km_Es_choose hC30 e33)
      have hC35 : Cl π r32 := q34
      obtain ⟨v36, e37, hm⟩ := bnd_s hm
      exact krec62 hC35 hv_x1 hv_x4 hm
set_option maxHeartbeats 8000000 in
set_option maxRecDepth 100000 in
theorem km_Rw_fast {N : Nat} {rRow : Sh → St → Int → Int → Option St} (hmrRow : ∀ {π : Sh} {σ : St} {y1 : Int} {y2 : Int} {r : St}, Cl π σ → y1 < nn π → rRow π σ y1 y2 = some r → Cl π r) {π : Sh} {σ : St} {x1 : Int} {x2 : Int} {r : St} (hC : Cl π σ) (hv_x1 : x1 < nn π) (hm : Rw_fast N rRow π σ x1 x2 = some r) : Cl π r := by
  have hS := hC.1
  rw [Rw_fast] at hm
  obtain ⟨g1, hm⟩ := grd_s hm
  obtain ⟨g2, hm⟩ := grd_s hm
  obtain ⟨g3, hm⟩ := grd_s hm
  obtain ⟨v4, e5, hm⟩ := bnd_s hm
  obtain ⟨g6, hm⟩ := grd_s hm
  obtain ⟨g7, hm⟩ := grd_s hm
  obtain ⟨g8, hm⟩ := grd_s hm
  obtain ⟨v9, e10, hm⟩ := bnd_s hm
  obtain ⟨g11, hm⟩ := grd_s hm
  obtain ⟨g12, hm⟩ := grd_s hm
  obtain ⟨v13, e14, hm⟩ := bnd_s hm
  obtain ⟨r15, e16, hm⟩ := obd_s hm
  obtain ⟨r17, e18, hm⟩ := obd_s hm
  exact km_Rw_fast_62 hmrRow N hC hv_x1 (e5 ▸ (cl_el hC g2 (by decide) 0)) hm
set_option maxHeartbeats 8000000 in
set_option maxRecDepth 100000 in
theorem km_Rw_layer_12 {N : Nat} {rRow : Sh → St → Int → Int → Option St} (hmrRow : ∀ {π : Sh} {σ : St} {y1 : Int} {y2 : Int} {r : St}, Cl π σ → y1 < nn π → rRow π σ y1 y2 = some r → Cl π r) {π : Sh} {r : St}  (n : Nat) : ∀ {σ : St} {x1 : Int} {x2 : Int} {x4 : Int} {x5 : Int}, Cl π σ → x1 < nn π → Rw_layer_12 N rRow π n σ x1 x2 x4 x5 = some r → Cl π r := by
  induction n with
  | zero => intro σ x1 x2 x4 x5 hC hv_x1 hm; cases (show none = some r from hm)
  | succ n krec12 =>
    intro σ x1 x2 x4 x5 hC hv_x1 hm
    have hS := hC.1
    rw [Rw_layer_12] at hm
    obtain ⟨g1, hm⟩ := grd_s hm
    obtain ⟨g2, hm⟩ := grd_s hm
    obtain ⟨g3, hm⟩ := grd_s hm
    obtain ⟨g4, hm⟩ := grd_s hm
    obtain ⟨g5, hm⟩ := grd_s hm
    by_cases c6 : x5 < (ln π (fl σ 101 x1))
    · have hm := ite_t c6 hm
      obtain ⟨g11, hm⟩ := grd_s hm
      obtain ⟨r12, e13, hm⟩ := obd_s hm
      have q14 := (hmrRow hC (cl_el hC g2 (by decide) x5) e13)
      have hC15 : Cl π r12 := q14
      obtain ⟨g16, hm⟩ := grd_s hm
      obtain ⟨g17, hm⟩ := grd_s hm
      obtain ⟨g18, hm⟩ := grd_s hm
      obtain ⟨g19, hm⟩ := grd_s hm
      obtain ⟨g20, hm⟩ := grd_s hm
      obtain ⟨g21, hm⟩ := grd_s hm
      obtain ⟨r22, e23, hm⟩ := obd_s hm
      have q24 := (km_Es_scale hC15 e23)
      have hC25 : Cl π r22 := q24
      exact krec12 hC25 hv_x1 hm
    · have hm := ite_f c6 hm
      obtain ⟨r7, e8, hm⟩ := obd_s hm
      have q9 := (km_Es_sort hC e8)
      have hC10 : Cl π r7 := q9
      cases hm
      exact hC10
set_option maxHeartbeats 8000000 in
set_option maxRecDepth 100000 in
theorem km_Rw_layer {N : Nat} {rRow : Sh → St → Int → Int → Option St} (hmrRow : ∀ {π : Sh} {σ : St} {y1 : Int} {y2 : Int} {r : St}, Cl π σ → y1 < nn π → rRow π σ y1 y2 = some r → Cl π r) {π : Sh} {σ : St} {x1 : Int} {x2 : Int} {r : St} (hC : Cl π σ) (hv_x1 : x1 < nn π) (hm : Rw_layer N rRow π σ x1 x2 = some r) : Cl π r := by
  have hS := hC.1
  rw [Rw_layer] at hm
  exact km_Rw_layer_12 hmrRow N hC hv_x1 hm
set_option maxHeartbeats 8000000 in
set_option maxRecDepth 100000 in
theorem km_Rw_overwrite_32 {N : Nat}   {π : Sh} {r : St}  {σ : St} {x1 : Int} {x2 : Int} (hC : Cl π σ)  (hm : Rw_overwrite_32 N π σ x1 x2 = some r) : Cl π r := by
  have hS := hC.1
  rw [Rw_overwrite_32] at hm
  obtain ⟨g5, hm⟩ := grd_s hm
  obtain ⟨g6, hm⟩ := grd_s hm
  by_cases c7 : (el σ 15 x2) = 0
  · have hm := ite_t c7 hm
    cases hm
    exact hC
  · have hm := ite_f c7 hm
    obtain ⟨g8, hm⟩ := grd_s hm
    cases hm
    exact (cl_seI (cl_seI hC (sh_14 hS) (by decide) _ _) (sh_15 hS) (by decide) _ _)
set_option maxHeartbeats 8000000 in
set_option maxRecDepth 100000 in
theorem km_Rw_overwrite {N : Nat}   {π : Sh} {σ : St} {x1 : Int} {x2 : Int} {r : St} (hC : Cl π σ)  (hm : Rw_overwrite N π σ x1 x2 = some r) : Cl π r := by
  have hS := hC.1
  rw [Rw_overwrite] at hm
  obtain ⟨g1, hm⟩ := grd_s hm
  obtain ⟨g2, hm⟩ := grd_s hm
  by_cases c3 : (el σ 13 x2) = 0
  · have hm := ite_t c3 hm
    exact km_Rw_overwrite_32 hC hm
  · have hm := ite_f c3 hm
    obtain ⟨g4, hm⟩ := grd_s hm
    exact km_Rw_overwrite_32 (cl_seI hC (sh_13 hS) (by decide) _ _) hm

set_option maxHeartbeats 8000000 in
set_option maxRecDepth 100000 in
theorem km_Rw_join_127 {N : Nat}   {π : Sh} {r : St}  {σ : St} {x1 : Int} {x2 : Int} {x3 : Int} (hC : Cl π σ) (hv_x1 : x1 < nn π) (hm : Rw_join_127 N π σ x1 x2 x3 = some r) : Cl π r := by
  have hS := hC.1
  rw [Rw_join_127] at hm
  obtain ⟨g27, hm⟩ := grd_s hm
  obtain ⟨g28, hm⟩ := grd_s hm
  by_cases c29 : (fl σ 200 x1) = 21
  · have hm := ite_t c29 hm
    obtain ⟨g30, hm⟩ := grd_s hm
    obtain ⟨g31, hm⟩ := grd_s hm
    by_cases c32 : (el σ 15 x2) = 0
    · have hm := ite_t c32 hm
      cases hm
      exact hC
    · have hm := ite_f c32 hm
      obtain ⟨g33, hm⟩ := grd_s hm
      obtain ⟨g34, hm⟩ := grd_s hm
      by_cases c35 : (el σ 15 x3) = 0
      · have hm := ite_t c35 hm
        cases hm
        exact hC
      · have hm := ite_f c35 hm
        obtain ⟨r36, e37, hm⟩ := obd_s hm
        cases hm
        exact (cl_seI hC (sh_14 hS) (by decide) _ _)
  · have hm := ite_f c29 hm
    cases hm
    exact hC
set_option maxHeartbeats 8000000 in
set_option maxRecDepth 100000 in
theorem km_Rw_join_33 {N : Nat}   {π : Sh} {r : St}  {σ : St} {x1 : Int} {x2 : Int} {x3 : Int} {s0 : Int} {s1 : Int} (hC : Cl π σ) (hv_x1 : x1 < nn π) (hm : Rw_join_33 N π σ x1 x2 x3 s0 s1 = some r) : Cl π r := by
  have hS := hC.1
  rw [Rw_join_33] at hm
  obtain ⟨g10, hm⟩ := grd_s hm
  obtain ⟨g11, hm⟩ := grd_s hm
  obtain ⟨g12, hm⟩ := grd_s hm
  by_cases c13 : (fl σ 200 x1) = 19
  · have hm := ite_t c13 hm
    obtain ⟨g24, hm⟩ := grd_s hm
    obtain ⟨g25, hm⟩ := grd_s hm
    obtain ⟨g26, hm⟩ := grd_s hm
    cases hm
    exact (cl_seI (cl_seI (cl_seI (cl_seI hC (sh_16 hS) (by decide) _ _) (sh_13 hS) (by decide) _ _) (sh_14 hS) (by decide) _ _) (sh_15 hS) (by decide) _ _)
  · have hm := ite_f c13 hm
    by_cases c14 : (fl σ 200 x1) = 21
    · have hm := ite_t c14 hm
      obtain ⟨g15, hm⟩ := grd_s hm
      by_cases c16 : (fl σ 202 x1) = 35
      · have hm := ite_t c16 hm
        obtain ⟨σ17, e18, hm⟩ := bnd_s hm
        have hC19 : Cl π σ17 := e18 ▸ (cl_seI hC (sh_16 hS) (by decide) _ _)
        obtain ⟨r20, e21, hm⟩ := obd_s hm
        have q22 := (km_Rw_overwrite hC19 e21)
        have hC23 : Cl π r20 := q22
        cases hm
        exact hC23
      · have hm := ite_f c16 hm
        exact km_Rw_join_127 (cl_seI hC (sh_16 hS) (by decide) _ _) hv_x1 hm
    · have hm := ite_f c14 hm
      exact km_Rw_join_127 (cl_seI hC (sh_16 hS) (by decide) _ _) hv_x1 hm
set_option maxHeartbeats 8000000 in
set_option maxRecDepth 100000 in
theorem km_Rw_join_32 {N : Nat}   {π : Sh} {r : St}  {σ : St} {x1 : Int} {x2 : Int} {x3 : Int} {s0 : Int} (hC : Cl π σ) (hv_x1 : x1 < nn π) (hm : Rw_join_32 N π σ x1 x2 x3 s0 = some r) : Cl π r := by
  have hS := hC.1
  rw [Rw_join_32] at hm
  exact km_Rw_join_33 hC hv_x1 hm
set_option maxHeartbeats 8000000 in
set_option maxRecDepth 100000 in
theorem km_Rw_join {N : Nat}   {π : Sh} {σ : St} {x1 : Int} {x2 : Int} {x3 : Int} {r : St} (hC : Cl π σ) (hv_x1 : x1 < nn π) (hm : Rw_join N π σ x1 x2 x3 = some r) : Cl π r := by
  have hS := hC.1
  rw [Rw_join] at hm
  obtain ⟨g1, hm⟩ := grd_s hm
  obtain ⟨g2, hm⟩ := grd_s hm
  by_cases c3 : (fl σ 200 x1) = 20
  · have hm := ite_t c3 hm
    obtain ⟨r4, e5, hm⟩ := obd_s hm
    have q6 := (km_Es_isLoud hC e5)
    have hC7 : Cl π r4.1 := q6
    obtain ⟨g8, hm⟩ := grd_s hm
    by_cases c9 : r4.2 = 0
    · have hm := ite_t c9 hm
      exact km_Rw_join_33 hC7 hv_x1 hm
    · have hm := ite_f c9 hm
      exact km_Rw_join_32 hC7 hv_x1 hm
  · have hm := ite_f c3 hm
    exact km_Rw_join_32 hC hv_x1 hm
set_option maxHeartbeats 8000000 in
set_option maxRecDepth 100000 in
theorem km_Rw_meetRow_155 {N : Nat}   {π : Sh} {r : St × Int} {rec9 : St → Int → Int → Int → Int → Int → Int → Int → Int → Option (St × Int)} (krec9 : ∀ {σ : St} {x1 : Int} {x3 : Int} {x4 : Int} {x6 : Int} {x8 : Int} {x10 : Int} {x11 : Int} {x12 : Int}, Cl π σ → x1 < nn π → rec9 σ x1 x3 x4 x6 x8 x10 x11 x12 = some r → Cl π r.1) {σ : St} {x1 : Int} {x3 : Int} {x4 : Int} {x6 : Int} {x8 : Int} {x10 : Int} {x11 : Int} {x12 : Int} (hC : Cl π σ) (hv_x1 : x1 < nn π) (hm : Rw_meetRow_155 N π rec9 σ x1 x3 x4 x6 x8 x10 x11 x12 = some r) : Cl π r.1 := by
  have hS := hC.1
  rw [Rw_meetRow_155] at hm
  exact krec9 hC hv_x1 hm
set_option maxHeartbeats 8000000 in
set_option maxRecDepth 100000 in
theorem km_Rw_meetRow_137 {N : Nat}   {π : Sh} {r : St × Int} {rec9 : St → Int → Int → Int → Int → Int → Int → Int → Int → Option (St × Int)} (krec9 : ∀ {σ : St} {x1 : Int} {x3 : Int} {x4 : Int} {x6 : Int} {x8 : Int} {x10 : Int} {x11 : Int} {x12 : Int}, Cl π σ → x1 < nn π → rec9 σ x1 x3 x4 x6 x8 x10 x11 x12 = some r → Cl π r.1) {σ : St} {x1 : Int} {x3 : Int} {x4 : Int} {x6 : Int} {x8 : Int} {x10 : Int} {x11 : Int} {x12 : Int} {x15 : Int} (hC : Cl π σ) (hv_x1 : x1 < nn π) (hm : Rw_meetRow_137 N π rec9 σ x1 x3 x4 x6 x8 x10 x11 x12 x15 = some r) : Cl π r.1 := by
  have hS := hC.1
  rw [Rw_meetRow_137] at hm
  obtain ⟨g25, hm⟩ := grd_s hm
  obtain ⟨g26, hm⟩ := grd_s hm
  by_cases c27 : x15 < x3
  · have hm := ite_t c27 hm
    exact km_Rw_meetRow_155 krec9 hC hv_x1 hm
  · have hm := ite_f c27 hm
    obtain ⟨r28, e29, hm⟩ := obd_s hm
    have q30 := (km_Rw_join hC hv_x1 e29)
    have hC31 : Cl π r28 := q30
    exact km_Rw_meetRow_155 krec9 hC31 hv_x1 hm
set_option maxHeartbeats 8000000 in
set_option maxRecDepth 100000 in
theorem km_Rw_meetRow_92 {N : Nat}   {π : Sh} {r : St × Int} {rec9 : St → Int → Int → Int → Int → Int → Int → Int → Int → Option (St × Int)} (krec9 : ∀ {σ : St} {x1 : Int} {x3 : Int} {x4 : Int} {x6 : Int} {x8 : Int} {x10 : Int} {x11 : Int} {x12 : Int}, Cl π σ → x1 < nn π → rec9 σ x1 x3 x4 x6 x8 x10 x11 x12 = some r → Cl π r.1) (n : Nat) : ∀ {σ : St} {x1 : Int} {x3 : Int} {x4 : Int} {x6 : Int} {x8 : Int} {x10 : Int} {x11 : Int} {x12 : Int} {x13 : Int} {x15 : Int}, Cl π σ → x1 < nn π → Rw_meetRow_92 N π rec9 n σ x1 x3 x4 x6 x8 x10 x11 x12 x13 x15 = some r → Cl π r.1 := by
  induction n with
  | zero => intro σ x1 x3 x4 x6 x8 x10 x11 x12 x13 x15 hC hv_x1 hm; cases (show none = some r from hm)
  | succ n krec92 =>
    intro σ x1 x3 x4 x6 x8 x10 x11 x12 x13 x15 hC hv_x1 hm
    have hS := hC.1
    rw [Rw_meetRow_92] at hm
    obtain ⟨g18, hm⟩ := grd_s hm
    obtain ⟨g19, hm⟩ := grd_s hm
    by_cases c20 : x15 < x3
    · have hm := ite_t c20 hm
      exact km_Rw_meetRow_137 krec9 hC hv_x1 hm
    · have hm := ite_f c20 hm
      obtain ⟨g21, hm⟩ := grd_s hm
      obtain ⟨g22, hm⟩ := grd_s hm
      obtain ⟨g23, hm⟩ := grd_s hm
      by_cases c24 : x13 < ((((el σ 11 x15) + (el σ 12 x15)) + x8) * x4)
      · have hm := ite_t c24 hm
        exact km_Rw_meetRow_137 krec9 hC hv_x1 hm
      · have hm := ite_f c24 hm
        exact krec92 hC hv_x1 hm
set_option maxHeartbeats 8000000 in
set_option maxRecDepth 100000 in
theorem km_Rw_meetRow_86 {N : Nat}   {π : Sh} {r : St × Int} {rec9 : St → Int → Int → Int → Int → Int → Int → Int → Int → Option (St × Int)} (krec9 : ∀ {σ : St} {x1 : Int} {x3 : Int} {x4 : Int} {x6 : Int} {x8 : Int} {x10 : Int} {x11 : Int} {x12 : Int}, Cl π σ → x1 < nn π → rec9 σ x1 x3 x4 x6 x8 x10 x11 x12 = some r → Cl π r.1) {σ : St} {x1 : Int} {x3 : Int} {x4 : Int} {x6 : Int} {x8 : Int} {x10 : Int} {x11 : Int} {x12 : Int} {x13 : Int} (hC : Cl π σ) (hv_x1 : x1 < nn π) (hm : Rw_meetRow_86 N π rec9 σ x1 x3 x4 x6 x8 x10 x11 x12 x13 = some r) : Cl π r.1 := by
  have hS := hC.1
  rw [Rw_meetRow_86] at hm
  obtain ⟨v16, e17, hm⟩ := bnd_s hm
  exact km_Rw_meetRow_92 krec9 N hC hv_x1 hm
set_option maxHeartbeats 8000000 in
set_option maxRecDepth 100000 in
theorem km_Rw_meetRow_46 {N : Nat}   {π : Sh} {r : St × Int} {rec9 : St → Int → Int → Int → Int → Int → Int → Int → Int → Option (St × Int)} (krec9 : ∀ {σ : St} {x1 : Int} {x3 : Int} {x4 : Int} {x6 : Int} {x8 : Int} {x10 : Int} {x11 : Int} {x12 : Int}, Cl π σ → x1 < nn π → rec9 σ x1 x3 x4 x6 x8 x10 x11 x12 = some r → Cl π r.1) (n : Nat) : ∀ {σ : St} {x1 : Int} {x3 : Int} {x4 : Int} {x6 : Int} {x8 : Int} {x10 : Int} {x11 : Int} {x12 : Int} {x13 : Int}, Cl π σ → x1 < nn π → Rw_meetRow_46 N π rec9 n σ x1 x3 x4 x6 x8 x10 x11 x12 x13 = some r → Cl π r.1 := by
  induction n with
  | zero => intro σ x1 x3 x4 x6 x8 x10 x11 x12 x13 hC hv_x1 hm; cases (show none = some r from hm)
  | succ n krec46 =>
    intro σ x1 x3 x4 x6 x8 x10 x11 x12 x13 hC hv_x1 hm
    have hS := hC.1
    rw [Rw_meetRow_46] at hm
    obtain ⟨g9, hm⟩ := grd_s hm
    obtain ⟨g10, hm⟩ := grd_s hm
    by_cases c11 : x11 < (fl σ 46 10)
    · have hm := ite_t c11 hm
      obtain ⟨g12, hm⟩ := grd_s hm
      obtain ⟨g13, hm⟩ := grd_s hm
      obtain ⟨g14, hm⟩ := grd_s hm
      by_cases c15 : x13 < (((el σ 11 x11) + x8) * x4)
      · have hm := ite_t c15 hm
        exact km_Rw_meetRow_86 krec9 hC hv_x1 hm
      · have hm := ite_f c15 hm
        exact krec46 hC hv_x1 hm
    · have hm := ite_f c11 hm
      exact km_Rw_meetRow_86 krec9 hC hv_x1 hm
set_option maxHeartbeats 8000000 in
set_option maxRecDepth 100000 in
theorem km_Rw_meetRow_9 {N : Nat}   {π : Sh} {r : St × Int}  (n : Nat) : ∀ {σ : St} {x1 : Int} {x3 : Int} {x4 : Int} {x6 : Int} {x8 : Int} {x10 : Int} {x11 : Int} {x12 : Int}, Cl π σ → x1 < nn π → Rw_meetRow_9 N π n σ x1 x3 x4 x6 x8 x10 x11 x12 = some r → Cl π r.1 := by
  induction n with
  | zero => intro σ x1 x3 x4 x6 x8 x10 x11 x12 hC hv_x1 hm; cases (show none = some r from hm)
  | succ n krec9 =>
    intro σ x1 x3 x4 x6 x8 x10 x11 x12 hC hv_x1 hm
    have hS := hC.1
    rw [Rw_meetRow_9] at hm
    obtain ⟨g1, hm⟩ := grd_s hm
    obtain ⟨g2, hm⟩ := grd_s hm
    by_cases c3 : x12 < x3
    · have hm := ite_t c3 hm
      obtain ⟨g4, hm⟩ := grd_s hm
      obtain ⟨g5, hm⟩ := grd_s hm
      by_cases c6 : (el σ 16 x12) = 0
      · have hm := ite_t c6 hm
        obtain ⟨v7, e8, hm⟩ := bnd_s hm
        exact km_Rw_meetRow_46 krec9 N hC hv_x1 hm
      · have hm := ite_f c6 hm
        exact km_Rw_meetRow_155 krec9 hC hv_x1 hm
    · have hm := ite_f c3 hm
      cases hm
      exact hC
set_option maxHeartbeats 8000000 in
set_option maxRecDepth 100000 in
theorem km_Rw_meetRow {N : Nat}   {π : Sh} {σ : St} {x1 : Int} {x2 : Int} {x3 : Int} {x4 : Int} {x6 : Int} {x8 : Int} {r : St × Int} (hC : Cl π σ) (hv_x1 : x1 < nn π) (hm : Rw_meetRow N π σ x1 x2 x3 x4 x6 x8 = some r) : Cl π r.1 := by
  have hS := hC.1
  rw [Rw_meetRow] at hm
  exact km_Rw_meetRow_9 N hC hv_x1 hm
set_option maxHeartbeats 8000000 in
set_option maxRecDepth 100000 in
theorem km_Rw_meet_74 {N : Nat} {rRow : Sh → St → Int → Int → Option St} (hmrRow : ∀ {π : Sh} {σ : St} {y1 : Int} {y2 : Int} {r : St}, Cl π σ → y1 < nn π → rRow π σ y1 y2 = some r → Cl π r) {π : Sh} {r : St} {rec29 : St → Int → Int → Int → Int → Int → Int → Int → Option St} (krec29 : ∀ {σ : St} {x1 : Int} {x2 : Int} {x4 : Int} {x5 : Int} {x6 : Int} {x7 : Int} {x8 : Int}, Cl π σ → x1 < nn π → x4 < nn π → x5 < nn π → rec29 σ x1 x2 x4 x5 x6 x7 x8 = some r → Cl π r) {σ : St} {x1 : Int} {x2 : Int} {x4 : Int} {x5 : Int} {x6 : Int} {x7 : Int} {x8 : Int} {s0 : Int} {s1 : Int} (hC : Cl π σ) (hv_x1 : x1 < nn π) (hv_x4 : x4 < nn π) (hv_x5 : x5 < nn π) (hm : Rw_meet_74 N rRow π rec29 σ x1 x2 x4 x5 x6 x7 x8 s0 s1 = some r) : Cl π r := by
  have hS := hC.1
  rw [Rw_meet_74] at hm
  obtain ⟨g28, hm⟩ := grd_s hm
  exact krec29 (cl_seI hC (sh_16 hS) (by decide) _ _) hv_x1 hv_x4 hv_x5 hm
set_option maxHeartbeats 8000000 in
set_option maxRecDepth 100000 in
theorem km_Rw_meet_73 {N : Nat} {rRow : Sh → St → Int → Int → Option St} (hmrRow : ∀ {π : Sh} {σ : St} {y1 : Int} {y2 : Int} {r : St}, Cl π σ → y1 < nn π → rRow π σ y1 y2 = some r → Cl π r) {π : Sh} {r : St} {rec29 : St → Int → Int → Int → Int → Int → Int → Int → Option St} (krec29 : ∀ {σ : St} {x1 : Int} {x2 : Int} {x4 : Int} {x5 : Int} {x6 : Int} {x7 : Int} {x8 : Int}, Cl π σ → x1 < nn π → x4 < nn π → x5 < nn π → rec29 σ x1 x2 x4 x5 x6 x7 x8 = some r → Cl π r) {σ : St} {x1 : Int} {x2 : Int} {x4 : Int} {x5 : Int} {x6 : Int} {x7 : Int} {x8 : Int} {s0 : Int} (hC : Cl π σ) (hv_x1 : x1 < nn π) (hv_x4 : x4 < nn π) (hv_x5 : x5 < nn π) (hm : Rw_meet_73 N rRow π rec29 σ x1 x2 x4 x5 x6 x7 x8 s0 = some r) : Cl π r := by
  have hS := hC.1
  rw [Rw_meet_73] at hm
  exact km_Rw_meet_74 hmrRow krec29 hC hv_x1 hv_x4 hv_x5 hm
set_option maxHeartbeats 8000000 in
set_option maxRecDepth 100000 in
theorem km_Rw_meet_198 {N : Nat} {rRow : Sh → St → Int → Int → Option St} (hmrRow : ∀ {π : Sh} {σ : St} {y1 : Int} {y2 : Int} {r : St}, Cl π σ → y1 < nn π → rRow π σ y1 y2 = some r → Cl π r) {π : Sh} {r : St}  {σ : St} {x6 : Int} {x7 : Int} (hC : Cl π σ)  (hm : Rw_meet_198 N rRow π σ x6 x7 = some r) : Cl π r := by
  have hS := hC.1
  rw [Rw_meet_198] at hm
  obtain ⟨g49, hm⟩ := grd_s hm
  by_cases c50 : x6 = 21
  · have hm := ite_t c50 hm
    cases hm
    exact hC
  · have hm := ite_f c50 hm
    obtain ⟨r51, e52, hm⟩ := obd_s hm
    have q53 := (km_Es_chooseMarked hC e52)
    have hC54 : Cl π r51 := q53
    cases hm
    exact hC54
set_option maxHeartbeats 8000000 in
set_option maxRecDepth 100000 in
theorem km_Rw_meet_117 {N : Nat} {rRow : Sh → St → Int → Int → Option St} (hmrRow : ∀ {π : Sh} {σ : St} {y1 : Int} {y2 : Int} {r : St}, Cl π σ → y1 < nn π → rRow π σ y1 y2 = some r → Cl π r) {π : Sh} {r : St}  (n : Nat) : ∀ {σ : St} {x1 : Int} {x2 : Int} {x4 : Int} {x5 : Int} {x6 : Int} {x7 : Int} {x8 : Int} {x9 : Int} {x10 : Int}, Cl π σ → x1 < nn π → x4 < nn π → x5 < nn π → Rw_meet_117 N rRow π n σ x1 x2 x4 x5 x6 x7 x8 x9 x10 = some r → Cl π r := by
  induction n with
  | zero => intro σ x1 x2 x4 x5 x6 x7 x8 x9 x10 hC hv_x1 hv_x4 hv_x5 hm; cases (show none = some r from hm)
  | succ n krec117 =>
    intro σ x1 x2 x4 x5 x6 x7 x8 x9 x10 hC hv_x1 hv_x4 hv_x5 hm
    have hS := hC.1
    rw [Rw_meet_117] at hm
    obtain ⟨g29, hm⟩ := grd_s hm
    obtain ⟨g30, hm⟩ := grd_s hm
    obtain ⟨g31, hm⟩ := grd_s hm
    by_cases c32 : x10 < (x2 - (fl σ 104 x5))
    · have hm := ite_t c32 hm
      exact km_Rw_meet_198 hmrRow hC hm
    · have hm := ite_f c32 hm
      obtain ⟨g33, hm⟩ := grd_s hm
      by_cases c34 : (0 : Int) < x9
      · have hm := ite_t c34 hm
        obtain ⟨r35, e36, hm⟩ := obd_s hm
        have q37 := (hmrRow hC hv_x5 e36)
        have hC38 : Cl π r35 := q37
        obtain ⟨g39, hm⟩ := grd_s hm
        obtain ⟨g40, hm⟩ := grd_s hm
        obtain ⟨r41, e42, hm⟩ := obd_s hm
        have q43 := (km_Rw_meetRow hC38 (cl_fl hC38 (f := 100) rfl x1) e42)
        have hC44 : Cl π r41.1 := q43
        obtain ⟨v45, e46, hm⟩ := bnd_s hm
        obtain ⟨v47, e48, hm⟩ := bnd_s hm
        exact krec117 (cl_sfI hC44 (f := 46) rfl _ _) hv_x1 hv_x4 hv_x5 hm
      · have hm := ite_f c34 hm
        exact km_Rw_meet_198 hmrRow hC hm
set_option maxHeartbeats 8000000 in
set_option maxRecDepth 100000 in
theorem km_Rw_meet_98 {N : Nat} {rRow : Sh → St → Int → Int → Option St} (hmrRow : ∀ {π : Sh} {σ : St} {y1 : Int} {y2 : Int} {r : St}, Cl π σ → y1 < nn π → rRow π σ y1 y2 = some r → Cl π r) {π : Sh} {r : St}  {σ : St} {x1 : Int} {x2 : Int} {x4 : Int} {x5 : Int} {x6 : Int} {x7 : Int} (hC : Cl π σ) (hv_x1 : x1 < nn π) (hv_x4 : x4 < nn π) (hv_x5 : x5 < nn π) (hm : Rw_meet_98 N rRow π σ x1 x2 x4 x5 x6 x7 = some r) : Cl π r := by
  have hS := hC.1
  rw [Rw_meet_98] at hm
  obtain ⟨v26, e27, hm⟩ := bnd_s hm
  exact km_Rw_meet_117 hmrRow N hC hv_x1 hv_x4 hv_x5 hm
set_option maxHeartbeats 8000000 in
set_option maxRecDepth 100000 in
theorem km_Rw_meet_29 {N : Nat} {rRow : Sh → St → Int → Int → Option St} (hmrRow : ∀ {π : Sh} {σ : St} {y1 : Int} {y2 : Int} {r : St}, Cl π σ → y1 < nn π → rRow π σ y1 y2 = some r → Cl π r) {π : Sh} {r : St}  (n : Nat) : ∀ {σ : St} {x1 : Int} {x2 : Int} {x4 : Int} {x5 : Int} {x6 : Int} {x7 : Int} {x8 : Int}, Cl π σ → x1 < nn π → x4 < nn π → x5 < nn π → Rw_meet_29 N rRow π n σ x1 x2 x4 x5 x6 x7 x8 = some r → Cl π r := by
  induction n with
  | zero => intro σ x1 x2 x4 x5 x6 x7 x8 hC hv_x1 hv_x4 hv_x5 hm; cases (show none = some r from hm)
  | succ n krec29 =>
    intro σ x1 x2 x4 x5 x6 x7 x8 hC hv_x1 hv_x4 hv_x5 hm
    have hS := hC.1
    rw [Rw_meet_29] at hm
    obtain ⟨g9, hm⟩ := grd_s hm
    obtain ⟨g10, hm⟩ := grd_s hm
    by_cases c11 : x8 < (fl σ 46 10)
    · have hm := ite_t c11 hm
      obtain ⟨g18, hm⟩ := grd_s hm
      by_cases c19 : x6 = 19
      · have hm := ite_t c19 hm
        obtain ⟨r20, e21, hm⟩ := obd_s hm
        have q22 := (km_Es_isLoud hC e21)
        have hC23 : Cl π r20.1 := q22
        obtain ⟨g24, hm⟩ := grd_s hm
        by_cases c25 : r20.2 = 0
        · have hm := ite_t c25 hm
          exact km_Rw_meet_74 hmrRow krec29 hC23 hv_x1 hv_x4 hv_x5 hm
        · have hm := ite_f c25 hm
          exact km_Rw_meet_73 hmrRow krec29 hC23 hv_x1 hv_x4 hv_x5 hm
      · have hm := ite_f c19 hm
        exact km_Rw_meet_73 hmrRow krec29 hC hv_x1 hv_x4 hv_x5 hm
    · have hm := ite_f c11 hm
      obtain ⟨g12, hm⟩ := grd_s hm
      by_cases c13 : x6 = 19
      · have hm := ite_t c13 hm
        obtain ⟨r14, e15, hm⟩ := obd_s hm
        have q16 := (km_Es_chooseMarked hC e15)
        have hC17 : Cl π r14 := q16
        exact km_Rw_meet_98 hmrRow hC17 hv_x1 hv_x4 hv_x5 hm
      · have hm := ite_f c13 hm
        exact km_Rw_meet_98 hmrRow hC hv_x1 hv_x4 hv_x5 hm
set_option maxHeartbeats 8000000 in
set_option maxRecDepth 100000 in
theorem km_Rw_meet {N : Nat} {rRow : Sh → St → Int → Int → Option St} (hmrRow : ∀ {π : Sh} {σ : St} {y1 : Int} {y2 : Int} {r : St}, Cl π σ → y1 < nn π → rRow π σ y1 y2 = some r → Cl π r) {π : Sh} {σ : St} {x1 : Int} {x2 : Int} {x4 : Int} {x5 : Int} {r : St} (hC : Cl π σ) (hv_x1 : x1 < nn π) (hv_x4 : x4 < nn π) (hv_x5 : x5 < nn π) (hm : Rw_meet N rRow π σ x1 x2 x4 x5 = some r) : Cl π r := by
  have hS := hC.1
  rw [Rw_meet] at hm
  obtain ⟨g1, hm⟩ := grd_s hm
  obtain ⟨g2, hm⟩ := grd_s hm
  obtain ⟨v3, e4, hm⟩ := bnd_s hm
  obtain ⟨r5, e6, hm⟩ := obd_s hm
  have q7 := (hmrRow hC hv_x4 e6)
  have hC8 : Cl π r5 := q7
  exact km_Rw_meet_29 hmrRow N hC8 hv_x1 hv_x4 hv_x5 hm
set_option maxHeartbeats 8000000 in
set_option maxRecDepth 100000 in
theorem km_Rw_plyOne_89 {N : Nat}   {π : Sh} {r : St} {rec30 : St → Int → Int → Int → Int → Int → Int → Option St} (krec30 : ∀ {σ : St} {x1 : Int} {x2 : Int} {x5 : Int} {x7 : Int} {x9 : Int} {x11 : Int}, Cl π σ → rec30 σ x1 x2 x5 x7 x9 x11 = some r → Cl π r) {σ : St} {x1 : Int} {x2 : Int} {x5 : Int} {x7 : Int} {x9 : Int} {x11 : Int} (hC : Cl π σ)  (hm : Rw_plyOne_89 N π rec30 σ x1 x2 x5 x7 x9 x11 = some r) : Cl π r := by
  have hS := hC.1
  rw [Rw_plyOne_89] at hm
  obtain ⟨v19, e20, hm⟩ := bnd_s hm
  exact krec30 hC  hm
set_option maxHeartbeats 8000000 in
set_option maxRecDepth 100000 in
theorem km_Rw_plyOne_30 {N : Nat}   {π : Sh} {r : St}  (n : Nat) : ∀ {σ : St} {x1 : Int} {x2 : Int} {x5 : Int} {x7 : Int} {x9 : Int} {x11 : Int}, Cl π σ → Rw_plyOne_30 N π n σ x1 x2 x5 x7 x9 x11 = some r → Cl π r := by
  induction n with
  | zero => intro σ x1 x2 x5 x7 x9 x11 hC  hm; cases (show none = some r from hm)
  | succ n krec30 =>
    intro σ x1 x2 x5 x7 x9 x11 hC  hm
    have hS := hC.1
    rw [Rw_plyOne_30] at hm
    obtain ⟨g7, hm⟩ := grd_s hm
    obtain ⟨g8, hm⟩ := grd_s hm
    by_cases c9 : x11 < x2
    · have hm := ite_t c9 hm
      obtain ⟨g10, hm⟩ := grd_s hm
      by_cases c11 : x9 < 0
      · have hm := ite_t c11 hm
        exact km_Rw_plyOne_89 krec30 hC hm
      · have hm := ite_f c11 hm
        obtain ⟨g12, hm⟩ := grd_s hm
        by_cases c13 : x9 < x5
        · have hm := ite_t c13 hm
          obtain ⟨g14, hm⟩ := grd_s hm
          obtain ⟨r15, e16, hm⟩ := obd_s hm
          have q17 := (km_Es_push hC e16)
          have hC18 : Cl π r15 := q17
          exact km_Rw_plyOne_89 krec30 hC18 hm
        · have hm := ite_f c13 hm
          exact km_Rw_plyOne_89 krec30 hC hm
    · have hm := ite_f c9 hm
      cases hm
      exact hC
set_option maxHeartbeats 8000000 in
set_option maxRecDepth 100000 in
theorem km_Rw_plyOne {N : Nat}   {π : Sh} {σ : St} {x1 : Int} {x2 : Int} {x3 : Int} {x5 : Int} {r : St} (hC : Cl π σ)  (hm : Rw_plyOne N π σ x1 x2 x3 x5 = some r) : Cl π r := by
  have hS := hC.1
  rw [Rw_plyOne] at hm
  obtain ⟨g1, hm⟩ := grd_s hm
  obtain ⟨v2, e3, hm⟩ := bnd_s hm
  obtain ⟨g4, hm⟩ := grd_s hm
  obtain ⟨v5, e6, hm⟩ := bnd_s hm
  exact km_Rw_plyOne_30 N hC hm
set_option maxHeartbeats 8000000 in
set_option maxRecDepth 100000 in
theorem km_Rw_ply_72 {N : Nat} {rRow : Sh → St → Int → Int → Option St} (hmrRow : ∀ {π : Sh} {σ : St} {y1 : Int} {y2 : Int} {r : St}, Cl π σ → y1 < nn π → rRow π σ y1 y2 = some r → Cl π r) {π : Sh} {r : St} {rec35 : St → Int → Int → Int → Int → Int → Int → Option St} (krec35 : ∀ {σ : St} {x1 : Int} {x2 : Int} {x4 : Int} {x5 : Int} {x6 : Int} {x7 : Int}, Cl π σ → x1 < nn π → x4 < nn π → rec35 σ x1 x2 x4 x5 x6 x7 = some r → Cl π r) (n : Nat) : ∀ {σ : St} {x1 : Int} {x2 : Int} {x4 : Int} {x5 : Int} {x6 : Int} {x7 : Int} {x9 : Int} {x10 : Int} {x11 : Int}, Cl π σ → x1 < nn π → x4 < nn π → Rw_ply_72 N rRow π rec35 n σ x1 x2 x4 x5 x6 x7 x9 x10 x11 = some r → Cl π r := by
  induction n with
  | zero => intro σ x1 x2 x4 x5 x6 x7 x9 x10 x11 hC hv_x1 hv_x4 hm; cases (show none = some r from hm)
  | succ n krec72 =>
    intro σ x1 x2 x4 x5 x6 x7 x9 x10 x11 hC hv_x1 hv_x4 hm
    have hS := hC.1
    rw [Rw_ply_72] at hm
    obtain ⟨g23, hm⟩ := grd_s hm
    obtain ⟨g24, hm⟩ := grd_s hm
    by_cases c25 : x11 < x10
    · have hm := ite_t c25 hm
      obtain ⟨g32, hm⟩ := grd_s hm
      obtain ⟨r33, e34, hm⟩ := obd_s hm
      have q35 := (km_Rw_plyOne hC e34)
      have hC36 : Cl π r33 := q35
      exact krec72 hC36 hv_x1 hv_x4 hm
    · have hm := ite_f c25 hm
      obtain ⟨r26, e27, hm⟩ := obd_s hm
      have q28 := (km_Es_remove hC e27)
      have hC29 : Cl π r26 := q28
      obtain ⟨v30, e31, hm⟩ := bnd_s hm
      exact krec35 hC29 hv_x1 hv_x4 hm
set_option maxHeartbeats 8000000 in
set_option maxRecDepth 100000 in
theorem km_Rw_ply_35 {N : Nat} {rRow : Sh → St → Int → Int → Option St} (hmrRow : ∀ {π : Sh} {σ : St} {y1 : Int} {y2 : Int} {r : St}, Cl π σ → y1 < nn π → rRow π σ y1 y2 = some r → Cl π r) {π : Sh} {r : St}  (n : Nat) : ∀ {σ : St} {x1 : Int} {x2 : Int} {x4 : Int} {x5 : Int} {x6 : Int} {x7 : Int}, Cl π σ → x1 < nn π → x4 < nn π → Rw_ply_35 N rRow π n σ x1 x2 x4 x5 x6 x7 = some r → Cl π r := by
  induction n with
  | zero => intro σ x1 x2 x4 x5 x6 x7 hC hv_x1 hv_x4 hm; cases (show none = some r from hm)
  | succ n krec35 =>
    intro σ x1 x2 x4 x5 x6 x7 hC hv_x1 hv_x4 hm
    have hS := hC.1
    rw [Rw_ply_35] at hm
    obtain ⟨g12, hm⟩ := grd_s hm
    obtain ⟨g13, hm⟩ := grd_s hm
    by_cases c14 : x2 < x7
    · have hm := ite_t c14 hm
      obtain ⟨r15, e16, hm⟩ := obd_s hm
      have q17 := (km_Es_sort hC e16)
      have hC18 : Cl π r15 := q17
      cases hm
      exact hC18
    · have hm := ite_f c14 hm
      obtain ⟨r19, e20, hm⟩ := obd_s hm
      have q21 := (hmrRow hC hv_x4 e20)
      have hC22 : Cl π r19 := q21
      exact km_Rw_ply_72 hmrRow krec35 N hC22 hv_x1 hv_x4 hm
set_option maxHeartbeats 8000000 in
set_option maxRecDepth 100000 in
theorem km_Rw_ply {N : Nat} {rRow : Sh → St → Int → Int → Option St} (hmrRow : ∀ {π : Sh} {σ : St} {y1 : Int} {y2 : Int} {r : St}, Cl π σ → y1 < nn π → rRow π σ y1 y2 = some r → Cl π r) {π : Sh} {σ : St} {x1 : Int} {x2 : Int} {r : St} (hC : Cl π σ) (hv_x1 : x1 < nn π) (hm : Rw_ply N rRow π σ x1 x2 = some r) : Cl π r := by
  have hS := hC.1
  rw [Rw_ply] at hm
  obtain ⟨g1, hm⟩ := grd_s hm
  obtain ⟨g2, hm⟩ := grd_s hm
  obtain ⟨g3, hm⟩ := grd_s hm
  obtain ⟨v4, e5, hm⟩ := bnd_s hm
  obtain ⟨g6, hm⟩ := grd_s hm
  obtain ⟨v7, e8, hm⟩ := bnd_s hm
  obtain ⟨g9, hm⟩ := grd_s hm
  obtain ⟨v10, e11, hm⟩ := bnd_s hm
  exact km_Rw_ply_35 hmrRow N hC hv_x1 (e5 ▸ (cl_el hC g2 (by decide) 0)) hm
set_option maxHeartbeats 8000000 in
set_option maxRecDepth 100000 in
theorem km_Rw_partAt_53 {N : Nat}   {π : Sh} {r : St × Int} {rec11 : St → Int → Int → Int → Int → Option (St × Int)} (krec11 : ∀ {σ : St} {x0 : Int} {x1 : Int} {x3 : Int} {x4 : Int}, Cl π σ → x0 < nn π → rec11 σ x0 x1 x3 x4 = some r → Cl π r.1 ∧ r.2 < nn π) {σ : St} {x0 : Int} {x1 : Int} {x3 : Int} {x4 : Int} (hC : Cl π σ) (hv_x0 : x0 < nn π) (hm : Rw_partAt_53 N π rec11 σ x0 x1 x3 x4 = some r) : Cl π r.1 ∧ r.2 < nn π := by
  have hS := hC.1
  rw [Rw_partAt_53] at hm
  exact krec11 hC hv_x0 hm
set_option maxHeartbeats 8000000 in
set_option maxRecDepth 100000 in
theorem km_Rw_partAt_11 {N : Nat}   {π : Sh} {r : St × Int}  (n : Nat) : ∀ {σ : St} {x0 : Int} {x1 : Int} {x3 : Int} {x4 : Int}, Cl π σ → x0 < nn π → Rw_partAt_11 N π n σ x0 x1 x3 x4 = some r → Cl π r.1 ∧ r.2 < nn π := by
  induction n with
  | zero => intro σ x0 x1 x3 x4 hC hv_x0 hm; cases (show none = some r from hm)
  | succ n krec11 =>
    intro σ x0 x1 x3 x4 hC hv_x0 hm
    have hS := hC.1
    rw [Rw_partAt_11] at hm
    obtain ⟨g6, hm⟩ := grd_s hm
    obtain ⟨g7, hm⟩ := grd_s hm
    by_cases c8 : x3 < x4
    · have hm := ite_t c8 hm
      obtain ⟨g12, hm⟩ := grd_s hm
      obtain ⟨v13, e14, hm⟩ := bnd_s hm
      obtain ⟨g15, hm⟩ := grd_s hm
      obtain ⟨g16, hm⟩ := grd_s hm
      obtain ⟨g17, hm⟩ := grd_s hm
      obtain ⟨g18, hm⟩ := grd_s hm
      obtain ⟨g19, hm⟩ := grd_s hm
      obtain ⟨g20, hm⟩ := grd_s hm
      obtain ⟨g21, hm⟩ := grd_s hm
      by_cases c22 : x1 < (el σ (fl σ 213 (fl σ 100 x0)) v13)
      · have hm := ite_t c22 hm
        exact km_Rw_partAt_53 krec11 hC hv_x0 hm
      · have hm := ite_f c22 hm
        obtain ⟨v23, e24, hm⟩ := bnd_s hm
        exact km_Rw_partAt_53 krec11 hC hv_x0 hm
    · have hm := ite_f c8 hm
      obtain ⟨g9, hm⟩ := grd_s hm
      obtain ⟨g10, hm⟩ := grd_s hm
      obtain ⟨g11, hm⟩ := grd_s hm
      cases hm
      exact ⟨hC, (cl_el hC g10 (by decide) x3)⟩
set_option maxHeartbeats 8000000 in
set_option maxRecDepth 100000 in
theorem km_Rw_partAt {N : Nat}   {π : Sh} {σ : St} {x0 : Int} {x1 : Int} {r : St × Int} (hC : Cl π σ) (hv_x0 : x0 < nn π) (hm : Rw_partAt N π σ x0 x1 = some r) : Cl π r.1 ∧ r.2 < nn π := by
  have hS := hC.1
  rw [Rw_partAt] at hm
  obtain ⟨g1, hm⟩ := grd_s hm
  obtain ⟨g2, hm⟩ := grd_s hm
  obtain ⟨g3, hm⟩ := grd_s hm
  obtain ⟨v4, e5, hm⟩ := bnd_s hm
  exact km_Rw_partAt_11 N hC hv_x0 hm
set_option maxHeartbeats 8000000 in
set_option maxRecDepth 100000 in
theorem km_Rw_poly_40 {N : Nat} {rRow : Sh → St → Int → Int → Option St} (hmrRow : ∀ {π : Sh} {σ : St} {y1 : Int} {y2 : Int} {r : St}, Cl π σ → y1 < nn π → rRow π σ y1 y2 = some r → Cl π r) {π : Sh} {r : St}  (n : Nat) : ∀ {σ : St} {x1 : Int} {x2 : Int} {x4 : Int} {x6 : Int} {x8 : Int} {x10 : Int}, Cl π σ → x1 < nn π → Rw_poly_40 N rRow π n σ x1 x2 x4 x6 x8 x10 = some r → Cl π r := by
  induction n with
  | zero => intro σ x1 x2 x4 x6 x8 x10 hC hv_x1 hm; cases (show none = some r from hm)
  | succ n krec40 =>
    intro σ x1 x2 x4 x6 x8 x10 hC hv_x1 hm
    have hS := hC.1
    rw [Rw_poly_40] at hm
    obtain ⟨g16, hm⟩ := grd_s hm
    obtain ⟨g17, hm⟩ := grd_s hm
    by_cases c18 : x10 < x6
    · have hm := ite_t c18 hm
      obtain ⟨v19, e20, hm⟩ := bnd_s hm
      obtain ⟨r21, e22, hm⟩ := obd_s hm
      obtain ⟨r23, e24, hm⟩ := obd_s hm
      have q25 := (km_Rw_partAt hC hv_x1 e24)
      have hC26 : Cl π r23.1 := q25.1
      obtain ⟨r27, e28, hm⟩ := obd_s hm
      obtain ⟨r29, e30, hm⟩ := obd_s hm
      have q31 := (hmrRow hC26 q25.2 e30)
      have hC32 : Cl π r29 := q31
      obtain ⟨g33, hm⟩ := grd_s hm
      obtain ⟨g34, hm⟩ := grd_s hm
      obtain ⟨g35, hm⟩ := grd_s hm
      obtain ⟨g36, hm⟩ := grd_s hm
      obtain ⟨r37, e38, hm⟩ := obd_s hm
      have q39 := (km_Es_scale hC32 e38)
      have hC40 : Cl π r37 := q39
      obtain ⟨v41, e42, hm⟩ := bnd_s hm
      exact krec40 hC40 hv_x1 hm
    · have hm := ite_f c18 hm
      cases hm
      exact hC
set_option maxHeartbeats 8000000 in
set_option maxRecDepth 100000 in
theorem km_Rw_poly {N : Nat} {rRow : Sh → St → Int → Int → Option St} (hmrRow : ∀ {π : Sh} {σ : St} {y1 : Int} {y2 : Int} {r : St}, Cl π σ → y1 < nn π → rRow π σ y1 y2 = some r → Cl π r) {π : Sh} {σ : St} {x1 : Int} {x2 : Int} {r : St} (hC : Cl π σ) (hv_x1 : x1 < nn π) (hm : Rw_poly N rRow π σ x1 x2 = some r) : Cl π r := by
  have hS := hC.1
  rw [Rw_poly] at hm
  obtain ⟨g1, hm⟩ := grd_s hm
  obtain ⟨g2, hm⟩ := grd_s hm
  obtain ⟨g3, hm⟩ := grd_s hm
  obtain ⟨g4, hm⟩ := grd_s hm
  obtain ⟨v5, e6, hm⟩ := bnd_s hm
  obtain ⟨g7, hm⟩ := grd_s hm
  obtain ⟨g8, hm⟩ := grd_s hm
  obtain ⟨v9, e10, hm⟩ := bnd_s hm
  obtain ⟨g11, hm⟩ := grd_s hm
  obtain ⟨g12, hm⟩ := grd_s hm
  obtain ⟨g13, hm⟩ := grd_s hm
  obtain ⟨v14, e15, hm⟩ := bnd_s hm
  exact km_Rw_poly_40 hmrRow N hC hv_x1 hm
set_option maxHeartbeats 8000000 in
set_option maxRecDepth 100000 in
theorem km_Rw_reverse_24 {N : Nat} {rRow : Sh → St → Int → Int → Option St} (hmrRow : ∀ {π : Sh} {σ : St} {y1 : Int} {y2 : Int} {r : St}, Cl π σ → y1 < nn π → rRow π σ y1 y2 = some r → Cl π r) {π : Sh} {r : St}  (n : Nat) : ∀ {σ : St} {x1 : Int} {x4 : Int} {x5 : Int}, Cl π σ → x1 < nn π → Rw_reverse_24 N rRow π n σ x1 x4 x5 = some r → Cl π r := by
  induction n with
  | zero => intro σ x1 x4 x5 hC hv_x1 hm; cases (show none = some r from hm)
  | succ n krec24 =>
    intro σ x1 x4 x5 hC hv_x1 hm
    have hS := hC.1
    rw [Rw_reverse_24] at hm
    obtain ⟨g8, hm⟩ := grd_s hm
    obtain ⟨g9, hm⟩ := grd_s hm
    by_cases c10 : x5 < (fl σ 46 10)
    · have hm := ite_t c10 hm
      obtain ⟨g15, hm⟩ := grd_s hm
      obtain ⟨v16, e17, hm⟩ := bnd_s hm
      obtain ⟨g18, hm⟩ := grd_s hm
      obtain ⟨g19, hm⟩ := grd_s hm
      obtain ⟨g20, hm⟩ := grd_s hm
      obtain ⟨v21, e22, hm⟩ := bnd_s hm
      exact krec24 (cl_seI (cl_seI hC (sh_11 hS) (by decide) _ _) (sh_12 hS) (by decide) _ _) hv_x1 hm
    · have hm := ite_f c10 hm
      obtain ⟨r11, e12, hm⟩ := obd_s hm
      have q13 := (km_Es_sort hC e12)
      have hC14 : Cl π r11 := q13
      cases hm
      exact hC14
set_option maxHeartbeats 8000000 in
set_option maxRecDepth 100000 in
theorem km_Rw_reverse {N : Nat} {rRow : Sh → St → Int → Int → Option St} (hmrRow : ∀ {π : Sh} {σ : St} {y1 : Int} {y2 : Int} {r : St}, Cl π σ → y1 < nn π → rRow π σ y1 y2 = some r → Cl π r) {π : Sh} {σ : St} {x1 : Int} {x2 : Int} {r : St} (hC : Cl π σ) (hv_x1 : x1 < nn π) (hm : Rw_reverse N rRow π σ x1 x2 = some r) : Cl π r := by
  have hS := hC.1
  rw [Rw_reverse] at hm
  obtain ⟨g1, hm⟩ := grd_s hm
  obtain ⟨g2, hm⟩ := grd_s hm
  obtain ⟨g3, hm⟩ := grd_s hm
  obtain ⟨r4, e5, hm⟩ := obd_s hm
  have q6 := (hmrRow hC (cl_el hC g2 (by decide) 0) e5)
  have hC7 : Cl π r4 := q6
  exact km_Rw_reverse_24 hmrRow N hC7 hv_x1 hm
set_option maxHeartbeats 8000000 in
set_option maxRecDepth 100000 in
theorem km_Rw_rotate {N : Nat} {rRow : Sh → St → Int → Int → Option St} (hmrRow : ∀ {π : Sh} {σ : St} {y1 : Int} {y2 : Int} {r : St}, Cl π σ → y1 < nn π → rRow π σ y1 y2 = some r → Cl π r) {π : Sh} {σ : St} {x1 : Int} {x2 : Int} {r : St} (hC : Cl π σ) (hv_x1 : x1 < nn π) (hm : Rw_rotate N rRow π σ x1 x2 = some r) : Cl π r := by
  have hS := hC.1
  rw [Rw_rotate] at hm
  obtain ⟨g1, hm⟩ := grd_s hm
  obtain ⟨g2, hm⟩ := grd_s hm
  obtain ⟨g3, hm⟩ := grd_s hm
  obtain ⟨r4, e5, hm⟩ := obd_s hm
  have q6 := (hmrRow hC (cl_el hC g2 (by decide) 0) e5)
  have hC7 : Cl π r4 := q6
  obtain ⟨g8, hm⟩ := grd_s hm
  obtain ⟨r9, e10, hm⟩ := obd_s hm
  have q11 := (km_Es_rotateValues hC7 e10)
  have hC12 : Cl π r9 := q11
  cases hm
  exact hC12
set_option maxHeartbeats 8000000 in
set_option maxRecDepth 100000 in
theorem km_Rw_sequence_155 {N : Nat} {rRow : Sh → St → Int → Int → Option St} (hmrRow : ∀ {π : Sh} {σ : St} {y1 : Int} {y2 : Int} {r : St}, Cl π σ → y1 < nn π → rRow π σ y1 y2 = some r → Cl π r) {π : Sh} {r : St} {rec29 : St → Int → Int → Int → Int → Int → Int → Option St} (krec29 : ∀ {σ : St} {x1 : Int} {x2 : Int} {x4 : Int} {x5 : Int} {x7 : Int} {x9 : Int}, Cl π σ → x1 < nn π → x4 < nn π → rec29 σ x1 x2 x4 x5 x7 x9 = some r → Cl π r) (n : Nat) : ∀ {σ : St} {x1 : Int} {x2 : Int} {x4 : Int} {x5 : Int} {x7 : Int} {x9 : Int} {x11 : Int} {x13 : Int} {x16 : Int} {x17 : Int}, Cl π σ → x1 < nn π → x4 < nn π → Rw_sequence_155 N rRow π rec29 n σ x1 x2 x4 x5 x7 x9 x11 x13 x16 x17 = some r → Cl π r := by
  induction n with
  | zero => intro σ x1 x2 x4 x5 x7 x9 x11 x13 x16 x17 hC hv_x1 hv_x4 hm; cases (show none = some r from hm)
  | succ n krec155 =>
    intro σ x1 x2 x4 x5 x7 x9 x11 x13 x16 x17 hC hv_x1 hv_x4 hm
    have hS := hC.1
    rw [Rw_sequence_155] at hm
    obtain ⟨g48, hm⟩ := grd_s hm
    obtain ⟨g49, hm⟩ := grd_s hm
    by_cases c50 : x17 < x16
    · have hm := ite_t c50 hm
      obtain ⟨g57, hm⟩ := grd_s hm
      exact krec155 (cl_seI (cl_seI hC (sh_11 hS) (by decide) _ _) (sh_12 hS) (by decide) _ _) hv_x1 hv_x4 hm
    · have hm := ite_f c50 hm
      obtain ⟨g51, hm⟩ := grd_s hm
      obtain ⟨g52, hm⟩ := grd_s hm
      obtain ⟨g53, hm⟩ := grd_s hm
      obtain ⟨g54, hm⟩ := grd_s hm
      obtain ⟨v55, e56, hm⟩ := bnd_s hm
      exact krec29 hC hv_x1 hv_x4 hm
set_option maxHeartbeats 8000000 in
set_option maxRecDepth 100000 in
theorem km_Rw_sequence_151 {N : Nat} {rRow : Sh → St → Int → Int → Option St} (hmrRow : ∀ {π : Sh} {σ : St} {y1 : Int} {y2 : Int} {r : St}, Cl π σ → y1 < nn π → rRow π σ y1 y2 = some r → Cl π r) {π : Sh} {r : St} {rec29 : St → Int → Int → Int → Int → Int → Int → Option St} (krec29 : ∀ {σ : St} {x1 : Int} {x2 : Int} {x4 : Int} {x5 : Int} {x7 : Int} {x9 : Int}, Cl π σ → x1 < nn π → x4 < nn π → rec29 σ x1 x2 x4 x5 x7 x9 = some r → Cl π r) {σ : St} {x1 : Int} {x2 : Int} {x4 : Int} {x5 : Int} {x7 : Int} {x9 : Int} {x11 : Int} {x13 : Int} {x15 : Int} {x16 : Int} (hC : Cl π σ) (hv_x1 : x1 < nn π) (hv_x4 : x4 < nn π) (hm : Rw_sequence_151 N rRow π rec29 σ x1 x2 x4 x5 x7 x9 x11 x13 x15 x16 = some r) : Cl π r := by
  have hS := hC.1
  rw [Rw_sequence_151] at hm
  exact km_Rw_sequence_155 hmrRow krec29 N hC hv_x1 hv_x4 hm
set_option maxHeartbeats 8000000 in
set_option maxRecDepth 100000 in
theorem km_Rw_sequence_100 {N : Nat} {rRow : Sh → St → Int → Int → Option St} (hmrRow : ∀ {π : Sh} {σ : St} {y1 : Int} {y2 : Int} {r : St}, Cl π σ → y1 < nn π → rRow π σ y1 y2 = some r → Cl π r) {π : Sh} {r : St} {rec29 : St → Int → Int → Int → Int → Int → Int → Option St} (krec29 : ∀ {σ : St} {x1 : Int} {x2 : Int} {x4 : Int} {x5 : Int} {x7 : Int} {x9 : Int}, Cl π σ → x1 < nn π → x4 < nn π → rec29 σ x1 x2 x4 x5 x7 x9 = some r → Cl π r) (n : Nat) : ∀ {σ : St} {x1 : Int} {x2 : Int} {x4 : Int} {x5 : Int} {x7 : Int} {x9 : Int} {x11 : Int} {x13 : Int} {x15 : Int} {x16 : Int} {x17 : Int}, Cl π σ → x1 < nn π → x4 < nn π → Rw_sequence_100 N rRow π rec29 n σ x1 x2 x4 x5 x7 x9 x11 x13 x15 x16 x17 = some r → Cl π r := by
  induction n with
  | zero => intro σ x1 x2 x4 x5 x7 x9 x11 x13 x15 x16 x17 hC hv_x1 hv_x4 hm; cases (show none = some r from hm)
  | succ n krec100 =>
    intro σ x1 x2 x4 x5 x7 x9 x11 x13 x15 x16 x17 hC hv_x1 hv_x4 hm
    have hS := hC.1
    rw [Rw_sequence_100] at hm
    obtain ⟨g35, hm⟩ := grd_s hm
    obtain ⟨g36, hm⟩ := grd_s hm
    obtain ⟨g37, hm⟩ := grd_s hm
    obtain ⟨g38, hm⟩ := grd_s hm
    obtain ⟨g39, hm⟩ := grd_s hm
    by_cases c40 : x17 < (el σ (fl σ 212 x4) x9)
    · have hm := ite_t c40 hm
      obtain ⟨g41, hm⟩ := grd_s hm
      obtain ⟨g42, hm⟩ := grd_s hm
      by_cases c43 : x15 < x16
      · have hm := ite_t c43 hm
        obtain ⟨r44, e45, hm⟩ := obd_s hm
        have q46 := (km_Es_pushAgain hC e45)
        have hC47 : Cl π r44 := q46
        exact krec100 hC47 hv_x1 hv_x4 hm
      · have hm := ite_f c43 hm
        exact km_Rw_sequence_151 hmrRow krec29 hC hv_x1 hv_x4 hm
    · have hm := ite_f c40 hm
      exact km_Rw_sequence_151 hmrRow krec29 hC hv_x1 hv_x4 hm
set_option maxHeartbeats 8000000 in
set_option maxRecDepth 100000 in
theorem km_Rw_sequence_29 {N : Nat} {rRow : Sh → St → Int → Int → Option St} (hmrRow : ∀ {π : Sh} {σ : St} {y1 : Int} {y2 : Int} {r : St}, Cl π σ → y1 < nn π → rRow π σ y1 y2 = some r → Cl π r) {π : Sh} {r : St}  (n : Nat) : ∀ {σ : St} {x1 : Int} {x2 : Int} {x4 : Int} {x5 : Int} {x7 : Int} {x9 : Int}, Cl π σ → x1 < nn π → x4 < nn π → Rw_sequence_29 N rRow π n σ x1 x2 x4 x5 x7 x9 = some r → Cl π r := by
  induction n with
  | zero => intro σ x1 x2 x4 x5 x7 x9 hC hv_x1 hv_x4 hm; cases (show none = some r from hm)
  | succ n krec29 =>
    intro σ x1 x2 x4 x5 x7 x9 hC hv_x1 hv_x4 hm
    have hS := hC.1
    rw [Rw_sequence_29] at hm
    obtain ⟨g10, hm⟩ := grd_s hm
    obtain ⟨g11, hm⟩ := grd_s hm
    obtain ⟨g12, hm⟩ := grd_s hm
    obtain ⟨g13, hm⟩ := grd_s hm
    obtain ⟨g14, hm⟩ := grd_s hm
    by_cases c15 : x9 < (ln π (fl σ 101 x1))
    · have hm := ite_t c15 hm
      obtain ⟨g16, hm⟩ := grd_s hm
      obtain ⟨v17, e18, hm⟩ := bnd_s hm
      obtain ⟨g19, hm⟩ := grd_s hm
      obtain ⟨g20, hm⟩ := grd_s hm
      obtain ⟨g21, hm⟩ := grd_s hm
      obtain ⟨g22, hm⟩ := grd_s hm
      obtain ⟨v23, e24, hm⟩ := bnd_s hm
      obtain ⟨g25, hm⟩ := grd_s hm
      obtain ⟨g26, hm⟩ := grd_s hm
      obtain ⟨g27, hm⟩ := grd_s hm
      obtain ⟨g28, hm⟩ := grd_s hm
      obtain ⟨v29, e30, hm⟩ := bnd_s hm
      obtain ⟨r31, e32, hm⟩ := obd_s hm
      have q33 := (hmrRow hC (e18 ▸ (cl_el hC g11 (by decide) x9)) e32)
      have hC34 : Cl π r31 := q33
      exact km_Rw_sequence_100 hmrRow krec29 N hC34 hv_x1 hv_x4 hm
    · have hm := ite_f c15 hm
      cases hm
      exact hC
set_option maxHeartbeats 8000000 in
set_option maxRecDepth 100000 in
theorem km_Rw_sequence {N : Nat} {rRow : Sh → St → Int → Int → Option St} (hmrRow : ∀ {π : Sh} {σ : St} {y1 : Int} {y2 : Int} {r : St}, Cl π σ → y1 < nn π → rRow π σ y1 y2 = some r → Cl π r) {π : Sh} {σ : St} {x1 : Int} {x2 : Int} {r : St} (hC : Cl π σ) (hv_x1 : x1 < nn π) (hm : Rw_sequence N rRow π σ x1 x2 = some r) : Cl π r := by
  have hS := hC.1
  rw [Rw_sequence] at hm
  obtain ⟨g1, hm⟩ := grd_s hm
  obtain ⟨g2, hm⟩ := grd_s hm
  obtain ⟨g3, hm⟩ := grd_s hm
  obtain ⟨g4, hm⟩ := grd_s hm
  obtain ⟨g5, hm⟩ := grd_s hm
  obtain ⟨g6, hm⟩ := grd_s hm
  obtain ⟨g7, hm⟩ := grd_s hm
  obtain ⟨v8, e9, hm⟩ := bnd_s hm
  exact km_Rw_sequence_29 hmrRow N hC hv_x1 (cl_fl hC (f := 100) rfl x1) hm
set_option maxHeartbeats 8000000 in
set_option maxRecDepth 100000 in
theorem km_Rw_shift_38 {N : Nat} {rRow : Sh → St → Int → Int → Option St} (hmrRow : ∀ {π : Sh} {σ : St} {y1 : Int} {y2 : Int} {r : St}, Cl π σ → y1 < nn π → rRow π σ y1 y2 = some r → Cl π r) {π : Sh} {r : St}  (n : Nat) : ∀ {σ : St} {x1 : Int} {x2 : Int} {x4 : Int} {x8 : Int} {x9 : Int} {x13 : Int} {x15 : Int}, Cl π σ → x1 < nn π → x8 < nn π → Rw_shift_38 N rRow π n σ x1 x2 x4 x8 x9 x13 x15 = some r → Cl π r := by
  induction n with
  | zero => intro σ x1 x2 x4 x8 x9 x13 x15 hC hv_x1 hv_x8 hm; cases (show none = some r from hm)
  | succ n krec38 =>
    intro σ x1 x2 x4 x8 x9 x13 x15 hC hv_x1 hv_x8 hm
    have hS := hC.1
    rw [Rw_shift_38] at hm
    obtain ⟨g13, hm⟩ := grd_s hm
    obtain ⟨g14, hm⟩ := grd_s hm
    by_cases c15 : x13 < x15
    · have hm := ite_t c15 hm
      cases hm
      exact hC
    · have hm := ite_f c15 hm
      obtain ⟨r16, e17, hm⟩ := obd_s hm
      have q18 := (hmrRow hC hv_x8 e17)
      have hC19 : Cl π r16 := q18
      obtain ⟨g20, hm⟩ := grd_s hm
      obtain ⟨g21, hm⟩ := grd_s hm
      obtain ⟨g22, hm⟩ := grd_s hm
      obtain ⟨g23, hm⟩ := grd_s hm
      obtain ⟨g24, hm⟩ := grd_s hm
      obtain ⟨g25, hm⟩ := grd_s hm
      obtain ⟨g26, hm⟩ := grd_s hm
      obtain ⟨r27, e28, hm⟩ := obd_s hm
      have q29 := (km_Es_scale hC19 e28)
      have hC30 : Cl π r27 := q29
      obtain ⟨r31, e32, hm⟩ := obd_s hm
      have q33 := (km_Es_choose hC30 e32)
      have hC34 : Cl π r31 := q33
      obtain ⟨v35, e36, hm⟩ := bnd_s hm
      exact krec38 hC34 hv_x1 hv_x8 hm
set_option maxHeartbeats 8000000 in
set_option maxRecDepth 100000 in
theorem km_Rw_shift {N : Nat} {rRow : Sh → St → Int → Int → Option St} (hmrRow : ∀ {π : Sh} {σ : St} {y1 : Int} {y2 : Int} {r : St}, Cl π σ → y1 < nn π → rRow π σ y1 y2 = some r → Cl π r) {π : Sh} {σ : St} {x1 : Int} {x2 : Int} {x4 : Int} {x6 : Int} {r : St} (hC : Cl π σ) (hv_x1 : x1 < nn π) (hm : Rw_shift N rRow π σ x1 x2 x4 x6 = some r) : Cl π r := by
  have hS := hC.1
  rw [Rw_shift] at hm
  obtain ⟨g1, hm⟩ := grd_s hm
  obtain ⟨g2, hm⟩ := grd_s hm
  obtain ⟨g3, hm⟩ := grd_s hm
  obtain ⟨v4, e5, hm⟩ := bnd_s hm
  obtain ⟨g6, hm⟩ := grd_s hm
  obtain ⟨v7, e8, hm⟩ := bnd_s hm
  obtain ⟨r9, e10, hm⟩ := obd_s hm
  obtain ⟨r11, e12, hm⟩ := obd_s hm
  exact km_Rw_shift_38 hmrRow N hC hv_x1 (e5 ▸ (cl_el hC g2 (by decide) 0)) hm
set_option maxHeartbeats 8000000 in
set_option maxRecDepth 100000 in
theorem km_Rw_squeeze {N : Nat} {rRow : Sh → St → Int → Int → Option St} (hmrRow : ∀ {π : Sh} {σ : St} {y1 : Int} {y2 : Int} {r : St}, Cl π σ → y1 < nn π → rRow π σ y1 y2 = some r → Cl π r) {π : Sh} {σ : St} {x1 : Int} {x2 : Int} {r : St} (hC : Cl π σ) (hv_x1 : x1 < nn π) (hm : Rw_squeeze N rRow π σ x1 x2 = some r) : Cl π r := by
  have hS := hC.1
  rw [Rw_squeeze] at hm
  obtain ⟨g1, hm⟩ := grd_s hm
  obtain ⟨g2, hm⟩ := grd_s hm
  obtain ⟨g3, hm⟩ := grd_s hm
  obtain ⟨r4, e5, hm⟩ := obd_s hm
  have q6 := (hmrRow hC (cl_el hC g2 (by decide) 0) e5)
  have hC7 : Cl π r4 := q6
  obtain ⟨r8, e9, hm⟩ := obd_s hm
  have q10 := (km_Pt_spanUpper hC7 hv_x1 e9)
  have hC11 : Cl π r8.1 := q10
  obtain ⟨r12, e13, hm⟩ := obd_s hm
  have q14 := (km_Pt_spanLower hC11 hv_x1 e13)
  have hC15 : Cl π r12.1 := q14
  obtain ⟨g16, hm⟩ := grd_s hm
  obtain ⟨g17, hm⟩ := grd_s hm
  obtain ⟨g18, hm⟩ := grd_s hm
  obtain ⟨g19, hm⟩ := grd_s hm
  obtain ⟨g20, hm⟩ := grd_s hm
  obtain ⟨g21, hm⟩ := grd_s hm
  obtain ⟨v22, e23, hm⟩ := bnd_s hm
  obtain ⟨g24, hm⟩ := grd_s hm
  obtain ⟨g25, hm⟩ := grd_s hm
  obtain ⟨g26, hm⟩ := grd_s hm
  obtain ⟨g27, hm⟩ := grd_s hm
  obtain ⟨g28, hm⟩ := grd_s hm
  obtain ⟨g29, hm⟩ := grd_s hm
  obtain ⟨g30, hm⟩ := grd_s hm
  obtain ⟨r31, e32, hm⟩ := obd_s hm
  have q33 := (km_Es_scale hC15 e32)
  have hC34 : Cl π r31 := q33
  cases hm
  exact hC34
set_option maxHeartbeats 8000000 in
set_option maxRecDepth 100000 in
theorem km_Rw_turn {N : Nat} {rRow : Sh → St → Int → Int → Option St} (hmrRow : ∀ {π : Sh} {σ : St} {y1 : Int} {y2 : Int} {r : St}, Cl π σ → y1 < nn π → rRow π σ y1 y2 = some r → Cl π r) {π : Sh} {σ : St} {x1 : Int} {x2 : Int} {r : St} (hC : Cl π σ) (hv_x1 : x1 < nn π) (hm : Rw_turn N rRow π σ x1 x2 = some r) : Cl π r := by
  have hS := hC.1
  rw [Rw_turn] at hm
  obtain ⟨g1, hm⟩ := grd_s hm
  obtain ⟨g2, hm⟩ := grd_s hm
  obtain ⟨g3, hm⟩ := grd_s hm
  obtain ⟨g4, hm⟩ := grd_s hm
  obtain ⟨v5, e6, hm⟩ := bnd_s hm
  obtain ⟨r7, e8, hm⟩ := obd_s hm
  obtain ⟨r9, e10, hm⟩ := obd_s hm
  have q11 := (km_Rw_partAt hC hv_x1 e10)
  have hC12 : Cl π r9.1 := q11.1
  obtain ⟨r13, e14, hm⟩ := obd_s hm
  obtain ⟨r15, e16, hm⟩ := obd_s hm
  have q17 := (hmrRow hC12 q11.2 e16)
  have hC18 : Cl π r15 := q17
  obtain ⟨g19, hm⟩ := grd_s hm
  obtain ⟨g20, hm⟩ := grd_s hm
  obtain ⟨g21, hm⟩ := grd_s hm
  obtain ⟨g22, hm⟩ := grd_s hm
  obtain ⟨r23, e24, hm⟩ := obd_s hm
  have q25 := (km_Es_scale hC18 e24)
  have hC26 : Cl π r23 := q25
  cases hm
  exact hC26
set_option maxHeartbeats 8000000 in
set_option maxRecDepth 100000 in
theorem km_Rw_row_280 {N : Nat} {rRow : Sh → St → Int → Int → Option St} (hmrRow : ∀ {π : Sh} {σ : St} {y1 : Int} {y2 : Int} {r : St}, Cl π σ → y1 < nn π → rRow π σ y1 y2 = some r → Cl π r) {π : Sh} {r : St}  {σ : St} {s0 : Int} {s1 : Int} {s2 : Int} (hC : Cl π σ) (hv_s2 : s2 < nn π) (hm : Rw_row_280 N rRow π σ s0 s1 s2 = some r) : Cl π r := by
  have hS := hC.1
  rw [Rw_row_280] at hm
  obtain ⟨r148, e149, hm⟩ := obd_s hm
  have q150 := (km_Rw_either hmrRow hC hv_s2 e149)
  have hC151 : Cl π r148 := q150
  cases hm
  exact hC151
set_option maxHeartbeats 8000000 in
set_option maxRecDepth 100000 in
theorem km_Rw_row_314 {N : Nat} {rRow : Sh → St → Int → Int → Option St} (hmrRow : ∀ {π : Sh} {σ : St} {y1 : Int} {y2 : Int} {r : St}, Cl π σ → y1 < nn π → rRow π σ y1 y2 = some r → Cl π r) {π : Sh} {r : St}  {σ : St} {s0 : Int} {s1 : Int} {s2 : Int} (hC : Cl π σ) (hv_s2 : s2 < nn π) (hm : Rw_row_314 N rRow π σ s0 s1 s2 = some r) : Cl π r := by
  have hS := hC.1
  rw [Rw_row_314] at hm
  obtain ⟨r152, e153, hm⟩ := obd_s hm
  have q154 := (km_Rw_either hmrRow hC hv_s2 e153)
  have hC155 : Cl π r152 := q154
  cases hm
  exact hC155
set_option maxHeartbeats 8000000 in
set_option maxRecDepth 100000 in
theorem km_Rw_row {N : Nat} {rRow : Sh → St → Int → Int → Option St} (hmrRow : ∀ {π : Sh} {σ : St} {y1 : Int} {y2 : Int} {r : St}, Cl π σ → y1 < nn π → rRow π σ y1 y2 = some r → Cl π r) {π : Sh} {σ : St} {x1 : Int} {x2 : Int} {r : St} (hC : Cl π σ) (hv_x1 : x1 < nn π) (hm : Rw_row N rRow π σ x1 x2 = some r) : Cl π r := by
  have hS := hC.1
  rw [Rw_row] at hm
  obtain ⟨g1, hm⟩ := grd_s hm
  obtain ⟨g2, hm⟩ := grd_s hm
  by_cases c3 : (fl σ 103 x1) = 0
  · have hm := ite_t c3 hm
    cases hm
    exact hC
  · have hm := ite_f c3 hm
    obtain ⟨g4, hm⟩ := grd_s hm
    obtain ⟨g5, hm⟩ := grd_s hm
    by_cases c6 : (fl σ 200 (fl σ 100 x1)) = 1
    · have hm := ite_t c6 hm
      obtain ⟨r7, e8, hm⟩ := obd_s hm
      have q9 := (km_Es_push hC e8)
      have hC10 : Cl π r7 := q9
      cases hm
      exact hC10
    have hm := ite_f c6 hm
    by_cases c11 : (fl σ 200 (fl σ 100 x1)) = 2
    · have hm := ite_t c11 hm
      obtain ⟨r12, e13, hm⟩ := obd_s hm
      have q14 := (km_Es_push hC e13)
      have hC15 : Cl π r12 := q14
      cases hm
      exact hC15
    have hm := ite_f c11 hm
    by_cases c16 : (fl σ 200 (fl σ 100 x1)) = 3
    · have hm := ite_t c16 hm
      cases hm
      exact hC
    have hm := ite_f c16 hm
    by_cases c17 : (fl σ 200 (fl σ 100 x1)) = 4
    · have hm := ite_t c17 hm
      obtain ⟨r18, e19, hm⟩ := obd_s hm
      have q20 := (km_Rw_sequence hmrRow hC hv_x1 e19)
      have hC21 : Cl π r18 := q20
      cases hm
      exact hC21
    have hm := ite_f c17 hm
    by_cases c22 : (fl σ 200 (fl σ 100 x1)) = 5
    · have hm := ite_t c22 hm
      obtain ⟨r23, e24, hm⟩ := obd_s hm
      have q25 := (km_Rw_turn hmrRow hC hv_x1 e24)
      have hC26 : Cl π r23 := q25
      cases hm
      exact hC26
    have hm := ite_f c22 hm
    by_cases c27 : (fl σ 200 (fl σ 100 x1)) = 6
    · have hm := ite_t c27 hm
      obtain ⟨r28, e29, hm⟩ := obd_s hm
      have q30 := (km_Rw_poly hmrRow hC hv_x1 e29)
      have hC31 : Cl π r28 := q30
      cases hm
      exact hC31
    have hm := ite_f c27 hm
    by_cases c32 : (fl σ 200 (fl σ 100 x1)) = 7
    · have hm := ite_t c32 hm
      obtain ⟨r33, e34, hm⟩ := obd_s hm
      have q35 := (km_Rw_euclid hmrRow hC hv_x1 e34)
      have hC36 : Cl π r33 := q35
      cases hm
      exact hC36
    have hm := ite_f c32 hm
    by_cases c37 : (fl σ 200 (fl σ 100 x1)) = 8
    · have hm := ite_t c37 hm
      obtain ⟨r38, e39, hm⟩ := obd_s hm
      have q40 := (km_Rw_layer hmrRow hC hv_x1 e39)
      have hC41 : Cl π r38 := q40
      cases hm
      exact hC41
    have hm := ite_f c37 hm
    by_cases c42 : (fl σ 200 (fl σ 100 x1)) = 9
    · have hm := ite_t c42 hm
      obtain ⟨r43, e44, hm⟩ := obd_s hm
      have q45 := (km_Rw_fast hmrRow hC hv_x1 e44)
      have hC46 : Cl π r43 := q45
      cases hm
      exact hC46
    have hm := ite_f c42 hm
    by_cases c47 : (fl σ 200 (fl σ 100 x1)) = 10
    · have hm := ite_t c47 hm
      obtain ⟨g48, hm⟩ := grd_s hm
      obtain ⟨g49, hm⟩ := grd_s hm
      obtain ⟨r50, e51, hm⟩ := obd_s hm
      have q52 := (km_Rw_shift hmrRow hC hv_x1 e51)
      have hC53 : Cl π r50 := q52
      cases hm
      exact hC53
    have hm := ite_f c47 hm
    by_cases c54 : (fl σ 200 (fl σ 100 x1)) = 11
    · have hm := ite_t c54 hm
      obtain ⟨r55, e56, hm⟩ := obd_s hm
      have q57 := (km_Rw_reverse hmrRow hC hv_x1 e56)
      have hC58 : Cl π r55 := q57
      cases hm
      exact hC58
    have hm := ite_f c54 hm
    by_cases c59 : (fl σ 200 (fl σ 100 x1)) = 12
    · have hm := ite_t c59 hm
      obtain ⟨g60, hm⟩ := grd_s hm
      obtain ⟨r61, e62, hm⟩ := obd_s hm
      obtain ⟨g63, hm⟩ := grd_s hm
      by_cases c64 : r61 = 0
      · have hm := ite_t c64 hm
        exact km_Rw_row_280 hmrRow hC hv_x1 hm
      · have hm := ite_f c64 hm
        exact km_Rw_row_280 hmrRow hC hv_x1 hm
    have hm := ite_f c59 hm
    by_cases c65 : (fl σ 200 (fl σ 100 x1)) = 13
    · have hm := ite_t c65 hm
      obtain ⟨g66, hm⟩ := grd_s hm
      obtain ⟨r67, e68, hm⟩ := obd_s hm
      obtain ⟨g69, hm⟩ := grd_s hm
      obtain ⟨g70, hm⟩ := grd_s hm
      obtain ⟨g71, hm⟩ := grd_s hm
      by_cases c72 : r67 < (fl σ 203 (fl σ 100 x1))
      · have hm := ite_t c72 hm
        exact km_Rw_row_314 hmrRow hC hv_x1 hm
      · have hm := ite_f c72 hm
        exact km_Rw_row_314 hmrRow hC hv_x1 hm
    have hm := ite_f c65 hm
    by_cases c73 : (fl σ 200 (fl σ 100 x1)) = 14
    · have hm := ite_t c73 hm
      obtain ⟨g74, hm⟩ := grd_s hm
      obtain ⟨r75, e76, hm⟩ := obd_s hm
      obtain ⟨r77, e78, hm⟩ := obd_s hm
      have q79 := (km_Rw_shift hmrRow hC hv_x1 e78)
      have hC80 : Cl π r77 := q79
      cases hm
      exact hC80
    have hm := ite_f c73 hm
    by_cases c81 : (fl σ 200 (fl σ 100 x1)) = 15
    · have hm := ite_t c81 hm
      obtain ⟨r82, e83, hm⟩ := obd_s hm
      have q84 := (km_Rw_ply hmrRow hC hv_x1 e83)
      have hC85 : Cl π r82 := q84
      cases hm
      exact hC85
    have hm := ite_f c81 hm
    by_cases c86 : (fl σ 200 (fl σ 100 x1)) = 16
    · have hm := ite_t c86 hm
      obtain ⟨r87, e88, hm⟩ := obd_s hm
      have q89 := (km_Rw_chunk hmrRow hC hv_x1 e88)
      have hC90 : Cl π r87 := q89
      cases hm
      exact hC90
    have hm := ite_f c86 hm
    by_cases c91 : (fl σ 200 (fl σ 100 x1)) = 17
    · have hm := ite_t c91 hm
      obtain ⟨g92, hm⟩ := grd_s hm
      obtain ⟨g93, hm⟩ := grd_s hm
      obtain ⟨r94, e95, hm⟩ := obd_s hm
      obtain ⟨g96, hm⟩ := grd_s hm
      obtain ⟨g97, hm⟩ := grd_s hm
      obtain ⟨r98, e99, hm⟩ := obd_s hm
      obtain ⟨r100, e101, hm⟩ := obd_s hm
      have q102 := (km_Rw_within hmrRow hC hv_x1 e101)
      have hC103 : Cl π r100 := q102
      cases hm
      exact hC103
    have hm := ite_f c91 hm
    by_cases c104 : (fl σ 200 (fl σ 100 x1)) = 18
    · have hm := ite_t c104 hm
      obtain ⟨r105, e106, hm⟩ := obd_s hm
      have q107 := (km_Rw_rotate hmrRow hC hv_x1 e106)
      have hC108 : Cl π r105 := q107
      cases hm
      exact hC108
    have hm := ite_f c104 hm
    by_cases c109 : (fl σ 200 (fl σ 100 x1)) = 19
    · have hm := ite_t c109 hm
      obtain ⟨g110, hm⟩ := grd_s hm
      obtain ⟨g111, hm⟩ := grd_s hm
      obtain ⟨g112, hm⟩ := grd_s hm
      obtain ⟨r113, e114, hm⟩ := obd_s hm
      have q115 := (km_Rw_meet hmrRow hC hv_x1 (cl_el hC g110 (by decide) 0) (cl_el hC g110 (by decide) 1) e114)
      have hC116 : Cl π r113 := q115
      cases hm
      exact hC116
    have hm := ite_f c109 hm
    by_cases c117 : (fl σ 200 (fl σ 100 x1)) = 20
    · have hm := ite_t c117 hm
      obtain ⟨g118, hm⟩ := grd_s hm
      obtain ⟨g119, hm⟩ := grd_s hm
      obtain ⟨g120, hm⟩ := grd_s hm
      obtain ⟨r121, e122, hm⟩ := obd_s hm
      have q123 := (km_Rw_meet hmrRow hC hv_x1 (cl_el hC g118 (by decide) 1) (cl_el hC g118 (by decide) 0) e122)
      have hC124 : Cl π r121 := q123
      cases hm
      exact hC124
    have hm := ite_f c117 hm
    by_cases c125 : (fl σ 200 (fl σ 100 x1)) = 21
    · have hm := ite_t c125 hm
      obtain ⟨g126, hm⟩ := grd_s hm
      obtain ⟨g127, hm⟩ := grd_s hm
      obtain ⟨g128, hm⟩ := grd_s hm
      obtain ⟨r129, e130, hm⟩ := obd_s hm
      have q131 := (km_Rw_meet hmrRow hC hv_x1 (cl_el hC g126 (by decide) 0) (cl_el hC g126 (by decide) 1) e130)
      have hC132 : Cl π r129 := q131
      cases hm
      exact hC132
    have hm := ite_f c125 hm
    by_cases c133 : (fl σ 200 (fl σ 100 x1)) = 22
    · have hm := ite_t c133 hm
      obtain ⟨r134, e135, hm⟩ := obd_s hm
      have q136 := (km_Rw_draws hmrRow hC hv_x1 e135)
      have hC137 : Cl π r134 := q136
      cases hm
      exact hC137
    have hm := ite_f c133 hm
    by_cases c138 : (fl σ 200 (fl σ 100 x1)) = 23
    · have hm := ite_t c138 hm
      obtain ⟨r139, e140, hm⟩ := obd_s hm
      have q141 := (km_Rw_draws hmrRow hC hv_x1 e140)
      have hC142 : Cl π r139 := q141
      cases hm
      exact hC142
    have hm := ite_f c138 hm
    by_cases c143 : (fl σ 200 (fl σ 100 x1)) = 24
    · have hm := ite_t c143 hm
      obtain ⟨r144, e145, hm⟩ := obd_s hm
      have q146 := (km_Rw_squeeze hmrRow hC hv_x1 e145)
      have hC147 : Cl π r144 := q146
      cases hm
      exact hC147
    have hm := ite_f c143 hm
    cases hm
    exact hC
set_option maxHeartbeats 8000000 in
set_option maxRecDepth 100000 in
theorem km_Rw_rowC {N d : Nat} : ∀ {π : Sh} {σ : St} {y1 : Int} {y2 : Int} {r : St}, Cl π σ → y1 < nn π → Rw_rowC N d π σ y1 y2 = some r → Cl π r := by
  induction d with
  | zero => intro π σ y1 y2 r hC hv_y1 hm; cases (show none = some r from hm)
  | succ d ih => intro π σ y1 y2 r hC hv_y1 hm; exact km_Rw_row (N := N) ih hC hv_y1 hm
set_option maxHeartbeats 8000000 in
set_option maxRecDepth 100000 in
theorem km_Rw_workOut {N : Nat}   {π : Sh} {σ : St} {x1 : Int} {x2 : Int} {r : St} (hC : Cl π σ) (hv_x1 : x1 < nn π) (hm : Rw_workOut N π σ x1 x2 = some r) : Cl π r := by
  have hS := hC.1
  rw [Rw_workOut] at hm
  obtain ⟨σ1, e2, hm⟩ := bnd_s hm
  have hC3 : Cl π σ1 := e2 ▸ (cl_sfI hC (f := 46) rfl _ _)
  obtain ⟨r4, e5, hm⟩ := obd_s hm
  have q6 := (km_Rw_rowC hC3 hv_x1 e5)
  have hC7 : Cl π r4 := q6
  cases hm
  exact hC7
set_option maxHeartbeats 8000000 in
set_option maxRecDepth 100000 in
theorem km_Sc_append_3 {N : Nat}   {π : Sh} {r : St}  (n : Nat) : ∀ {σ : St} {x1 : Int} {x2 : Int}, Cl π σ → Sc_append_3 N π n σ x1 x2 = some r → Cl π r := by
  induction n with
  | zero => intro σ x1 x2 hC  hm; cases (show none = some r from hm)
  | succ n krec3 =>
    intro σ x1 x2 hC  hm
    have hS := hC.1
    rw [Sc_append_3] at hm
    obtain ⟨g1, hm⟩ := grd_s hm
    by_cases c2 : x2 < 0
    · have hm := ite_t c2 hm
      cases hm
      exact hC
    · have hm := ite_f c2 hm
      obtain ⟨g3, hm⟩ := grd_s hm
      by_cases c4 : (fl σ 181 1) < 2000
      · have hm := ite_t c4 hm
        obtain ⟨g5, hm⟩ := grd_s hm
        exact krec3 (cl_sfI (cl_seI hC (sh_2 hS) (by decide) _ _) (f := 181) rfl _ _)  hm
      · have hm := ite_f c4 hm
        cases hm
        exact hC
set_option maxHeartbeats 8000000 in
set_option maxRecDepth 100000 in
theorem km_Sc_append {N : Nat}   {π : Sh} {σ : St} {x1 : Int} {r : St} (hC : Cl π σ)  (hm : Sc_append N π σ x1 = some r) : Cl π r := by
  have hS := hC.1
  rw [Sc_append] at hm
  exact km_Sc_append_3 N hC hm
set_option maxHeartbeats 8000000 in
set_option maxRecDepth 100000 in
theorem km_Sc_restart {N : Nat}   {π : Sh} {σ : St}  {r : St} (hC : Cl π σ)  (hm : Sc_restart N π σ  = some r) : Cl π r := by
  have hS := hC.1
  rw [Sc_restart] at hm
  obtain ⟨σ1, e2, hm⟩ := bnd_s hm
  have hC3 : Cl π σ1 := e2 ▸ (cl_sfI (cl_sfI (cl_sfI (cl_sfI hC (f := 182) rfl _ _) (f := 183) rfl _ _) (f := 184) rfl _ _) (f := 187) rfl _ _)
  obtain ⟨r4, e5, hm⟩ := obd_s hm
  have q6 := (km_Sc_advance hC3 e5)
  have hC7 : Cl π r4 := q6
  cases hm
  exact hC7
set_option maxHeartbeats 8000000 in
set_option maxRecDepth 100000 in
theorem km_Cs_feed {N : Nat}   {π : Sh} {σ : St} {x1 : Int} {x2 : Int} {x3 : Int} {x4 : Int} {x5 : Int} {r : St × Int} (hC : Cl π σ)  (hm : Cs_feed N π σ x1 x2 x3 x4 x5 = some r) : Cl π r.1 := by
  have hS := hC.1
  rw [Cs_feed] at hm
  obtain ⟨g1, hm⟩ := grd_s hm
  by_cases c2 : (2000 : Int) < ((fl σ 181 1) + 20)
  · have hm := ite_t c2 hm
    cases hm
    exact hC
  · have hm := ite_f c2 hm
    obtain ⟨r3, e4, hm⟩ := obd_s hm
    have q5 := (km_Sc_append hC e4)
    have hC6 : Cl π r3 := q5
    obtain ⟨r7, e8, hm⟩ := obd_s hm
    have q9 := (km_Sc_append hC6 e8)
    have hC10 : Cl π r7 := q9
    obtain ⟨r11, e12, hm⟩ := obd_s hm
    have q13 := (km_Sc_append hC10 e12)
    have hC14 : Cl π r11 := q13
    obtain ⟨r15, e16, hm⟩ := obd_s hm
    have q17 := (km_Sc_append hC14 e16)
    have hC18 : Cl π r15 := q17
    obtain ⟨r19, e20, hm⟩ := obd_s hm
    have q21 := (km_Sc_append hC18 e20)
    have hC22 : Cl π r19 := q21
    cases hm
    exact hC22
set_option maxHeartbeats 8000000 in
set_option maxRecDepth 100000 in
theorem km_Cs_end {N : Nat}   {π : Sh} {σ : St} {x1 : Int} {r : St × Int} (hC : Cl π σ)  (hm : Cs_end N π σ x1 = some r) : Cl π r.1 := by
  have hS := hC.1
  rw [Cs_end] at hm
  obtain ⟨g1, hm⟩ := grd_s hm
  by_cases c2 : x1 < 0
  · have hm := ite_t c2 hm
    cases hm
    exact hC
  · have hm := ite_f c2 hm
    obtain ⟨g3, hm⟩ := grd_s hm
    by_cases c4 : (fl σ 181 1) < x1
    · have hm := ite_t c4 hm
      cases hm
      exact hC
    · have hm := ite_f c4 hm
      cases hm
      exact (cl_sfI hC (f := 181) rfl _ _)
set_option maxHeartbeats 8000000 in
set_option maxRecDepth 100000 in
theorem km_Cs_copyDefinitions_26 {N : Nat}    {r : Sh × St} {rec6 : Sh → St → Int → Int → Int → Option (Sh × St)} (krec6 : ∀ {π : Sh} {σ : St} {x0 : Int} {x1 : Int} {x2 : Int}, Cl π σ → x0 < nn π → x1 < nn π → rec6 π σ x0 x1 x2 = some r → ext π r.1 ∧ Cl r.1 r.2) {π : Sh} {σ : St} {x0 : Int} {x1 : Int} {x2 : Int} {s0 : Int} (hC : Cl π σ) (hv_x0 : x0 < nn π) (hv_x1 : x1 < nn π) (hm : Cs_copyDefinitions_26 N rec6 π σ x0 x1 x2 s0 = some r) : ext π r.1 ∧ Cl r.1 r.2 := by
  have hS := hC.1
  rw [Cs_copyDefinitions_26] at hm
  exact krec6 hC hv_x0 hv_x1 hm
set_option maxHeartbeats 8000000 in
set_option maxRecDepth 100000 in
theorem km_Cs_copyDefinitions_6 {N : Nat}    {r : Sh × St}  (n : Nat) : ∀ {π : Sh} {σ : St} {x0 : Int} {x1 : Int} {x2 : Int}, Cl π σ → x0 < nn π → x1 < nn π → Cs_copyDefinitions_6 N n π σ x0 x1 x2 = some r → ext π r.1 ∧ Cl r.1 r.2 := by
  induction n with
  | zero => intro π σ x0 x1 x2 hC hv_x0 hv_x1 hm; cases (show none = some r from hm)
  | succ n krec6 =>
    intro π σ x0 x1 x2 hC hv_x0 hv_x1 hm
    have hS := hC.1
    rw [Cs_copyDefinitions_6] at hm
    obtain ⟨r6, e7, hm⟩ := obd_s hm
    have q8 := (km_L_size hC hv_x0 e7)
    obtain ⟨g9, hm⟩ := grd_s hm
    have hC10 : Cl π r6.1 := q8
    obtain ⟨g11, hm⟩ := grd_s hm
    obtain ⟨g12, hm⟩ := grd_s hm
    by_cases c13 : x2 < r6.2
    · have hm := ite_t c13 hm
      obtain ⟨r14, e15, hm⟩ := obd_s hm
      have q16 := (km_L_get hC10 hv_x0 e15)
      have hC17 : Cl π r14.1 := q16.1
      obtain ⟨g18, hm⟩ := grd_s hm
      obtain ⟨r19, e20, hm⟩ := obd_s hm
      have q21 := (km_L_add hC17 hv_x1 q16.2 e20)
      obtain ⟨g22, hm⟩ := grd_s hm
      have q := km_Cs_copyDefinitions_26  krec6 q21.2 (lt_ext hv_x0 q21.1) (lt_ext hv_x1 q21.1) hm
      exact ⟨q21.1.tr q.1, q.2⟩
    · have hm := ite_f c13 hm
      cases hm
      exact ⟨ext.rf _, hC10⟩
set_option maxHeartbeats 8000000 in
set_option maxRecDepth 100000 in
theorem km_Cs_copyDefinitions {N : Nat}   {π : Sh} {σ : St} {x0 : Int} {x1 : Int} {r : Sh × St} (hC : Cl π σ) (hv_x0 : x0 < nn π) (hv_x1 : x1 < nn π) (hm : Cs_copyDefinitions N π σ x0 x1 = some r) : ext π r.1 ∧ Cl r.1 r.2 := by
  have hS := hC.1
  rw [Cs_copyDefinitions] at hm
  obtain ⟨r1, e2, hm⟩ := obd_s hm
  have q3 := (km_L_clear hC hv_x1 e2)
  obtain ⟨g4, hm⟩ := grd_s hm
  have hC5 : Cl π r1 := q3
  exact km_Cs_copyDefinitions_6 N hC5 hv_x0 hv_x1 hm
set_option maxHeartbeats 8000000 in
set_option maxRecDepth 100000 in
theorem km_Cs_finishReading_60 {N : Nat}   {π : Sh} {r : St × Int}  {σ : St} {x1 : Int} (hC : Cl π σ)  (hm : Cs_finishReading_60 N π σ x1 = some r) : Cl π r.1 := by
  have hS := hC.1
  rw [Cs_finishReading_60] at hm
  cases hm
  exact (cl_sfI (cl_sfI hC (f := 258) rfl _ _) (f := 181) rfl _ _)
set_option maxHeartbeats 8000000 in
set_option maxRecDepth 100000 in
theorem km_Cs_finishReading {N : Nat}   {π : Sh} {σ : St} {x1 : Int} {r : St × Int} (hC : Cl π σ)  (hm : Cs_finishReading N π σ x1 = some r) : Cl π r.1 := by
  have hS := hC.1
  rw [Cs_finishReading] at hm
  obtain ⟨g1, hm⟩ := grd_s hm
  by_cases c2 : (fl σ 182 1) = 0
  · have hm := ite_t c2 hm
    obtain ⟨g3, hm⟩ := grd_s hm
    by_cases c4 : (fl σ 88 3) = 0
    · have hm := ite_t c4 hm
      exact km_Cs_finishReading_60 (cl_sfI (cl_sfI (cl_sfI hC (f := 255) rfl _ _) (f := 256) rfl _ _) (f := 257) rfl _ _) hm
    · have hm := ite_f c4 hm
      exact km_Cs_finishReading_60 (cl_sfI (cl_sfI (cl_sfI (cl_sfI hC (f := 255) rfl _ _) (f := 256) rfl _ _) (f := 257) rfl _ _) (f := 257) rfl _ _) hm
  · have hm := ite_f c2 hm
    exact km_Cs_finishReading_60 (cl_sfI (cl_sfI (cl_sfI (cl_sfI hC (f := 255) rfl _ _) (f := 256) rfl _ _) (f := 257) rfl _ _) (f := 257) rfl _ _) hm
set_option maxHeartbeats 8000000 in
set_option maxRecDepth 100000 in
theorem km_Cs_startReading_11 {N : Nat}    {r : Sh × St}  {π : Sh} {σ : St}  (hC : Cl π σ)  (hm : Cs_startReading_11 N π σ  = some r) : ext π r.1 ∧ Cl r.1 r.2 := by
  have hS := hC.1
  rw [Cs_startReading_11] at hm
  obtain ⟨r4, e5, hm⟩ := obd_s hm
  have q6 := (km_Sc_restart hC e5)
  have hC7 : Cl π r4 := q6
  obtain ⟨r8, e9, hm⟩ := obd_s hm
  have q10 := (km_Mk_restart hC7 e9)
  have hC11 : Cl π r8 := q10
  cases hm
  exact ⟨ext.rf _, hC11⟩
set_option maxHeartbeats 8000000 in
set_option maxRecDepth 100000 in
theorem km_Cs_startReading {N : Nat}   {π : Sh} {σ : St}  {r : Sh × St} (hC : Cl π σ)  (hm : Cs_startReading N π σ  = some r) : ext π r.1 ∧ Cl r.1 r.2 := by
  have hS := hC.1
  rw [Cs_startReading] at hm
  obtain ⟨r1, e2, hm⟩ := obd_s hm
  have q3 := (km_Cs_copyDefinitions hC (sh_42 hS).2.1 (sh_43 hS).2.1 e2)
  have q := km_Cs_startReading_11   q3.2  hm
  exact ⟨q3.1.tr q.1, q.2⟩
set_option maxHeartbeats 8000000 in
set_option maxRecDepth 100000 in
theorem km_Cs_takeLine_112 {N : Nat}    {r : Sh × St × Int}  {π : Sh} {σ : St} {s0 : Int} (hC : Cl π σ)  (hm : Cs_takeLine_112 N π σ s0 = some r) : ext π r.1 ∧ Cl r.1 r.2.1 := by
  have hS := hC.1
  rw [Cs_takeLine_112] at hm
  cases hm
  exact ⟨ext.rf _, hC⟩
set_option maxHeartbeats 8000000 in
set_option maxRecDepth 100000 in
theorem km_Cs_takeLine_53 {N : Nat}    {r : Sh × St × Int}  (n : Nat) : ∀ {π : Sh} {σ : St} {x1 : Int} {x2 : Int}, Cl π σ → x1 < nn π → Cs_takeLine_53 N n π σ x1 x2 = some r → ext π r.1 ∧ Cl r.1 r.2.1 := by
  induction n with
  | zero => intro π σ x1 x2 hC hv_x1 hm; cases (show none = some r from hm)
  | succ n krec53 =>
    intro π σ x1 x2 hC hv_x1 hm
    have hS := hC.1
    rw [Cs_takeLine_53] at hm
    obtain ⟨r13, e14, hm⟩ := obd_s hm
    have q15 := (km_L_size hC (sh_43 hS).2.1 e14)
    have hC16 : Cl π r13.1 := q15
    obtain ⟨g17, hm⟩ := grd_s hm
    obtain ⟨g18, hm⟩ := grd_s hm
    by_cases c19 : x2 < r13.2
    · have hm := ite_t c19 hm
      obtain ⟨r23, e24, hm⟩ := obd_s hm
      have q25 := (km_L_get hC16 (sh_43 hS).2.1 e24)
      have hC26 : Cl π r23.1 := q25.1
      obtain ⟨g27, hm⟩ := grd_s hm
      obtain ⟨g28, hm⟩ := grd_s hm
      obtain ⟨g29, hm⟩ := grd_s hm
      obtain ⟨g30, hm⟩ := grd_s hm
      by_cases c31 : (fl r23.1 20 r23.2) = (fl r23.1 20 x1)
      · have hm := ite_t c31 hm
        obtain ⟨r32, e33, hm⟩ := obd_s hm
        have q34 := (km_L_set hC26 (sh_43 hS).2.1 hv_x1 e33)
        have hC35 : Cl π r32.1 := q34.1
        cases hm
        exact ⟨ext.rf _, hC35⟩
      · have hm := ite_f c31 hm
        exact krec53 hC26 hv_x1 hm
    · have hm := ite_f c19 hm
      obtain ⟨r20, e21, hm⟩ := obd_s hm
      have q22 := (km_L_add hC16 (sh_43 hS).2.1 hv_x1 e21)
      have q := km_Cs_takeLine_112   q22.2  hm
      exact ⟨q22.1.tr q.1, q.2⟩
set_option maxHeartbeats 8000000 in
set_option maxRecDepth 100000 in
theorem km_Cs_takeLine_39 {N : Nat}    {r : Sh × St × Int}  {π : Sh} {σ : St} {x1 : Int} (hC : Cl π σ) (hv_x1 : x1 < nn π) (hm : Cs_takeLine_39 N π σ x1 = some r) : ext π r.1 ∧ Cl r.1 r.2.1 := by
  have hS := hC.1
  rw [Cs_takeLine_39] at hm
  obtain ⟨g10, hm⟩ := grd_s hm
  by_cases c11 : (fl σ 88 3) = 0
  · have hm := ite_t c11 hm
    exact km_Cs_takeLine_53 N hC hv_x1 hm
  · have hm := ite_f c11 hm
    cases hm
    exact ⟨ext.rf _, hC⟩
set_option maxHeartbeats 8000000 in
set_option maxRecDepth 100000 in
theorem km_Cs_takeLine_36 {N : Nat}    {r : Sh × St × Int}  {π : Sh} {σ : St} {x1 : Int} {s0 : Int} {s1 : Int} (hC : Cl π σ) (hv_x1 : x1 < nn π) (hv_s0 : s0 < nn π) (hv_s1 : s1 < nn π) (hm : Cs_takeLine_36 N π σ x1 s0 s1 = some r) : ext π r.1 ∧ Cl r.1 r.2.1 := by
  have hS := hC.1
  rw [Cs_takeLine_36] at hm
  obtain ⟨g12, hm⟩ := grd_s hm
  exact km_Cs_takeLine_39 (cl_sfR hC _ _ hv_s0) hv_x1 hm
set_option maxHeartbeats 8000000 in
set_option maxRecDepth 100000 in
theorem km_Cs_takeLine {N : Nat}   {π : Sh} {σ : St} {x1 : Int} {r : Sh × St × Int} (hC : Cl π σ) (hv_x1 : x1 < nn π) (hm : Cs_takeLine N π σ x1 = some r) : ext π r.1 ∧ Cl r.1 r.2.1 := by
  have hS := hC.1
  rw [Cs_takeLine] at hm
  by_cases c1 : x1 < 0
  · have hm := ite_t c1 hm
    obtain ⟨g8, hm⟩ := grd_s hm
    by_cases c9 : (fl σ 182 1) = 0
    · have hm := ite_t c9 hm
      cases hm
      exact ⟨ext.rf _, hC⟩
    · have hm := ite_f c9 hm
      cases hm
      exact ⟨ext.rf _, hC⟩
  · have hm := ite_f c1 hm
    obtain ⟨g2, hm⟩ := grd_s hm
    obtain ⟨g3, hm⟩ := grd_s hm
    by_cases c4 : (fl σ 22 x1) = 0
    · have hm := ite_t c4 hm
      obtain ⟨r5, e6, hm⟩ := obd_s hm
      have q7 := (km_Mk_make hC hv_x1 e6)
      have q := km_Cs_takeLine_36   q7.2.1 (lt_ext hv_x1 q7.1) q7.2.2 (lt_ext hv_x1 q7.1) hm
      exact ⟨q7.1.tr q.1, q.2⟩
    · have hm := ite_f c4 hm
      exact km_Cs_takeLine_39 hC hv_x1 hm
set_option maxHeartbeats 8000000 in
set_option maxRecDepth 100000 in
theorem km_Cs_read_54 {N : Nat}    {r : Sh × St × Int} {rec14 : Sh → St → Int → Int → Option (Sh × St × Int)} (krec14 : ∀ {π : Sh} {σ : St} {x1 : Int} {x2 : Int}, Cl π σ → rec14 π σ x1 x2 = some r → ext π r.1 ∧ Cl r.1 r.2.1) {π : Sh} {σ : St} {x2 : Int} {s0 : Int} (hC : Cl π σ)  (hm : Cs_read_54 N rec14 π σ x2 s0 = some r) : ext π r.1 ∧ Cl r.1 r.2.1 := by
  have hS := hC.1
  rw [Cs_read_54] at hm
  exact krec14 hC  hm
set_option maxHeartbeats 8000000 in
set_option maxRecDepth 100000 in
theorem km_Cs_read_53 {N : Nat}    {r : Sh × St × Int} {rec14 : Sh → St → Int → Int → Option (Sh × St × Int)} (krec14 : ∀ {π : Sh} {σ : St} {x1 : Int} {x2 : Int}, Cl π σ → rec14 π σ x1 x2 = some r → ext π r.1 ∧ Cl r.1 r.2.1) {π : Sh} {σ : St} {x2 : Int} (hC : Cl π σ)  (hm : Cs_read_53 N rec14 π σ x2 = some r) : ext π r.1 ∧ Cl r.1 r.2.1 := by
  have hS := hC.1
  rw [Cs_read_53] at hm
  exact km_Cs_read_54 krec14 hC hm
set_option maxHeartbeats 8000000 in
set_option maxRecDepth 100000 in
theorem km_Cs_read_36 {N : Nat}    {r : Sh × St × Int} {rec14 : Sh → St → Int → Int → Option (Sh × St × Int)} (krec14 : ∀ {π : Sh} {σ : St} {x1 : Int} {x2 : Int}, Cl π σ → rec14 π σ x1 x2 = some r → ext π r.1 ∧ Cl r.1 r.2.1) {π : Sh} {σ : St} {x2 : Int} {s0 : Int} (hC : Cl π σ)  (hm : Cs_read_36 N rec14 π σ x2 s0 = some r) : ext π r.1 ∧ Cl r.1 r.2.1 := by
  have hS := hC.1
  rw [Cs_read_36] at hm
  obtain ⟨g28, hm⟩ := grd_s hm
  by_cases c29 : s0 = 0
  · have hm := ite_t c29 hm
    exact km_Cs_read_53 krec14 hC hm
  · have hm := ite_f c29 hm
    obtain ⟨r30, e31, hm⟩ := obd_s hm
    have q32 := (km_Rd_hasMore hC e31)
    have hC33 : Cl π r30.1 := q32
    obtain ⟨g34, hm⟩ := grd_s hm
    by_cases c35 : r30.2 = 0
    · have hm := ite_t c35 hm
      exact km_Cs_read_53 krec14 hC33 hm
    · have hm := ite_f c35 hm
      exact km_Cs_read_54 krec14 hC33 hm
set_option maxHeartbeats 8000000 in
set_option maxRecDepth 100000 in
theorem km_Cs_read_33 {N : Nat}    {r : Sh × St × Int} {rec14 : Sh → St → Int → Int → Option (Sh × St × Int)} (krec14 : ∀ {π : Sh} {σ : St} {x1 : Int} {x2 : Int}, Cl π σ → rec14 π σ x1 x2 = some r → ext π r.1 ∧ Cl r.1 r.2.1) {π : Sh} {σ : St} {x2 : Int} {s0 : Int} (hC : Cl π σ) (hv_s0 : s0 < nn π) (hm : Cs_read_33 N rec14 π σ x2 s0 = some r) : ext π r.1 ∧ Cl r.1 r.2.1 := by
  have hS := hC.1
  rw [Cs_read_33] at hm
  obtain ⟨r17, e18, hm⟩ := obd_s hm
  have q19 := (km_Cs_takeLine hC hv_s0 e18)
  have q := km_Cs_read_36  krec14 q19.2  hm
  exact ⟨q19.1.tr q.1, q.2⟩
set_option maxHeartbeats 8000000 in
set_option maxRecDepth 100000 in
theorem km_Cs_read_123 {N : Nat}    {r : Sh × St × Int}  {π : Sh} {σ : St} {x2 : Int} (hC : Cl π σ)  (hm : Cs_read_123 N π σ x2 = some r) : ext π r.1 ∧ Cl r.1 r.2.1 := by
  have hS := hC.1
  rw [Cs_read_123] at hm
  obtain ⟨r41, e42, hm⟩ := obd_s hm
  have q43 := (km_Cs_finishReading hC e42)
  have hC44 : Cl π r41.1 := q43
  cases hm
  exact ⟨ext.rf _, hC44⟩
set_option maxHeartbeats 8000000 in
set_option maxRecDepth 100000 in
theorem km_Cs_read_108 {N : Nat}    {r : Sh × St × Int}  {π : Sh} {σ : St} {x2 : Int} (hC : Cl π σ)  (hm : Cs_read_108 N π σ x2 = some r) : ext π r.1 ∧ Cl r.1 r.2.1 := by
  have hS := hC.1
  rw [Cs_read_108] at hm
  obtain ⟨g36, hm⟩ := grd_s hm
  by_cases c37 : x2 = 0
  · have hm := ite_t c37 hm
    obtain ⟨r38, e39, hm⟩ := obd_s hm
    have q40 := (km_Cs_copyDefinitions hC (sh_43 hS).2.1 (sh_42 hS).2.1 e39)
    have q := km_Cs_read_123   q40.2  hm
    exact ⟨q40.1.tr q.1, q.2⟩
  · have hm := ite_f c37 hm
    exact km_Cs_read_123 hC hm
set_option maxHeartbeats 8000000 in
set_option maxRecDepth 100000 in
theorem km_Cs_read_88 {N : Nat}    {r : Sh × St × Int}  {π : Sh} {σ : St} {s0 : Int} (hC : Cl π σ)  (hm : Cs_read_88 N π σ s0 = some r) : ext π r.1 ∧ Cl r.1 r.2.1 := by
  have hS := hC.1
  rw [Cs_read_88] at hm
  obtain ⟨g20, hm⟩ := grd_s hm
  by_cases c21 : s0 = 0
  · have hm := ite_t c21 hm
    obtain ⟨r22, e23, hm⟩ := obd_s hm
    have q24 := (km_L_size hC (sh_43 hS).2.1 e23)
    have hC25 : Cl π r22.1 := q24
    obtain ⟨g26, hm⟩ := grd_s hm
    by_cases c27 : (40 : Int) < r22.2
    · have hm := ite_t c27 hm
      exact km_Cs_read_108 hC25 hm
    · have hm := ite_f c27 hm
      exact km_Cs_read_108 hC25 hm
  · have hm := ite_f c21 hm
    exact km_Cs_read_108 hC hm
set_option maxHeartbeats 8000000 in
set_option maxRecDepth 100000 in
theorem km_Cs_read_61 {N : Nat}    {r : Sh × St × Int}  {π : Sh} {σ : St}  (hC : Cl π σ)  (hm : Cs_read_61 N π σ  = some r) : ext π r.1 ∧ Cl r.1 r.2.1 := by
  have hS := hC.1
  rw [Cs_read_61] at hm
  obtain ⟨g15, hm⟩ := grd_s hm
  by_cases c16 : (fl σ 182 1) = 0
  · have hm := ite_t c16 hm
    exact km_Cs_read_88 hC hm
  · have hm := ite_f c16 hm
    exact km_Cs_read_88 hC hm
set_option maxHeartbeats 8000000 in
set_option maxRecDepth 100000 in
theorem km_Cs_read_14 {N : Nat}    {r : Sh × St × Int}  (n : Nat) : ∀ {π : Sh} {σ : St} {x1 : Int} {x2 : Int}, Cl π σ → Cs_read_14 N n π σ x1 x2 = some r → ext π r.1 ∧ Cl r.1 r.2.1 := by
  induction n with
  | zero => intro π σ x1 x2 hC  hm; cases (show none = some r from hm)
  | succ n krec14 =>
    intro π σ x1 x2 hC  hm
    have hS := hC.1
    rw [Cs_read_14] at hm
    obtain ⟨g8, hm⟩ := grd_s hm
    by_cases c9 : (2000 : Int) < x2
    · have hm := ite_t c9 hm
      exact km_Cs_read_61 hC hm
    · have hm := ite_f c9 hm
      obtain ⟨g10, hm⟩ := grd_s hm
      by_cases c11 : x1 = 0
      · have hm := ite_t c11 hm
        exact km_Cs_read_61 hC hm
      · have hm := ite_f c11 hm
        obtain ⟨r12, e13, hm⟩ := obd_s hm
        have q14 := (km_Rd_line hC e13)
        have q := km_Cs_read_33  krec14 q14.2.1 q14.2.2 hm
        exact ⟨q14.1.tr q.1, q.2⟩
set_option maxHeartbeats 8000000 in
set_option maxRecDepth 100000 in
theorem km_Cs_read_4 {N : Nat}    {r : Sh × St × Int}  {π : Sh} {σ : St}  (hC : Cl π σ)  (hm : Cs_read_4 N π σ  = some r) : ext π r.1 ∧ Cl r.1 r.2.1 := by
  have hS := hC.1
  rw [Cs_read_4] at hm
  obtain ⟨r4, e5, hm⟩ := obd_s hm
  have q6 := (km_Rd_hasMore hC e5)
  have hC7 : Cl π r4.1 := q6
  exact km_Cs_read_14 N hC7 hm
set_option maxHeartbeats 8000000 in
set_option maxRecDepth 100000 in
theorem km_Cs_read {N : Nat}   {π : Sh} {σ : St}  {r : Sh × St × Int} (hC : Cl π σ)  (hm : Cs_read N π σ  = some r) : ext π r.1 ∧ Cl r.1 r.2.1 := by
  have hS := hC.1
  rw [Cs_read] at hm
  obtain ⟨r1, e2, hm⟩ := obd_s hm
  have q3 := (km_Cs_startReading hC e2)
  have q := km_Cs_read_4   q3.2  hm
  exact ⟨q3.1.tr q.1, q.2⟩
set_option maxHeartbeats 8000000 in
set_option maxRecDepth 100000 in
theorem km_Cs_settle_55 {N : Nat}   {π : Sh} {r : St} {rec14 : St → Int → Option St} (krec14 : ∀ {σ : St} {x1 : Int}, Cl π σ → rec14 σ x1 = some r → Cl π r) {σ : St} {x1 : Int} (hC : Cl π σ)  (hm : Cs_settle_55 N π rec14 σ x1 = some r) : Cl π r := by
  have hS := hC.1
  rw [Cs_settle_55] at hm
  exact krec14 hC  hm
set_option maxHeartbeats 8000000 in
set_option maxRecDepth 100000 in
theorem km_Cs_settle_14 {N : Nat}   {π : Sh} {r : St}  (n : Nat) : ∀ {σ : St} {x1 : Int}, Cl π σ → Cs_settle_14 N π n σ x1 = some r → Cl π r := by
  induction n with
  | zero => intro σ x1 hC  hm; cases (show none = some r from hm)
  | succ n krec14 =>
    intro σ x1 hC  hm
    have hS := hC.1
    rw [Cs_settle_14] at hm
    obtain ⟨g4, hm⟩ := grd_s hm
    by_cases c5 : x1 < 8
    · have hm := ite_t c5 hm
      obtain ⟨g6, hm⟩ := grd_s hm
      obtain ⟨g7, hm⟩ := grd_s hm
      by_cases c8 : (el σ 53 x1) = 0
      · have hm := ite_t c8 hm
        exact km_Cs_settle_55 krec14 hC hm
      · have hm := ite_f c8 hm
        obtain ⟨g9, hm⟩ := grd_s hm
        exact km_Cs_settle_55 krec14 (cl_seI (cl_seR (cl_seR hC _ _ (cl_el hC (sh_52 hS) (by decide) x1)) _ _ (lt_m1 π)) (sh_53 hS) (by decide) _ _) hm
    · have hm := ite_f c5 hm
      cases hm
      exact hC
set_option maxHeartbeats 8000000 in
set_option maxRecDepth 100000 in
theorem km_Cs_settle {N : Nat}   {π : Sh} {σ : St}  {r : St} (hC : Cl π σ)  (hm : Cs_settle N π σ  = some r) : Cl π r := by
  have hS := hC.1
  rw [Cs_settle] at hm
  obtain ⟨g1, hm⟩ := grd_s hm
  obtain ⟨g2, hm⟩ := grd_s hm
  by_cases c3 : (Int.tmod (fl σ 253 0) 960) = 0
  · have hm := ite_t c3 hm
    exact km_Cs_settle_14 N hC hm
  · have hm := ite_f c3 hm
    cases hm
    exact hC
set_option maxHeartbeats 8000000 in
set_option maxRecDepth 100000 in
theorem km_Cs_assign {N : Nat}   {π : Sh} {σ : St} {x1 : Int} {x2 : Int} {r : St} (hC : Cl π σ) (hv_x2 : x2 < nn π) (hm : Cs_assign N π σ x1 x2 = some r) : Cl π r := by
  have hS := hC.1
  rw [Cs_assign] at hm
  obtain ⟨g1, hm⟩ := grd_s hm
  obtain ⟨g2, hm⟩ := grd_s hm
  obtain ⟨σ3, e4, hm⟩ := bnd_s hm
  have hC5 : Cl π σ3 := e4 ▸ (cl_seI (cl_seR hC _ _ hv_x2) (sh_53 hS) (by decide) _ _)
  obtain ⟨r6, e7, hm⟩ := obd_s hm
  have q8 := (km_Cs_settle hC5 e7)
  have hC9 : Cl π r6 := q8
  cases hm
  exact hC9

set_option maxHeartbeats 8000000 in
set_option maxRecDepth 100000 in
theorem km_Cs_hang_84 {N : Nat}    {r : Sh × St × Int}  {π : Sh} {σ : St} {x4 : Int} (hC : Cl π σ)  (hm : Cs_hang_84 N π σ x4 = some r) : ext π r.1 ∧ Cl r.1 r.2.1 := by
  have hS := hC.1
  rw [Cs_hang_84] at hm
  obtain ⟨r24, e25, hm⟩ := obd_s hm
  have q26 := (km_Cs_finishReading hC e25)
  have hC27 : Cl π r24.1 := q26
  cases hm
  exact ⟨ext.rf _, hC27⟩
set_option maxHeartbeats 8000000 in
set_option maxRecDepth 100000 in
theorem km_Cs_hang_71 {N : Nat}    {r : Sh × St × Int}  {π : Sh} {σ : St} {x1 : Int} {x3 : Int} {s0 : Int} (hC : Cl π σ) (hv_x3 : x3 < nn π) (hm : Cs_hang_71 N π σ x1 x3 s0 = some r) : ext π r.1 ∧ Cl r.1 r.2.1 := by
  have hS := hC.1
  rw [Cs_hang_71] at hm
  obtain ⟨g18, hm⟩ := grd_s hm
  by_cases c19 : s0 = 0
  · have hm := ite_t c19 hm
    obtain ⟨r20, e21, hm⟩ := obd_s hm
    have q22 := (km_Cs_assign hC hv_x3 e21)
    have hC23 : Cl π r20 := q22
    exact km_Cs_hang_84 hC23 hm
  · have hm := ite_f c19 hm
    exact km_Cs_hang_84 hC hm
set_option maxHeartbeats 8000000 in
set_option maxRecDepth 100000 in
theorem km_Cs_hang_43 {N : Nat}    {r : Sh × St × Int}  {π : Sh} {σ : St} {x1 : Int} {s0 : Int} (hC : Cl π σ) (hv_s0 : s0 < nn π) (hm : Cs_hang_43 N π σ x1 s0 = some r) : ext π r.1 ∧ Cl r.1 r.2.1 := by
  have hS := hC.1
  rw [Cs_hang_43] at hm
  obtain ⟨g16, hm⟩ := grd_s hm
  by_cases c17 : (fl σ 182 1) = 0
  · have hm := ite_t c17 hm
    exact km_Cs_hang_71 hC hv_s0 hm
  · have hm := ite_f c17 hm
    exact km_Cs_hang_71 hC hv_s0 hm
set_option maxHeartbeats 8000000 in
set_option maxRecDepth 100000 in
theorem km_Cs_hang_39 {N : Nat}    {r : Sh × St × Int}  {π : Sh} {σ : St} {x1 : Int} {s0 : Int} (hC : Cl π σ) (hv_s0 : s0 < nn π) (hm : Cs_hang_39 N π σ x1 s0 = some r) : ext π r.1 ∧ Cl r.1 r.2.1 := by
  have hS := hC.1
  rw [Cs_hang_39] at hm
  exact km_Cs_hang_43 hC hv_s0 hm
set_option maxHeartbeats 8000000 in
set_option maxRecDepth 100000 in
theorem km_Cs_hang_20 {N : Nat}    {r : Sh × St × Int}  {π : Sh} {σ : St} {x1 : Int} {s0 : Int} (hC : Cl π σ) (hv_s0 : s0 < nn π) (hm : Cs_hang_20 N π σ x1 s0 = some r) : ext π r.1 ∧ Cl r.1 r.2.1 := by
  have hS := hC.1
  rw [Cs_hang_20] at hm
  obtain ⟨g11, hm⟩ := grd_s hm
  by_cases c12 : (fl σ 182 1) = 0
  · have hm := ite_t c12 hm
    obtain ⟨r13, e14, hm⟩ := obd_s hm
    have q15 := (km_Mk_make hC hv_s0 e14)
    have q := km_Cs_hang_39   q15.2.1 q15.2.2 hm
    exact ⟨q15.1.tr q.1, q.2⟩
  · have hm := ite_f c12 hm
    exact km_Cs_hang_43 hC (lt_m1 π) hm
set_option maxHeartbeats 8000000 in
set_option maxRecDepth 100000 in
theorem km_Cs_hang_13 {N : Nat}    {r : Sh × St × Int}  {π : Sh} {σ : St} {x1 : Int} (hC : Cl π σ)  (hm : Cs_hang_13 N π σ x1 = some r) : ext π r.1 ∧ Cl r.1 r.2.1 := by
  have hS := hC.1
  rw [Cs_hang_13] at hm
  obtain ⟨r8, e9, hm⟩ := obd_s hm
  have q10 := (km_Rd_wholeExp hC e9)
  have q := km_Cs_hang_20   q10.2.1 q10.2.2 hm
  exact ⟨q10.1.tr q.1, q.2⟩
set_option maxHeartbeats 8000000 in
set_option maxRecDepth 100000 in
theorem km_Cs_hang {N : Nat}   {π : Sh} {σ : St} {x1 : Int} {r : Sh × St × Int} (hC : Cl π σ)  (hm : Cs_hang N π σ x1 = some r) : ext π r.1 ∧ Cl r.1 r.2.1 := by
  have hS := hC.1
  rw [Cs_hang] at hm
  obtain ⟨r1, e2, hm⟩ := obd_s hm
  obtain ⟨g3, hm⟩ := grd_s hm
  by_cases c4 : r1 = 0
  · have hm := ite_t c4 hm
    cases hm
    exact ⟨ext.rf _, hC⟩
  · have hm := ite_f c4 hm
    obtain ⟨r5, e6, hm⟩ := obd_s hm
    have q7 := (km_Cs_startReading hC e6)
    have q := km_Cs_hang_13   q7.2  hm
    exact ⟨q7.1.tr q.1, q.2⟩
set_option maxHeartbeats 8000000 in
set_option maxRecDepth 100000 in
theorem km_Cs_hush {N : Nat}   {π : Sh} {σ : St} {x1 : Int} {r : St × Int} (hC : Cl π σ)  (hm : Cs_hush N π σ x1 = some r) : Cl π r.1 := by
  have hS := hC.1
  rw [Cs_hush] at hm
  obtain ⟨r1, e2, hm⟩ := obd_s hm
  obtain ⟨g3, hm⟩ := grd_s hm
  by_cases c4 : r1 = 0
  · have hm := ite_t c4 hm
    cases hm
    exact hC
  · have hm := ite_f c4 hm
    obtain ⟨r5, e6, hm⟩ := obd_s hm
    have q7 := (km_Cs_assign hC (lt_m1 π) e6)
    have hC8 : Cl π r5 := q7
    cases hm
    exact hC8
set_option maxHeartbeats 8000000 in
set_option maxRecDepth 100000 in
theorem km_Cs_told {N : Nat}   {π : Sh} {σ : St} {x1 : Int} {r : St × Int} (hC : Cl π σ)  (hm : Cs_told N π σ x1 = some r) : Cl π r.1 := by
  have hS := hC.1
  rw [Cs_told] at hm
  obtain ⟨g1, hm⟩ := grd_s hm
  by_cases c2 : (fl σ 255 0) = 0
  · have hm := ite_t c2 hm
    cases hm
    exact hC
  · have hm := ite_f c2 hm
    obtain ⟨g3, hm⟩ := grd_s hm
    by_cases c4 : x1 = 0
    · have hm := ite_t c4 hm
      cases hm
      exact hC
    have hm := ite_f c4 hm
    by_cases c5 : x1 = 1
    · have hm := ite_t c5 hm
      cases hm
      exact hC
    have hm := ite_f c5 hm
    by_cases c6 : x1 = 2
    · have hm := ite_t c6 hm
      cases hm
      exact hC
    have hm := ite_f c6 hm
    cases hm
    exact hC
set_option maxHeartbeats 8000000 in
set_option maxRecDepth 100000 in
theorem km_Cs_bound {N : Nat}   {π : Sh} {σ : St} {x1 : Int} {x2 : Int} {r : St × Int} (hC : Cl π σ)  (hm : Cs_bound N π σ x1 x2 = some r) : Cl π r.1 := by
  have hS := hC.1
  rw [Cs_bound] at hm
  obtain ⟨r1, e2, hm⟩ := obd_s hm
  obtain ⟨g3, hm⟩ := grd_s hm
  by_cases c4 : r1 = 0
  · have hm := ite_t c4 hm
    cases hm
    exact hC
  · have hm := ite_f c4 hm
    obtain ⟨g5, hm⟩ := grd_s hm
    by_cases c6 : (el σ 51 x1) < 0
    · have hm := ite_t c6 hm
      cases hm
      exact hC
    · have hm := ite_f c6 hm
      obtain ⟨v7, e8, hm⟩ := bnd_s hm
      obtain ⟨g9, hm⟩ := grd_s hm
      by_cases c10 : x2 = 0
      · have hm := ite_t c10 hm
        obtain ⟨g11, hm⟩ := grd_s hm
        cases hm
        exact hC
      have hm := ite_f c10 hm
      by_cases c12 : x2 = 1
      · have hm := ite_t c12 hm
        obtain ⟨g13, hm⟩ := grd_s hm
        cases hm
        exact hC
      have hm := ite_f c12 hm
      by_cases c14 : x2 = 2
      · have hm := ite_t c14 hm
        obtain ⟨g15, hm⟩ := grd_s hm
        cases hm
        exact hC
      have hm := ite_f c14 hm
      by_cases c16 : x2 = 3
      · have hm := ite_t c16 hm
        obtain ⟨g17, hm⟩ := grd_s hm
        cases hm
        exact hC
      have hm := ite_f c16 hm
      by_cases c18 : x2 = 4
      · have hm := ite_t c18 hm
        obtain ⟨g19, hm⟩ := grd_s hm
        cases hm
        exact hC
      have hm := ite_f c18 hm
      cases hm
      exact hC
set_option maxHeartbeats 8000000 in
set_option maxRecDepth 100000 in
theorem km_Cs_ask {N : Nat}   {π : Sh} {σ : St} {x1 : Int} {x2 : Int} {r : St × Int} (hC : Cl π σ)  (hm : Cs_ask N π σ x1 x2 = some r) : Cl π r.1 := by
  have hS := hC.1
  rw [Cs_ask] at hm
  obtain ⟨r1, e2, hm⟩ := obd_s hm
  obtain ⟨g3, hm⟩ := grd_s hm
  by_cases c4 : r1 = 0
  · have hm := ite_t c4 hm
    cases hm
    exact hC
  · have hm := ite_f c4 hm
    obtain ⟨g5, hm⟩ := grd_s hm
    by_cases c6 : (el σ 51 x1) < 0
    · have hm := ite_t c6 hm
      cases hm
      exact hC
    · have hm := ite_f c6 hm
      obtain ⟨g7, hm⟩ := grd_s hm
      by_cases c8 : x2 < (-1000)
      · have hm := ite_t c8 hm
        cases hm
        exact hC
      · have hm := ite_f c8 hm
        by_cases c9 : (100000 : Int) < x2
        · have hm := ite_t c9 hm
          cases hm
          exact hC
        · have hm := ite_f c9 hm
          obtain ⟨v10, e11, hm⟩ := bnd_s hm
          obtain ⟨r12, e13, hm⟩ := obd_s hm
          have q14 := (km_Rw_workOut hC (e11 ▸ (cl_el hC (sh_51 hS) (by decide) x1)) e13)
          have hC15 : Cl π r12 := q14
          obtain ⟨g16, hm⟩ := grd_s hm
          obtain ⟨σ17, e18, hm⟩ := bnd_s hm
          have hC19 : Cl π σ17 := e18 ▸ (cl_sfI hC15 (f := 68) rfl _ _)
          obtain ⟨r20, e21, hm⟩ := obd_s hm
          have q22 := (km_Ka_merge hC19 (sh_10 hS).2.1 e21)
          have hC23 : Cl π r20 := q22
          cases hm
          exact hC23
set_option maxHeartbeats 8000000 in
set_option maxRecDepth 100000 in
theorem km_Cs_event {N : Nat}   {π : Sh} {σ : St} {x1 : Int} {x2 : Int} {r : St × Int} (hC : Cl π σ)  (hm : Cs_event N π σ x1 x2 = some r) : Cl π r.1 := by
  have hS := hC.1
  rw [Cs_event] at hm
  obtain ⟨g1, hm⟩ := grd_s hm
  by_cases c2 : x1 < 0
  · have hm := ite_t c2 hm
    cases hm
    exact hC
  · have hm := ite_f c2 hm
    obtain ⟨g3, hm⟩ := grd_s hm
    by_cases c4 : x1 < (fl σ 68 24)
    · have hm := ite_t c4 hm
      obtain ⟨g5, hm⟩ := grd_s hm
      by_cases c6 : x2 = 0
      · have hm := ite_t c6 hm
        obtain ⟨r7, e8, hm⟩ := obd_s hm
        have q9 := (km_Ka_time hC e8)
        have hC10 : Cl π r7.1 := q9
        cases hm
        exact hC10
      have hm := ite_f c6 hm
      by_cases c11 : x2 = 1
      · have hm := ite_t c11 hm
        obtain ⟨r12, e13, hm⟩ := obd_s hm
        have q14 := (km_Ka_time hC e13)
        have hC15 : Cl π r12.1 := q14
        cases hm
        exact hC15
      have hm := ite_f c11 hm
      by_cases c16 : x2 = 2
      · have hm := ite_t c16 hm
        obtain ⟨r17, e18, hm⟩ := obd_s hm
        have q19 := (km_Ka_time hC e18)
        have hC20 : Cl π r17.1 := q19
        cases hm
        exact hC20
      have hm := ite_f c16 hm
      by_cases c21 : x2 = 3
      · have hm := ite_t c21 hm
        obtain ⟨r22, e23, hm⟩ := obd_s hm
        have q24 := (km_Ka_time hC e23)
        have hC25 : Cl π r22.1 := q24
        cases hm
        exact hC25
      have hm := ite_f c21 hm
      by_cases c26 : x2 = 4
      · have hm := ite_t c26 hm
        obtain ⟨g27, hm⟩ := grd_s hm
        cases hm
        exact hC
      have hm := ite_f c26 hm
      by_cases c28 : x2 = 5
      · have hm := ite_t c28 hm
        obtain ⟨g29, hm⟩ := grd_s hm
        obtain ⟨g30, hm⟩ := grd_s hm
        by_cases c31 : (el σ 32 x1) = 0
        · have hm := ite_t c31 hm
          cases hm
          exact hC
        · have hm := ite_f c31 hm
          cases hm
          exact hC
      have hm := ite_f c28 hm
      by_cases c32 : x2 = 6
      · have hm := ite_t c32 hm
        obtain ⟨g33, hm⟩ := grd_s hm
        obtain ⟨r34, e35, hm⟩ := obd_s hm
        cases hm
        exact hC
      have hm := ite_f c32 hm
      cases hm
      exact hC
    · have hm := ite_f c4 hm
      cases hm
      exact hC
set_option maxHeartbeats 8000000 in
set_option maxRecDepth 100000 in
theorem km_Cs_letter {N : Nat}   {π : Sh} {σ : St} {x1 : Int} {x2 : Int} {r : St × Int} (hC : Cl π σ)  (hm : Cs_letter N π σ x1 x2 = some r) : Cl π r.1 := by
  have hS := hC.1
  rw [Cs_letter] at hm
  obtain ⟨r1, e2, hm⟩ := obd_s hm
  have q3 := (km_Ka_letterAt hC e2)
  have hC4 : Cl π r1.1 := q3
  cases hm
  exact hC4
set_option maxHeartbeats 8000000 in
set_option maxRecDepth 100000 in
theorem km_Cs_anyAlone_2 {N : Nat}   {π : Sh} {r : St × Int}  (n : Nat) : ∀ {σ : St} {x1 : Int}, Cl π σ → Cs_anyAlone_2 N π n σ x1 = some r → Cl π r.1 := by
  induction n with
  | zero => intro σ x1 hC  hm; cases (show none = some r from hm)
  | succ n krec2 =>
    intro σ x1 hC  hm
    have hS := hC.1
    rw [Cs_anyAlone_2] at hm
    obtain ⟨g1, hm⟩ := grd_s hm
    by_cases c2 : x1 < 8
    · have hm := ite_t c2 hm
      obtain ⟨g3, hm⟩ := grd_s hm
      obtain ⟨g4, hm⟩ := grd_s hm
      by_cases c5 : (el σ 55 x1) = 0
      · have hm := ite_t c5 hm
        exact krec2 hC  hm
      · have hm := ite_f c5 hm
        cases hm
        exact hC
    · have hm := ite_f c2 hm
      cases hm
      exact hC
set_option maxHeartbeats 8000000 in
set_option maxRecDepth 100000 in
theorem km_Cs_anyAlone {N : Nat}   {π : Sh} {σ : St}  {r : St × Int} (hC : Cl π σ)  (hm : Cs_anyAlone N π σ  = some r) : Cl π r.1 := by
  have hS := hC.1
  rw [Cs_anyAlone] at hm
  exact km_Cs_anyAlone_2 N hC hm
set_option maxHeartbeats 8000000 in
set_option maxRecDepth 100000 in
theorem km_Cs_hearCycle_154 {N : Nat}   {π : Sh} {r : St × Int} {rec21 : St → Int → Int → Int → Int → Int → Int → Int → Option (St × Int)} (krec21 : ∀ {σ : St} {x1 : Int} {x2 : Int} {x3 : Int} {x4 : Int} {x5 : Int} {x6 : Int} {x7 : Int}, Cl π σ → rec21 σ x1 x2 x3 x4 x5 x6 x7 = some r → Cl π r.1) {σ : St} {x1 : Int} {x2 : Int} {x3 : Int} {x4 : Int} {x5 : Int} {x6 : Int} {x7 : Int} (hC : Cl π σ)  (hm : Cs_hearCycle_154 N π rec21 σ x1 x2 x3 x4 x5 x6 x7 = some r) : Cl π r.1 := by
  have hS := hC.1
  rw [Cs_hearCycle_154] at hm
  exact krec21 hC  hm
set_option maxHeartbeats 8000000 in
set_option maxRecDepth 100000 in
theorem km_Cs_hearCycle_70 {N : Nat}   {π : Sh} {r : St × Int} {rec21 : St → Int → Int → Int → Int → Int → Int → Int → Option (St × Int)} (krec21 : ∀ {σ : St} {x1 : Int} {x2 : Int} {x3 : Int} {x4 : Int} {x5 : Int} {x6 : Int} {x7 : Int}, Cl π σ → rec21 σ x1 x2 x3 x4 x5 x6 x7 = some r → Cl π r.1) {σ : St} {x1 : Int} {x2 : Int} {x3 : Int} {x4 : Int} {x5 : Int} {x6 : Int} {x7 : Int} {x8 : Int} (hC : Cl π σ) (hv_x8 : x8 < nn π) (hm : Cs_hearCycle_70 N π rec21 σ x1 x2 x3 x4 x5 x6 x7 x8 = some r) : Cl π r.1 := by
  have hS := hC.1
  rw [Cs_hearCycle_70] at hm
  obtain ⟨g17, hm⟩ := grd_s hm
  obtain ⟨r18, e19, hm⟩ := obd_s hm
  have q20 := (km_Rw_workOut hC hv_x8 e19)
  have hC21 : Cl π r18 := q20
  obtain ⟨g22, hm⟩ := grd_s hm
  obtain ⟨g23, hm⟩ := grd_s hm
  obtain ⟨r24, e25, hm⟩ := obd_s hm
  obtain ⟨g26, hm⟩ := grd_s hm
  obtain ⟨r27, e28, hm⟩ := obd_s hm
  obtain ⟨r29, e30, hm⟩ := obd_s hm
  have q31 := (km_Es_choose hC21 e30)
  have hC32 : Cl π r29 := q31
  obtain ⟨v33, e34, hm⟩ := bnd_s hm
  obtain ⟨r35, e36, hm⟩ := obd_s hm
  have q37 := (km_Kh_merge hC32 (sh_10 hS).2.1 e36)
  have hC38 : Cl π r35 := q37
  exact km_Cs_hearCycle_154 krec21 hC38 hm
set_option maxHeartbeats 8000000 in
set_option maxRecDepth 100000 in
theorem km_Cs_hearCycle_21 {N : Nat}   {π : Sh} {r : St × Int}  (n : Nat) : ∀ {σ : St} {x1 : Int} {x2 : Int} {x3 : Int} {x4 : Int} {x5 : Int} {x6 : Int} {x7 : Int}, Cl π σ → Cs_hearCycle_21 N π n σ x1 x2 x3 x4 x5 x6 x7 = some r → Cl π r.1 := by
  induction n with
  | zero => intro σ x1 x2 x3 x4 x5 x6 x7 hC  hm; cases (show none = some r from hm)
  | succ n krec21 =>
    intro σ x1 x2 x3 x4 x5 x6 x7 hC  hm
    have hS := hC.1
    rw [Cs_hearCycle_21] at hm
    obtain ⟨g5, hm⟩ := grd_s hm
    by_cases c6 : x7 < 8
    · have hm := ite_t c6 hm
      obtain ⟨g7, hm⟩ := grd_s hm
      obtain ⟨v8, e9, hm⟩ := bnd_s hm
      by_cases c10 : v8 < 0
      · have hm := ite_t c10 hm
        exact km_Cs_hearCycle_154 krec21 hC hm
      · have hm := ite_f c10 hm
        obtain ⟨g11, hm⟩ := grd_s hm
        by_cases c12 : (el σ 54 x7) = 0
        · have hm := ite_t c12 hm
          obtain ⟨g13, hm⟩ := grd_s hm
          by_cases c14 : x5 = 0
          · have hm := ite_t c14 hm
            exact km_Cs_hearCycle_70 krec21 hC (e9 ▸ (cl_el hC (sh_51 hS) (by decide) x7)) hm
          · have hm := ite_f c14 hm
            obtain ⟨g15, hm⟩ := grd_s hm
            by_cases c16 : (el σ 55 x7) = 0
            · have hm := ite_t c16 hm
              exact km_Cs_hearCycle_154 krec21 hC hm
            · have hm := ite_f c16 hm
              exact km_Cs_hearCycle_70 krec21 hC (e9 ▸ (cl_el hC (sh_51 hS) (by decide) x7)) hm
        · have hm := ite_f c12 hm
          exact km_Cs_hearCycle_154 krec21 hC hm
    · have hm := ite_f c6 hm
      cases hm
      exact hC
set_option maxHeartbeats 8000000 in
set_option maxRecDepth 100000 in
theorem km_Cs_hearCycle {N : Nat}   {π : Sh} {σ : St} {x1 : Int} {x2 : Int} {x3 : Int} {r : St × Int} (hC : Cl π σ)  (hm : Cs_hearCycle N π σ x1 x2 x3 = some r) : Cl π r.1 := by
  have hS := hC.1
  rw [Cs_hearCycle] at hm
  obtain ⟨r1, e2, hm⟩ := obd_s hm
  have q3 := (km_Cs_anyAlone hC e2)
  have hC4 : Cl π r1.1 := q3
  exact km_Cs_hearCycle_21 N hC4 hm
set_option maxHeartbeats 8000000 in
set_option maxRecDepth 100000 in
theorem km_Cs_play_130 {N : Nat}   {π : Sh} {r : St × Int}  {σ : St} {x3 : Int} (hC : Cl π σ)  (hm : Cs_play_130 N π σ x3 = some r) : Cl π r.1 := by
  have hS := hC.1
  rw [Cs_play_130] at hm
  cases hm
  exact (cl_sfI hC (f := 254) rfl _ _)
set_option maxHeartbeats 8000000 in
set_option maxRecDepth 100000 in
theorem km_Cs_play_45 {N : Nat}   {π : Sh} {r : St × Int}  (n : Nat) : ∀ {σ : St} {x2 : Int} {x3 : Int} {x4 : Int}, Cl π σ → Cs_play_45 N π n σ x2 x3 x4 = some r → Cl π r.1 := by
  induction n with
  | zero => intro σ x2 x3 x4 hC  hm; cases (show none = some r from hm)
  | succ n krec45 =>
    intro σ x2 x3 x4 hC  hm
    have hS := hC.1
    rw [Cs_play_45] at hm
    obtain ⟨g8, hm⟩ := grd_s hm
    by_cases c9 : (3840 : Int) < x4
    · have hm := ite_t c9 hm
      exact km_Cs_play_130 hC hm
    · have hm := ite_f c9 hm
      obtain ⟨g10, hm⟩ := grd_s hm
      obtain ⟨g11, hm⟩ := grd_s hm
      by_cases c12 : (fl σ 253 0) < x2
      · have hm := ite_t c12 hm
        obtain ⟨v13, e14, hm⟩ := bnd_s hm
        obtain ⟨g15, hm⟩ := grd_s hm
        obtain ⟨v16, e17, hm⟩ := bnd_s hm
        obtain ⟨r18, e19, hm⟩ := obd_s hm
        have q20 := (km_Cs_hearCycle hC e19)
        have hC21 : Cl π r18.1 := q20
        obtain ⟨v22, e23, hm⟩ := bnd_s hm
        obtain ⟨σ24, e25, hm⟩ := bnd_s hm
        have hC26 : Cl π σ24 := e25 ▸ (cl_sfI hC21 (f := 253) rfl _ _)
        obtain ⟨r27, e28, hm⟩ := obd_s hm
        have q29 := (km_Cs_settle hC26 e28)
        have hC30 : Cl π r27 := q29
        exact krec45 hC30  hm
      · have hm := ite_f c12 hm
        exact km_Cs_play_130 hC hm
set_option maxHeartbeats 8000000 in
set_option maxRecDepth 100000 in
theorem km_Cs_play {N : Nat}   {π : Sh} {σ : St} {x1 : Int} {r : St × Int} (hC : Cl π σ)  (hm : Cs_play N π σ x1 = some r) : Cl π r.1 := by
  have hS := hC.1
  rw [Cs_play] at hm
  obtain ⟨g1, hm⟩ := grd_s hm
  by_cases c2 : x1 < 1
  · have hm := ite_t c2 hm
    cases hm
    exact hC
  · have hm := ite_f c2 hm
    by_cases c3 : (3840 : Int) < x1
    · have hm := ite_t c3 hm
      cases hm
      exact hC
    · have hm := ite_f c3 hm
      obtain ⟨g4, hm⟩ := grd_s hm
      by_cases c5 : (96000000 : Int) < ((fl σ 253 0) + x1)
      · have hm := ite_t c5 hm
        cases hm
        exact hC
      · have hm := ite_f c5 hm
        obtain ⟨v6, e7, hm⟩ := bnd_s hm
        exact km_Cs_play_45 N (cl_sfI hC (f := 68) rfl _ _) hm
set_option maxHeartbeats 8000000 in
set_option maxRecDepth 100000 in
theorem km_Cs_heard {N : Nat}   {π : Sh} {σ : St} {x1 : Int} {x2 : Int} {r : St × Int} (hC : Cl π σ)  (hm : Cs_heard N π σ x1 x2 = some r) : Cl π r.1 := by
  have hS := hC.1
  rw [Cs_heard] at hm
  obtain ⟨g1, hm⟩ := grd_s hm
  by_cases c2 : x1 < 0
  · have hm := ite_t c2 hm
    cases hm
    exact hC
  · have hm := ite_f c2 hm
    obtain ⟨g3, hm⟩ := grd_s hm
    by_cases c4 : x1 < (fl σ 68 33)
    · have hm := ite_t c4 hm
      obtain ⟨g5, hm⟩ := grd_s hm
      by_cases c6 : x2 = 0
      · have hm := ite_t c6 hm
        obtain ⟨g7, hm⟩ := grd_s hm
        cases hm
        exact hC
      have hm := ite_f c6 hm
      by_cases c8 : x2 = 1
      · have hm := ite_t c8 hm
        obtain ⟨g9, hm⟩ := grd_s hm
        cases hm
        exact hC
      have hm := ite_f c8 hm
      by_cases c10 : x2 = 2
      · have hm := ite_t c10 hm
        obtain ⟨r11, e12, hm⟩ := obd_s hm
        have q13 := (km_Kh_time hC e12)
        have hC14 : Cl π r11.1 := q13
        cases hm
        exact hC14
      have hm := ite_f c10 hm
      by_cases c15 : x2 = 3
      · have hm := ite_t c15 hm
        obtain ⟨r16, e17, hm⟩ := obd_s hm
        have q18 := (km_Kh_time hC e17)
        have hC19 : Cl π r16.1 := q18
        cases hm
        exact hC19
      have hm := ite_f c15 hm
      by_cases c20 : x2 = 4
      · have hm := ite_t c20 hm
        obtain ⟨r21, e22, hm⟩ := obd_s hm
        have q23 := (km_Kh_time hC e22)
        have hC24 : Cl π r21.1 := q23
        cases hm
        exact hC24
      have hm := ite_f c20 hm
      by_cases c25 : x2 = 5
      · have hm := ite_t c25 hm
        obtain ⟨r26, e27, hm⟩ := obd_s hm
        have q28 := (km_Kh_time hC e27)
        have hC29 : Cl π r26.1 := q28
        cases hm
        exact hC29
      have hm := ite_f c25 hm
      by_cases c30 : x2 = 6
      · have hm := ite_t c30 hm
        obtain ⟨g31, hm⟩ := grd_s hm
        cases hm
        exact hC
      have hm := ite_f c30 hm
      by_cases c32 : x2 = 7
      · have hm := ite_t c32 hm
        obtain ⟨g33, hm⟩ := grd_s hm
        obtain ⟨r34, e35, hm⟩ := obd_s hm
        cases hm
        exact hC
      have hm := ite_f c32 hm
      cases hm
      exact hC
    · have hm := ite_f c4 hm
      cases hm
      exact hC
set_option maxHeartbeats 8000000 in
set_option maxRecDepth 100000 in
theorem km_Cs_heardLetter {N : Nat}   {π : Sh} {σ : St} {x1 : Int} {x2 : Int} {r : St × Int} (hC : Cl π σ)  (hm : Cs_heardLetter N π σ x1 x2 = some r) : Cl π r.1 := by
  have hS := hC.1
  rw [Cs_heardLetter] at hm
  obtain ⟨r1, e2, hm⟩ := obd_s hm
  have q3 := (km_Kh_letterAt hC e2)
  have hC4 : Cl π r1.1 := q3
  cases hm
  exact hC4
set_option maxHeartbeats 8000000 in
set_option maxRecDepth 100000 in
theorem km_Cs_jump {N : Nat}   {π : Sh} {σ : St} {x1 : Int} {r : St × Int} (hC : Cl π σ)  (hm : Cs_jump N π σ x1 = some r) : Cl π r.1 := by
  have hS := hC.1
  rw [Cs_jump] at hm
  obtain ⟨g1, hm⟩ := grd_s hm
  by_cases c2 : x1 < 0
  · have hm := ite_t c2 hm
    cases hm
    exact hC
  · have hm := ite_f c2 hm
    by_cases c3 : x1 < 100000
    · have hm := ite_t c3 hm
      obtain ⟨σ4, e5, hm⟩ := bnd_s hm
      have hC6 : Cl π σ4 := e5 ▸ (cl_sfI hC (f := 253) rfl _ _)
      obtain ⟨r7, e8, hm⟩ := obd_s hm
      have q9 := (km_Cs_settle hC6 e8)
      have hC10 : Cl π r7 := q9
      cases hm
      exact hC10
    · have hm := ite_f c3 hm
      cases hm
      exact hC
set_option maxHeartbeats 8000000 in
set_option maxRecDepth 100000 in
theorem km_Cs_mute {N : Nat}   {π : Sh} {σ : St} {x1 : Int} {x2 : Int} {r : St × Int} (hC : Cl π σ)  (hm : Cs_mute N π σ x1 x2 = some r) : Cl π r.1 := by
  have hS := hC.1
  rw [Cs_mute] at hm
  obtain ⟨r1, e2, hm⟩ := obd_s hm
  obtain ⟨g3, hm⟩ := grd_s hm
  by_cases c4 : r1 = 0
  · have hm := ite_t c4 hm
    cases hm
    exact hC
  · have hm := ite_f c4 hm
    obtain ⟨g5, hm⟩ := grd_s hm
    obtain ⟨v6, e7, hm⟩ := bnd_s hm
    obtain ⟨g8, hm⟩ := grd_s hm
    obtain ⟨g9, hm⟩ := grd_s hm
    cases hm
    exact (cl_seI hC (sh_54 hS) (by decide) _ _)
