set_option maxHeartbeats 8000000 in
set_option maxRecDepth 100000 in
theorem km_Df_init_35 {N : Nat}    {r : Sh × St}  {π : Sh} {σ : St} {x0 : Int} {x1 : Int} {s0 : Int} {s1 : Int} (hC : Cl π σ) (hv_x0 : x0 < nn π) (hv_s0 : s0 < nn π) (hv_s1 : s1 < nn π) (hm : Df_init_35 N π σ x0 x1 s0 s1 = some r) : ext π r.1 ∧ Cl r.1 r.2 := by
  have hS := hC.1
  rw [Df_init_35] at hm
  obtain ⟨g14, hm⟩ := grd_s hm
  obtain ⟨g15, hm⟩ := grd_s hm
  cases hm
  exact ⟨ext.rf _, (cl_sfI (cl_sfR (cl_sfI (cl_sfR hC _ _ hv_s0) (f := 25) rfl _ _) _ _ (lt_m1 π)) (f := 20) rfl _ _)⟩
set_option maxHeartbeats 8000000 in
set_option maxRecDepth 100000 in
theorem km_Df_init_24 {N : Nat}    {r : Sh × St}  {π : Sh} {σ : St} {x0 : Int} {x1 : Int} {s0 : Int} {s1 : Int} (hC : Cl π σ) (hv_x0 : x0 < nn π) (hv_s0 : s0 < nn π) (hv_s1 : s1 < nn π) (hm : Df_init_24 N π σ x0 x1 s0 s1 = some r) : ext π r.1 ∧ Cl r.1 r.2 := by
  have hS := hC.1
  rw [Df_init_24] at hm
  obtain ⟨g9, hm⟩ := grd_s hm
  obtain ⟨σ10, e11, hm⟩ := bnd_s hm
  have hC12 : Cl π σ10 := e11 ▸ (cl_sfR hC _ _ hv_s0)
  have q := km_Df_init_35   ((cl_nO hC12 (by decide) (by decide) _)) (lt_ext hv_x0 (ext_nO π 0 3)) lt_nO (lt_ext hv_x0 (ext_nO π 0 3)) hm
  exact ⟨(ext_nO π 0 3).tr q.1, q.2⟩
set_option maxHeartbeats 8000000 in
set_option maxRecDepth 100000 in
theorem km_Df_init_8 {N : Nat}    {r : Sh × St}  {π : Sh} {σ : St} {x0 : Int} {x1 : Int} {s0 : Int} {s1 : Int} (hC : Cl π σ) (hv_x0 : x0 < nn π) (hv_s0 : s0 < nn π) (hv_s1 : s1 < nn π) (hm : Df_init_8 N π σ x0 x1 s0 s1 = some r) : ext π r.1 ∧ Cl r.1 r.2 := by
  have hS := hC.1
  rw [Df_init_8] at hm
  obtain ⟨g3, hm⟩ := grd_s hm
  obtain ⟨g4, hm⟩ := grd_s hm
  obtain ⟨σ5, e6, hm⟩ := bnd_s hm
  have hC7 : Cl π σ5 := e6 ▸ (cl_sfI (cl_sfR hC _ _ hv_s0) (f := 22) rfl _ _)
  have q := km_Df_init_24   ((cl_nO hC7 (by decide) (by decide) _)) (lt_ext hv_x0 (ext_nO π 0 3)) lt_nO (lt_ext hv_x0 (ext_nO π 0 3)) hm
  exact ⟨(ext_nO π 0 3).tr q.1, q.2⟩
set_option maxHeartbeats 8000000 in
set_option maxRecDepth 100000 in
theorem km_Df_init {N : Nat}   {π : Sh} {σ : St} {x0 : Int} {x1 : Int} {r : Sh × St} (hC : Cl π σ) (hv_x0 : x0 < nn π) (hm : Df_init N π σ x0 x1 = some r) : ext π r.1 ∧ Cl r.1 r.2 := by
  have hS := hC.1
  rw [Df_init] at hm
  obtain ⟨g1, hm⟩ := grd_s hm
  have q := km_Df_init_8   ((cl_nA hC (t := 3) (by decide) _)) (lt_ext hv_x0 (ext_nA π 3 4)) lt_nA (lt_ext hv_x0 (ext_nA π 3 4)) hm
  exact ⟨(ext_nA π 3 4).tr q.1, q.2⟩
set_option maxHeartbeats 8000000 in
set_option maxRecDepth 100000 in
theorem km_Df_add_8 {N : Nat}    {r : Sh × St × Int}  {π : Sh} {σ : St} {x0 : Int} {s0 : Int} (hC : Cl π σ) (hv_x0 : x0 < nn π) (hm : Df_add_8 N π σ x0 s0 = some r) : ext π r.1 ∧ Cl r.1 r.2.1 := by
  have hS := hC.1
  rw [Df_add_8] at hm
  obtain ⟨g6, hm⟩ := grd_s hm
  obtain ⟨r7, e8, hm⟩ := obd_s hm
  have q9 := (km_L_size hC (cl_fl hC (f := 23) rfl x0) e8)
  obtain ⟨g10, hm⟩ := grd_s hm
  have hC11 : Cl π r7.1 := q9
  cases hm
  exact ⟨ext.rf _, hC11⟩
set_option maxHeartbeats 8000000 in
set_option maxRecDepth 100000 in
theorem km_Df_add {N : Nat}   {π : Sh} {σ : St} {x0 : Int} {x1 : Int} {r : Sh × St × Int} (hC : Cl π σ) (hv_x0 : x0 < nn π) (hv_x1 : x1 < nn π) (hm : Df_add N π σ x0 x1 = some r) : ext π r.1 ∧ Cl r.1 r.2.1 := by
  have hS := hC.1
  rw [Df_add] at hm
  obtain ⟨g1, hm⟩ := grd_s hm
  obtain ⟨r2, e3, hm⟩ := obd_s hm
  have q4 := (km_L_add hC (cl_fl hC (f := 23) rfl x0) hv_x1 e3)
  obtain ⟨g5, hm⟩ := grd_s hm
  have q := km_Df_add_8   q4.2 (lt_ext hv_x0 q4.1) hm
  exact ⟨q4.1.tr q.1, q.2⟩
set_option maxHeartbeats 8000000 in
set_option maxRecDepth 100000 in
theorem km_Df_addKnown_8 {N : Nat}    {r : Sh × St × Int}  {π : Sh} {σ : St} {x0 : Int} {s0 : Int} (hC : Cl π σ) (hv_x0 : x0 < nn π) (hm : Df_addKnown_8 N π σ x0 s0 = some r) : ext π r.1 ∧ Cl r.1 r.2.1 := by
  have hS := hC.1
  rw [Df_addKnown_8] at hm
  obtain ⟨g6, hm⟩ := grd_s hm
  obtain ⟨r7, e8, hm⟩ := obd_s hm
  have q9 := (km_L_size hC (cl_fl hC (f := 24) rfl x0) e8)
  obtain ⟨g10, hm⟩ := grd_s hm
  have hC11 : Cl π r7.1 := q9
  cases hm
  exact ⟨ext.rf _, hC11⟩
set_option maxHeartbeats 8000000 in
set_option maxRecDepth 100000 in
theorem km_Df_addKnown {N : Nat}   {π : Sh} {σ : St} {x0 : Int} {x1 : Int} {r : Sh × St × Int} (hC : Cl π σ) (hv_x0 : x0 < nn π) (hv_x1 : x1 < nn π) (hm : Df_addKnown N π σ x0 x1 = some r) : ext π r.1 ∧ Cl r.1 r.2.1 := by
  have hS := hC.1
  rw [Df_addKnown] at hm
  obtain ⟨g1, hm⟩ := grd_s hm
  obtain ⟨r2, e3, hm⟩ := obd_s hm
  have q4 := (km_L_add hC (cl_fl hC (f := 24) rfl x0) hv_x1 e3)
  obtain ⟨g5, hm⟩ := grd_s hm
  have q := km_Df_addKnown_8   q4.2 (lt_ext hv_x0 q4.1) hm
  exact ⟨q4.1.tr q.1, q.2⟩
set_option maxHeartbeats 8000000 in
set_option maxRecDepth 100000 in
theorem km_Df_parameterIndex_2 {N : Nat}   {π : Sh} {r : St × Int}  (n : Nat) : ∀ {σ : St} {x0 : Int} {x1 : Int} {x3 : Int}, Cl π σ → x0 < nn π → Df_parameterIndex_2 N π n σ x0 x1 x3 = some r → Cl π r.1 := by
  induction n with
  | zero => intro σ x0 x1 x3 hC hv_x0 hm; cases (show none = some r from hm)
  | succ n krec2 =>
    intro σ x0 x1 x3 hC hv_x0 hm
    have hS := hC.1
    rw [Df_parameterIndex_2] at hm
    obtain ⟨g1, hm⟩ := grd_s hm
    obtain ⟨g2, hm⟩ := grd_s hm
    obtain ⟨g3, hm⟩ := grd_s hm
    by_cases c4 : x3 < (fl σ 22 x0)
    · have hm := ite_t c4 hm
      obtain ⟨g5, hm⟩ := grd_s hm
      obtain ⟨g6, hm⟩ := grd_s hm
      obtain ⟨g7, hm⟩ := grd_s hm
      obtain ⟨g8, hm⟩ := grd_s hm
      by_cases c9 : (el σ (fl σ 21 x0) x3) = x1
      · have hm := ite_t c9 hm
        cases hm
        exact hC
      · have hm := ite_f c9 hm
        exact krec2 hC hv_x0 hm
    · have hm := ite_f c4 hm
      cases hm
      exact hC
set_option maxHeartbeats 8000000 in
set_option maxRecDepth 100000 in
theorem km_Df_parameterIndex {N : Nat}   {π : Sh} {σ : St} {x0 : Int} {x1 : Int} {r : St × Int} (hC : Cl π σ) (hv_x0 : x0 < nn π) (hm : Df_parameterIndex N π σ x0 x1 = some r) : Cl π r.1 := by
  have hS := hC.1
  rw [Df_parameterIndex] at hm
  exact km_Df_parameterIndex_2 N hC hv_x0 hm
set_option maxHeartbeats 8000000 in
set_option maxRecDepth 100000 in
theorem km_Df_hasName_17 {N : Nat}   {π : Sh} {r : St × Int}  {σ : St}  (hC : Cl π σ)  (hm : Df_hasName_17 N π σ  = some r) : Cl π r.1 := by
  have hS := hC.1
  rw [Df_hasName_17] at hm
  cases hm
  exact hC
set_option maxHeartbeats 8000000 in
set_option maxRecDepth 100000 in
theorem km_Df_hasName {N : Nat}   {π : Sh} {σ : St} {x0 : Int} {x1 : Int} {r : St × Int} (hC : Cl π σ) (hv_x0 : x0 < nn π) (hm : Df_hasName N π σ x0 x1 = some r) : Cl π r.1 := by
  have hS := hC.1
  rw [Df_hasName] at hm
  obtain ⟨g1, hm⟩ := grd_s hm
  obtain ⟨g2, hm⟩ := grd_s hm
  obtain ⟨g3, hm⟩ := grd_s hm
  by_cases c4 : (fl σ 20 x0) = x1
  · have hm := ite_t c4 hm
    exact km_Df_hasName_17 hC hm
  · have hm := ite_f c4 hm
    obtain ⟨r5, e6, hm⟩ := obd_s hm
    have q7 := (km_Df_parameterIndex hC hv_x0 e6)
    have hC8 : Cl π r5.1 := q7
    obtain ⟨g9, hm⟩ := grd_s hm
    by_cases c10 : r5.2 < 0
    · have hm := ite_t c10 hm
      cases hm
      exact hC8
    · have hm := ite_f c10 hm
      exact km_Df_hasName_17 hC8 hm
set_option maxHeartbeats 8000000 in
set_option maxRecDepth 100000 in
theorem km_Es_push {N : Nat}   {π : Sh} {σ : St} {x1 : Int} {x3 : Int} {x5 : Int} {x7 : Int} {x8 : Int} {r : St} (hC : Cl π σ)  (hm : Es_push N π σ x1 x3 x5 x7 x8 = some r) : Cl π r := by
  have hS := hC.1
  rw [Es_push] at hm
  obtain ⟨g1, hm⟩ := grd_s hm
  by_cases c2 : (fl σ 46 10) < 6000
  · have hm := ite_t c2 hm
    obtain ⟨g3, hm⟩ := grd_s hm
    obtain ⟨g4, hm⟩ := grd_s hm
    cases hm
    exact (cl_sfI (cl_seI (cl_seI (cl_seI (cl_seI (cl_seI hC (sh_11 hS) (by decide) _ _) (sh_12 hS) (by decide) _ _) (sh_13 hS) (by decide) _ _) (sh_14 hS) (by decide) _ _) (sh_15 hS) (by decide) _ _) (f := 46) rfl _ _)
  · have hm := ite_f c2 hm
    cases hm
    exact hC
set_option maxHeartbeats 8000000 in
set_option maxRecDepth 100000 in
theorem km_Es_pushAgain_3 {N : Nat}   {π : Sh} {r : St}  (n : Nat) : ∀ {σ : St} {x2 : Int} {x3 : Int} {x5 : Int} {x7 : Int}, Cl π σ → Es_pushAgain_3 N π n σ x2 x3 x5 x7 = some r → Cl π r := by
  induction n with
  | zero => intro σ x2 x3 x5 x7 hC  hm; cases (show none = some r from hm)
  | succ n krec3 =>
    intro σ x2 x3 x5 x7 hC  hm
    have hS := hC.1
    rw [Es_pushAgain_3] at hm
    obtain ⟨g1, hm⟩ := grd_s hm
    obtain ⟨g2, hm⟩ := grd_s hm
    by_cases c3 : x7 < x2
    · have hm := ite_t c3 hm
      obtain ⟨g4, hm⟩ := grd_s hm
      obtain ⟨r5, e6, hm⟩ := obd_s hm
      have q7 := (km_Es_push hC e6)
      have hC8 : Cl π r5 := q7
      exact krec3 hC8  hm
    · have hm := ite_f c3 hm
      cases hm
      exact hC
set_option maxHeartbeats 8000000 in
set_option maxRecDepth 100000 in
theorem km_Es_pushAgain {N : Nat}   {π : Sh} {σ : St} {x1 : Int} {x2 : Int} {x3 : Int} {x5 : Int} {r : St} (hC : Cl π σ)  (hm : Es_pushAgain N π σ x1 x2 x3 x5 = some r) : Cl π r := by
  have hS := hC.1
  rw [Es_pushAgain] at hm
  exact km_Es_pushAgain_3 N hC hm
set_option maxHeartbeats 8000000 in
set_option maxRecDepth 100000 in
theorem km_Es_scale_17 {N : Nat}   {π : Sh} {r : St}  (n : Nat) : ∀ {σ : St} {x2 : Int} {x4 : Int} {x6 : Int}, Cl π σ → Es_scale_17 N π n σ x2 x4 x6 = some r → Cl π r := by
  induction n with
  | zero => intro σ x2 x4 x6 hC  hm; cases (show none = some r from hm)
  | succ n krec17 =>
    intro σ x2 x4 x6 hC  hm
    have hS := hC.1
    rw [Es_scale_17] at hm
    obtain ⟨g5, hm⟩ := grd_s hm
    obtain ⟨g6, hm⟩ := grd_s hm
    by_cases c7 : x6 < (fl σ 46 10)
    · have hm := ite_t c7 hm
      obtain ⟨g8, hm⟩ := grd_s hm
      exact krec17 (cl_seI (cl_seI hC (sh_11 hS) (by decide) _ _) (sh_12 hS) (by decide) _ _)  hm
    · have hm := ite_f c7 hm
      cases hm
      exact hC
set_option maxHeartbeats 8000000 in
set_option maxRecDepth 100000 in
theorem km_Es_scale_14 {N : Nat}   {π : Sh} {r : St}  {σ : St} {x1 : Int} {x2 : Int} {x4 : Int} (hC : Cl π σ)  (hm : Es_scale_14 N π σ x1 x2 x4 = some r) : Cl π r := by
  have hS := hC.1
  rw [Es_scale_14] at hm
  exact km_Es_scale_17 N hC hm
set_option maxHeartbeats 8000000 in
set_option maxRecDepth 100000 in
theorem km_Es_scale {N : Nat}   {π : Sh} {σ : St} {x1 : Int} {x2 : Int} {x4 : Int} {r : St} (hC : Cl π σ)  (hm : Es_scale N π σ x1 x2 x4 = some r) : Cl π r := by
  have hS := hC.1
  rw [Es_scale] at hm
  obtain ⟨g1, hm⟩ := grd_s hm
  by_cases c2 : x2 = 1
  · have hm := ite_t c2 hm
    obtain ⟨g3, hm⟩ := grd_s hm
    by_cases c4 : x4 = 0
    · have hm := ite_t c4 hm
      cases hm
      exact hC
    · have hm := ite_f c4 hm
      exact km_Es_scale_14 hC hm
  · have hm := ite_f c2 hm
    exact km_Es_scale_14 hC hm
set_option maxHeartbeats 8000000 in
set_option maxRecDepth 100000 in
theorem km_Es_move {N : Nat}   {π : Sh} {σ : St} {x1 : Int} {x2 : Int} {r : St} (hC : Cl π σ)  (hm : Es_move N π σ x1 x2 = some r) : Cl π r := by
  have hS := hC.1
  rw [Es_move] at hm
  obtain ⟨g1, hm⟩ := grd_s hm
  obtain ⟨g2, hm⟩ := grd_s hm
  by_cases c3 : x1 = x2
  · have hm := ite_t c3 hm
    cases hm
    exact hC
  · have hm := ite_f c3 hm
    obtain ⟨g4, hm⟩ := grd_s hm
    obtain ⟨g5, hm⟩ := grd_s hm
    obtain ⟨g6, hm⟩ := grd_s hm
    cases hm
    exact (cl_seI (cl_seI (cl_seI (cl_seI (cl_seI (cl_seI hC (sh_11 hS) (by decide) _ _) (sh_12 hS) (by decide) _ _) (sh_13 hS) (by decide) _ _) (sh_14 hS) (by decide) _ _) (sh_15 hS) (by decide) _ _) (sh_16 hS) (by decide) _ _)
set_option maxHeartbeats 8000000 in
set_option maxRecDepth 100000 in
theorem km_Es_choose_61 {N : Nat}   {π : Sh} {r : St} {rec6 : St → Int → Int → Int → Int → Int → Option St} (krec6 : ∀ {σ : St} {x2 : Int} {x4 : Int} {x6 : Int} {x7 : Int} {x8 : Int}, Cl π σ → rec6 σ x2 x4 x6 x7 x8 = some r → Cl π r) {σ : St} {x2 : Int} {x4 : Int} {x6 : Int} {x7 : Int} {x8 : Int} (hC : Cl π σ)  (hm : Es_choose_61 N π rec6 σ x2 x4 x6 x7 x8 = some r) : Cl π r := by
  have hS := hC.1
  rw [Es_choose_61] at hm
  exact krec6 hC  hm
set_option maxHeartbeats 8000000 in
set_option maxRecDepth 100000 in
theorem km_Es_choose_45 {N : Nat}   {π : Sh} {r : St} {rec6 : St → Int → Int → Int → Int → Int → Option St} (krec6 : ∀ {σ : St} {x2 : Int} {x4 : Int} {x6 : Int} {x7 : Int} {x8 : Int}, Cl π σ → rec6 σ x2 x4 x6 x7 x8 = some r → Cl π r) {σ : St} {x2 : Int} {x4 : Int} {x6 : Int} {x7 : Int} {x8 : Int} {s0 : Int} (hC : Cl π σ)  (hm : Es_choose_45 N π rec6 σ x2 x4 x6 x7 x8 s0 = some r) : Cl π r := by
  have hS := hC.1
  rw [Es_choose_45] at hm
  obtain ⟨g10, hm⟩ := grd_s hm
  obtain ⟨g11, hm⟩ := grd_s hm
  by_cases c12 : s0 = x6
  · have hm := ite_t c12 hm
    obtain ⟨r13, e14, hm⟩ := obd_s hm
    have q15 := (km_Es_move hC e14)
    have hC16 : Cl π r13 := q15
    exact km_Es_choose_61 krec6 hC16 hm
  · have hm := ite_f c12 hm
    exact km_Es_choose_61 krec6 hC hm
set_option maxHeartbeats 8000000 in
set_option maxRecDepth 100000 in
theorem km_Es_choose_44 {N : Nat}   {π : Sh} {r : St} {rec6 : St → Int → Int → Int → Int → Int → Option St} (krec6 : ∀ {σ : St} {x2 : Int} {x4 : Int} {x6 : Int} {x7 : Int} {x8 : Int}, Cl π σ → rec6 σ x2 x4 x6 x7 x8 = some r → Cl π r) {σ : St} {x2 : Int} {x4 : Int} {x6 : Int} {x7 : Int} {x8 : Int} (hC : Cl π σ)  (hm : Es_choose_44 N π rec6 σ x2 x4 x6 x7 x8 = some r) : Cl π r := by
  have hS := hC.1
  rw [Es_choose_44] at hm
  exact km_Es_choose_45 krec6 hC hm
set_option maxHeartbeats 8000000 in
set_option maxRecDepth 100000 in
theorem km_Es_choose_6 {N : Nat}   {π : Sh} {r : St}  (n : Nat) : ∀ {σ : St} {x2 : Int} {x4 : Int} {x6 : Int} {x7 : Int} {x8 : Int}, Cl π σ → Es_choose_6 N π n σ x2 x4 x6 x7 x8 = some r → Cl π r := by
  induction n with
  | zero => intro σ x2 x4 x6 x7 x8 hC  hm; cases (show none = some r from hm)
  | succ n krec6 =>
    intro σ x2 x4 x6 x7 x8 hC  hm
    have hS := hC.1
    rw [Es_choose_6] at hm
    obtain ⟨g1, hm⟩ := grd_s hm
    obtain ⟨g2, hm⟩ := grd_s hm
    by_cases c3 : x8 < (fl σ 46 10)
    · have hm := ite_t c3 hm
      obtain ⟨g4, hm⟩ := grd_s hm
      obtain ⟨g5, hm⟩ := grd_s hm
      obtain ⟨g6, hm⟩ := grd_s hm
      by_cases c7 : (el σ 11 x8) < x2
      · have hm := ite_t c7 hm
        exact km_Es_choose_44 krec6 hC hm
      · have hm := ite_f c7 hm
        obtain ⟨g8, hm⟩ := grd_s hm
        by_cases c9 : (el σ 11 x8) < x4
        · have hm := ite_t c9 hm
          exact km_Es_choose_45 krec6 hC hm
        · have hm := ite_f c9 hm
          exact km_Es_choose_44 krec6 hC hm
    · have hm := ite_f c3 hm
      cases hm
      exact (cl_sfI hC (f := 46) rfl _ _)
set_option maxHeartbeats 8000000 in
set_option maxRecDepth 100000 in
theorem km_Es_choose {N : Nat}   {π : Sh} {σ : St} {x1 : Int} {x2 : Int} {x4 : Int} {x6 : Int} {r : St} (hC : Cl π σ)  (hm : Es_choose N π σ x1 x2 x4 x6 = some r) : Cl π r := by
  have hS := hC.1
  rw [Es_choose] at hm
  exact km_Es_choose_6 N hC hm
set_option maxHeartbeats 8000000 in
set_option maxRecDepth 100000 in
theorem km_Es_chooseMarked_35 {N : Nat}   {π : Sh} {r : St} {rec5 : St → Int → Int → Int → Option St} (krec5 : ∀ {σ : St} {x2 : Int} {x3 : Int} {x4 : Int}, Cl π σ → rec5 σ x2 x3 x4 = some r → Cl π r) {σ : St} {x2 : Int} {x3 : Int} {x4 : Int} (hC : Cl π σ)  (hm : Es_chooseMarked_35 N π rec5 σ x2 x3 x4 = some r) : Cl π r := by
  have hS := hC.1
  rw [Es_chooseMarked_35] at hm
  exact krec5 hC  hm
set_option maxHeartbeats 8000000 in
set_option maxRecDepth 100000 in
theorem km_Es_chooseMarked_5 {N : Nat}   {π : Sh} {r : St}  (n : Nat) : ∀ {σ : St} {x2 : Int} {x3 : Int} {x4 : Int}, Cl π σ → Es_chooseMarked_5 N π n σ x2 x3 x4 = some r → Cl π r := by
  induction n with
  | zero => intro σ x2 x3 x4 hC  hm; cases (show none = some r from hm)
  | succ n krec5 =>
    intro σ x2 x3 x4 hC  hm
    have hS := hC.1
    rw [Es_chooseMarked_5] at hm
    obtain ⟨g1, hm⟩ := grd_s hm
    obtain ⟨g2, hm⟩ := grd_s hm
    by_cases c3 : x4 < (fl σ 46 10)
    · have hm := ite_t c3 hm
      obtain ⟨g4, hm⟩ := grd_s hm
      obtain ⟨g5, hm⟩ := grd_s hm
      obtain ⟨g6, hm⟩ := grd_s hm
      by_cases c7 : (el σ 16 x4) = x2
      · have hm := ite_t c7 hm
        obtain ⟨r8, e9, hm⟩ := obd_s hm
        have q10 := (km_Es_move hC e9)
        have hC11 : Cl π r8 := q10
        exact km_Es_chooseMarked_35 krec5 hC11 hm
      · have hm := ite_f c7 hm
        exact km_Es_chooseMarked_35 krec5 hC hm
    · have hm := ite_f c3 hm
      cases hm
      exact (cl_sfI hC (f := 46) rfl _ _)
set_option maxHeartbeats 8000000 in
set_option maxRecDepth 100000 in
theorem km_Es_chooseMarked {N : Nat}   {π : Sh} {σ : St} {x1 : Int} {x2 : Int} {r : St} (hC : Cl π σ)  (hm : Es_chooseMarked N π σ x1 x2 = some r) : Cl π r := by
  have hS := hC.1
  rw [Es_chooseMarked] at hm
  exact km_Es_chooseMarked_5 N hC hm
set_option maxHeartbeats 8000000 in
set_option maxRecDepth 100000 in
theorem km_Es_remove_5 {N : Nat}   {π : Sh} {r : St}  (n : Nat) : ∀ {σ : St} {x3 : Int} {x4 : Int}, Cl π σ → Es_remove_5 N π n σ x3 x4 = some r → Cl π r := by
  induction n with
  | zero => intro σ x3 x4 hC  hm; cases (show none = some r from hm)
  | succ n krec5 =>
    intro σ x3 x4 hC  hm
    have hS := hC.1
    rw [Es_remove_5] at hm
    obtain ⟨g1, hm⟩ := grd_s hm
    obtain ⟨g2, hm⟩ := grd_s hm
    by_cases c3 : x4 < (fl σ 46 10)
    · have hm := ite_t c3 hm
      obtain ⟨r4, e5, hm⟩ := obd_s hm
      have q6 := (km_Es_move hC e5)
      have hC7 : Cl π r4 := q6
      exact krec5 hC7  hm
    · have hm := ite_f c3 hm
      cases hm
      exact (cl_sfI hC (f := 46) rfl _ _)
set_option maxHeartbeats 8000000 in
set_option maxRecDepth 100000 in
theorem km_Es_remove {N : Nat}   {π : Sh} {σ : St} {x1 : Int} {x2 : Int} {r : St} (hC : Cl π σ)  (hm : Es_remove N π σ x1 x2 = some r) : Cl π r := by
  have hS := hC.1
  rw [Es_remove] at hm
  exact km_Es_remove_5 N hC hm
set_option maxHeartbeats 8000000 in
set_option maxRecDepth 100000 in
theorem km_Es_isLoud_29 {N : Nat}   {π : Sh} {r : St × Int}  {σ : St}  (hC : Cl π σ)  (hm : Es_isLoud_29 N π σ  = some r) : Cl π r.1 := by
  have hS := hC.1
  rw [Es_isLoud_29] at hm
  cases hm
  exact hC
set_option maxHeartbeats 8000000 in
set_option maxRecDepth 100000 in
theorem km_Es_isLoud {N : Nat}   {π : Sh} {σ : St} {x1 : Int} {r : St × Int} (hC : Cl π σ)  (hm : Es_isLoud N π σ x1 = some r) : Cl π r.1 := by
  have hS := hC.1
  rw [Es_isLoud] at hm
  obtain ⟨g1, hm⟩ := grd_s hm
  obtain ⟨g2, hm⟩ := grd_s hm
  by_cases c3 : (el σ 13 x1) = 0
  · have hm := ite_t c3 hm
    obtain ⟨g4, hm⟩ := grd_s hm
    by_cases c5 : (el σ 15 x1) = 0
    · have hm := ite_t c5 hm
      cases hm
      exact hC
    · have hm := ite_f c5 hm
      obtain ⟨g6, hm⟩ := grd_s hm
      by_cases c7 : (el σ 14 x1) = 0
      · have hm := ite_t c7 hm
        cases hm
        exact hC
      · have hm := ite_f c7 hm
        exact km_Es_isLoud_29 hC hm
  · have hm := ite_f c3 hm
    exact km_Es_isLoud_29 hC hm
set_option maxHeartbeats 8000000 in
set_option maxRecDepth 100000 in
theorem km_Es_copyToSpare_2 {N : Nat}   {π : Sh} {r : St}  (n : Nat) : ∀ {σ : St} {x1 : Int} {x2 : Int} {x3 : Int}, Cl π σ → Es_copyToSpare_2 N π n σ x1 x2 x3 = some r → Cl π r := by
  induction n with
  | zero => intro σ x1 x2 x3 hC  hm; cases (show none = some r from hm)
  | succ n krec2 =>
    intro σ x1 x2 x3 hC  hm
    have hS := hC.1
    rw [Es_copyToSpare_2] at hm
    obtain ⟨g1, hm⟩ := grd_s hm
    obtain ⟨g2, hm⟩ := grd_s hm
    by_cases c3 : x3 < x2
    · have hm := ite_t c3 hm
      obtain ⟨g4, hm⟩ := grd_s hm
      obtain ⟨g5, hm⟩ := grd_s hm
      obtain ⟨g6, hm⟩ := grd_s hm
      exact krec2 (cl_seI (cl_seI (cl_seI (cl_seI (cl_seI hC (sh_20 hS) (by decide) _ _) (sh_21 hS) (by decide) _ _) (sh_19 hS) (by decide) _ _) (sh_17 hS) (by decide) _ _) (sh_18 hS) (by decide) _ _)  hm
    · have hm := ite_f c3 hm
      cases hm
      exact hC
set_option maxHeartbeats 8000000 in
set_option maxRecDepth 100000 in
theorem km_Es_copyToSpare {N : Nat}   {π : Sh} {σ : St} {x1 : Int} {x2 : Int} {r : St} (hC : Cl π σ)  (hm : Es_copyToSpare N π σ x1 x2 = some r) : Cl π r := by
  have hS := hC.1
  rw [Es_copyToSpare] at hm
  exact km_Es_copyToSpare_2 N hC hm
set_option maxHeartbeats 8000000 in
set_option maxRecDepth 100000 in
theorem km_Es_isSorted_4 {N : Nat}   {π : Sh} {r : St × Int}  (n : Nat) : ∀ {σ : St} {x2 : Int}, Cl π σ → Es_isSorted_4 N π n σ x2 = some r → Cl π r.1 := by
  induction n with
  | zero => intro σ x2 hC  hm; cases (show none = some r from hm)
  | succ n krec4 =>
    intro σ x2 hC  hm
    have hS := hC.1
    rw [Es_isSorted_4] at hm
    obtain ⟨g3, hm⟩ := grd_s hm
    obtain ⟨g4, hm⟩ := grd_s hm
    by_cases c5 : x2 < (fl σ 46 10)
    · have hm := ite_t c5 hm
      obtain ⟨g6, hm⟩ := grd_s hm
      obtain ⟨g7, hm⟩ := grd_s hm
      obtain ⟨g8, hm⟩ := grd_s hm
      obtain ⟨g9, hm⟩ := grd_s hm
      by_cases c10 : (el σ 11 x2) < (el σ 11 (x2 - 1))
      · have hm := ite_t c10 hm
        cases hm
        exact hC
      · have hm := ite_f c10 hm
        exact krec4 hC  hm
    · have hm := ite_f c5 hm
      cases hm
      exact hC
set_option maxHeartbeats 8000000 in
set_option maxRecDepth 100000 in
theorem km_Es_isSorted {N : Nat}   {π : Sh} {σ : St} {x1 : Int} {r : St × Int} (hC : Cl π σ)  (hm : Es_isSorted N π σ x1 = some r) : Cl π r.1 := by
  have hS := hC.1
  rw [Es_isSorted] at hm
  obtain ⟨v1, e2, hm⟩ := bnd_s hm
  exact km_Es_isSorted_4 N hC hm
set_option maxHeartbeats 8000000 in
set_option maxRecDepth 100000 in
theorem km_Es_mergeRuns_82 {N : Nat}   {π : Sh} {r : St} {rec9 : St → Int → Int → Int → Int → Int → Option St} (krec9 : ∀ {σ : St} {x2 : Int} {x3 : Int} {x4 : Int} {x5 : Int} {x6 : Int}, Cl π σ → rec9 σ x2 x3 x4 x5 x6 = some r → Cl π r) {σ : St} {x2 : Int} {x3 : Int} {x4 : Int} {x5 : Int} {x6 : Int} (hC : Cl π σ)  (hm : Es_mergeRuns_82 N π rec9 σ x2 x3 x4 x5 x6 = some r) : Cl π r := by
  have hS := hC.1
  rw [Es_mergeRuns_82] at hm
  exact krec9 hC  hm
set_option maxHeartbeats 8000000 in
set_option maxRecDepth 100000 in
theorem km_Es_mergeRuns_45 {N : Nat}   {π : Sh} {r : St} {rec9 : St → Int → Int → Int → Int → Int → Option St} (krec9 : ∀ {σ : St} {x2 : Int} {x3 : Int} {x4 : Int} {x5 : Int} {x6 : Int}, Cl π σ → rec9 σ x2 x3 x4 x5 x6 = some r → Cl π r) {σ : St} {x2 : Int} {x3 : Int} {x4 : Int} {x5 : Int} {x6 : Int} (hC : Cl π σ)  (hm : Es_mergeRuns_45 N π rec9 σ x2 x3 x4 x5 x6 = some r) : Cl π r := by
  have hS := hC.1
  rw [Es_mergeRuns_45] at hm
  obtain ⟨g15, hm⟩ := grd_s hm
  obtain ⟨g16, hm⟩ := grd_s hm
  obtain ⟨g17, hm⟩ := grd_s hm
  obtain ⟨g18, hm⟩ := grd_s hm
  exact km_Es_mergeRuns_82 krec9 (cl_seI hC g17 (by decide) _ _) hm
set_option maxHeartbeats 8000000 in
set_option maxRecDepth 100000 in
theorem km_Es_mergeRuns_65 {N : Nat}   {π : Sh} {r : St} {rec9 : St → Int → Int → Int → Int → Int → Option St} (krec9 : ∀ {σ : St} {x2 : Int} {x3 : Int} {x4 : Int} {x5 : Int} {x6 : Int}, Cl π σ → rec9 σ x2 x3 x4 x5 x6 = some r → Cl π r) {σ : St} {x2 : Int} {x3 : Int} {x4 : Int} {x5 : Int} {x6 : Int} (hC : Cl π σ)  (hm : Es_mergeRuns_65 N π rec9 σ x2 x3 x4 x5 x6 = some r) : Cl π r := by
  have hS := hC.1
  rw [Es_mergeRuns_65] at hm
  obtain ⟨g19, hm⟩ := grd_s hm
  obtain ⟨g20, hm⟩ := grd_s hm
  obtain ⟨g21, hm⟩ := grd_s hm
  obtain ⟨g22, hm⟩ := grd_s hm
  exact km_Es_mergeRuns_82 krec9 (cl_seI hC g21 (by decide) _ _) hm
set_option maxHeartbeats 8000000 in
set_option maxRecDepth 100000 in
theorem km_Es_mergeRuns_9 {N : Nat}   {π : Sh} {r : St}  (n : Nat) : ∀ {σ : St} {x2 : Int} {x3 : Int} {x4 : Int} {x5 : Int} {x6 : Int}, Cl π σ → Es_mergeRuns_9 N π n σ x2 x3 x4 x5 x6 = some r → Cl π r := by
  induction n with
  | zero => intro σ x2 x3 x4 x5 x6 hC  hm; cases (show none = some r from hm)
  | succ n krec9 =>
    intro σ x2 x3 x4 x5 x6 hC  hm
    have hS := hC.1
    rw [Es_mergeRuns_9] at hm
    obtain ⟨g1, hm⟩ := grd_s hm
    obtain ⟨g2, hm⟩ := grd_s hm
    by_cases c3 : x6 < x3
    · have hm := ite_t c3 hm
      obtain ⟨g4, hm⟩ := grd_s hm
      by_cases c5 : x5 < x3
      · have hm := ite_t c5 hm
        obtain ⟨g6, hm⟩ := grd_s hm
        obtain ⟨g7, hm⟩ := grd_s hm
        by_cases c8 : x4 < x2
        · have hm := ite_t c8 hm
          obtain ⟨g9, hm⟩ := grd_s hm
          obtain ⟨g10, hm⟩ := grd_s hm
          obtain ⟨g11, hm⟩ := grd_s hm
          obtain ⟨g12, hm⟩ := grd_s hm
          obtain ⟨g13, hm⟩ := grd_s hm
          by_cases c14 : (el σ (fl σ 52 10) x4) < (el σ (fl σ 52 10) x5)
          · have hm := ite_t c14 hm
            exact km_Es_mergeRuns_45 krec9 hC hm
          · have hm := ite_f c14 hm
            exact km_Es_mergeRuns_65 krec9 hC hm
        · have hm := ite_f c8 hm
          exact km_Es_mergeRuns_65 krec9 hC hm
      · have hm := ite_f c5 hm
        exact km_Es_mergeRuns_45 krec9 hC hm
    · have hm := ite_f c3 hm
      cases hm
      exact hC
set_option maxHeartbeats 8000000 in
set_option maxRecDepth 100000 in
theorem km_Es_mergeRuns {N : Nat}   {π : Sh} {σ : St} {x1 : Int} {x2 : Int} {x3 : Int} {r : St} (hC : Cl π σ)  (hm : Es_mergeRuns N π σ x1 x2 x3 = some r) : Cl π r := by
  have hS := hC.1
  rw [Es_mergeRuns] at hm
  exact km_Es_mergeRuns_9 N hC hm
set_option maxHeartbeats 8000000 in
set_option maxRecDepth 100000 in
theorem km_Es_runEnd_33 {N : Nat}   {π : Sh} {r : St × Int}  {σ : St} {x2 : Int} {x3 : Int} (hC : Cl π σ)  (hm : Es_runEnd_33 N π σ x2 x3 = some r) : Cl π r.1 := by
  have hS := hC.1
  rw [Es_runEnd_33] at hm
  obtain ⟨g12, hm⟩ := grd_s hm
  obtain ⟨g13, hm⟩ := grd_s hm
  cases hm
  exact hC
set_option maxHeartbeats 8000000 in
set_option maxRecDepth 100000 in
theorem km_Es_runEnd_4 {N : Nat}   {π : Sh} {r : St × Int}  (n : Nat) : ∀ {σ : St} {x2 : Int} {x3 : Int}, Cl π σ → Es_runEnd_4 N π n σ x2 x3 = some r → Cl π r.1 := by
  induction n with
  | zero => intro σ x2 x3 hC  hm; cases (show none = some r from hm)
  | succ n krec4 =>
    intro σ x2 x3 hC  hm
    have hS := hC.1
    rw [Es_runEnd_4] at hm
    obtain ⟨g3, hm⟩ := grd_s hm
    obtain ⟨g4, hm⟩ := grd_s hm
    by_cases c5 : x3 < x2
    · have hm := ite_t c5 hm
      obtain ⟨g6, hm⟩ := grd_s hm
      obtain ⟨g7, hm⟩ := grd_s hm
      obtain ⟨g8, hm⟩ := grd_s hm
      obtain ⟨g9, hm⟩ := grd_s hm
      obtain ⟨g10, hm⟩ := grd_s hm
      by_cases c11 : (el σ (fl σ 52 10) (x3 - 1)) < (el σ (fl σ 52 10) x3)
      · have hm := ite_t c11 hm
        exact krec4 hC  hm
      · have hm := ite_f c11 hm
        exact km_Es_runEnd_33 hC hm
    · have hm := ite_f c5 hm
      exact km_Es_runEnd_33 hC hm
set_option maxHeartbeats 8000000 in
set_option maxRecDepth 100000 in
theorem km_Es_runEnd {N : Nat}   {π : Sh} {σ : St} {x1 : Int} {x2 : Int} {r : St × Int} (hC : Cl π σ)  (hm : Es_runEnd N π σ x1 x2 = some r) : Cl π r.1 := by
  have hS := hC.1
  rw [Es_runEnd] at hm
  obtain ⟨v1, e2, hm⟩ := bnd_s hm
  exact km_Es_runEnd_4 N hC hm
set_option maxHeartbeats 8000000 in
set_option maxRecDepth 100000 in
theorem km_Es_mergePass_34 {N : Nat}   {π : Sh} {r : St × Int} {rec4 : St → Int → Int → Int → Option (St × Int)} (krec4 : ∀ {σ : St} {x1 : Int} {x2 : Int} {x3 : Int}, Cl π σ → rec4 σ x1 x2 x3 = some r → Cl π r.1) {σ : St} {x1 : Int} {x2 : Int} {x3 : Int} {x4 : Int} (hC : Cl π σ)  (hm : Es_mergePass_34 N π rec4 σ x1 x2 x3 x4 = some r) : Cl π r.1 := by
  have hS := hC.1
  rw [Es_mergePass_34] at hm
  obtain ⟨r13, e14, hm⟩ := obd_s hm
  have q15 := (km_Es_runEnd hC e14)
  have hC16 : Cl π r13.1 := q15
  obtain ⟨r17, e18, hm⟩ := obd_s hm
  have q19 := (km_Es_mergeRuns hC16 e18)
  have hC20 : Cl π r17 := q19
  exact krec4 hC20  hm
set_option maxHeartbeats 8000000 in
set_option maxRecDepth 100000 in
theorem km_Es_mergePass_61 {N : Nat}   {π : Sh} {r : St × Int}  {σ : St}  (hC : Cl π σ)  (hm : Es_mergePass_61 N π σ  = some r) : Cl π r.1 := by
  have hS := hC.1
  rw [Es_mergePass_61] at hm
  cases hm
  exact (cl_sfR (cl_sfR hC _ _ (cl_fl hC (f := 52) rfl 10)) _ _ (cl_fl hC (f := 53) rfl 10))
set_option maxHeartbeats 8000000 in
set_option maxRecDepth 100000 in
theorem km_Es_mergePass_4 {N : Nat}   {π : Sh} {r : St × Int}  (n : Nat) : ∀ {σ : St} {x1 : Int} {x2 : Int} {x3 : Int}, Cl π σ → Es_mergePass_4 N π n σ x1 x2 x3 = some r → Cl π r.1 := by
  induction n with
  | zero => intro σ x1 x2 x3 hC  hm; cases (show none = some r from hm)
  | succ n krec4 =>
    intro σ x1 x2 x3 hC  hm
    have hS := hC.1
    rw [Es_mergePass_4] at hm
    obtain ⟨g1, hm⟩ := grd_s hm
    obtain ⟨g2, hm⟩ := grd_s hm
    by_cases c3 : x3 < x1
    · have hm := ite_t c3 hm
      obtain ⟨g4, hm⟩ := grd_s hm
      by_cases c5 : x2 < x1
      · have hm := ite_t c5 hm
        obtain ⟨r6, e7, hm⟩ := obd_s hm
        have q8 := (km_Es_runEnd hC e7)
        have hC9 : Cl π r6.1 := q8
        by_cases c10 : x2 = 0
        · have hm := ite_t c10 hm
          obtain ⟨g11, hm⟩ := grd_s hm
          by_cases c12 : r6.2 = x1
          · have hm := ite_t c12 hm
            cases hm
            exact hC9
          · have hm := ite_f c12 hm
            exact km_Es_mergePass_34 krec4 hC9 hm
        · have hm := ite_f c10 hm
          exact km_Es_mergePass_34 krec4 hC9 hm
      · have hm := ite_f c5 hm
        exact km_Es_mergePass_61 hC hm
    · have hm := ite_f c3 hm
      exact km_Es_mergePass_61 hC hm
set_option maxHeartbeats 8000000 in
set_option maxRecDepth 100000 in
theorem km_Es_mergePass {N : Nat}   {π : Sh} {σ : St} {x1 : Int} {r : St × Int} (hC : Cl π σ)  (hm : Es_mergePass N π σ x1 = some r) : Cl π r.1 := by
  have hS := hC.1
  rw [Es_mergePass] at hm
  exact km_Es_mergePass_4 N hC hm
set_option maxHeartbeats 8000000 in
set_option maxRecDepth 100000 in
theorem km_Es_takeValue {N : Nat}   {π : Sh} {σ : St} {x1 : Int} {x2 : Int} {r : St} (hC : Cl π σ)  (hm : Es_takeValue N π σ x1 x2 = some r) : Cl π r := by
  have hS := hC.1
  rw [Es_takeValue] at hm
  obtain ⟨g1, hm⟩ := grd_s hm
  obtain ⟨g2, hm⟩ := grd_s hm
  obtain ⟨g3, hm⟩ := grd_s hm
  cases hm
  exact (cl_seI (cl_seI (cl_seI hC (sh_13 hS) (by decide) _ _) (sh_14 hS) (by decide) _ _) (sh_15 hS) (by decide) _ _)
set_option maxHeartbeats 8000000 in
set_option maxRecDepth 100000 in
theorem km_Es_sort_88 {N : Nat}   {π : Sh} {r : St}  (n : Nat) : ∀ {σ : St} {x1 : Int} {x2 : Int} {x3 : Int}, Cl π σ → Es_sort_88 N π n σ x1 x2 x3 = some r → Cl π r := by
  induction n with
  | zero => intro σ x1 x2 x3 hC  hm; cases (show none = some r from hm)
  | succ n krec88 =>
    intro σ x1 x2 x3 hC  hm
    have hS := hC.1
    rw [Es_sort_88] at hm
    obtain ⟨g29, hm⟩ := grd_s hm
    obtain ⟨g30, hm⟩ := grd_s hm
    by_cases c31 : x3 < x2
    · have hm := ite_t c31 hm
      obtain ⟨g32, hm⟩ := grd_s hm
      obtain ⟨g33, hm⟩ := grd_s hm
      obtain ⟨g34, hm⟩ := grd_s hm
      obtain ⟨v35, e36, hm⟩ := bnd_s hm
      obtain ⟨g37, hm⟩ := grd_s hm
      obtain ⟨g38, hm⟩ := grd_s hm
      obtain ⟨σ39, e40, hm⟩ := bnd_s hm
      have hC41 : Cl π σ39 := e40 ▸ (cl_seI (cl_seI hC (sh_11 hS) (by decide) _ _) (sh_12 hS) (by decide) _ _)
      obtain ⟨r42, e43, hm⟩ := obd_s hm
      have q44 := (km_Es_takeValue hC41 e43)
      have hC45 : Cl π r42 := q44
      exact krec88 hC45  hm
    · have hm := ite_f c31 hm
      cases hm
      exact hC
set_option maxHeartbeats 8000000 in
set_option maxRecDepth 100000 in
theorem km_Es_sort_80 {N : Nat}   {π : Sh} {r : St}  {σ : St} {x1 : Int} {x2 : Int} (hC : Cl π σ)  (hm : Es_sort_80 N π σ x1 x2 = some r) : Cl π r := by
  have hS := hC.1
  rw [Es_sort_80] at hm
  obtain ⟨r25, e26, hm⟩ := obd_s hm
  have q27 := (km_Es_copyToSpare hC e26)
  have hC28 : Cl π r25 := q27
  exact km_Es_sort_88 N hC28 hm
set_option maxHeartbeats 8000000 in
set_option maxRecDepth 100000 in
theorem km_Es_sort_59 {N : Nat}   {π : Sh} {r : St}  (n : Nat) : ∀ {σ : St} {x1 : Int} {x2 : Int} {x3 : Int}, Cl π σ → Es_sort_59 N π n σ x1 x2 x3 = some r → Cl π r := by
  induction n with
  | zero => intro σ x1 x2 x3 hC  hm; cases (show none = some r from hm)
  | succ n krec59 =>
    intro σ x1 x2 x3 hC  hm
    have hS := hC.1
    rw [Es_sort_59] at hm
    obtain ⟨g17, hm⟩ := grd_s hm
    by_cases c18 : x3 < 1024
    · have hm := ite_t c18 hm
      obtain ⟨r19, e20, hm⟩ := obd_s hm
      have q21 := (km_Es_mergePass hC e20)
      have hC22 : Cl π r19.1 := q21
      obtain ⟨g23, hm⟩ := grd_s hm
      by_cases c24 : r19.2 = 0
      · have hm := ite_t c24 hm
        exact krec59 hC22  hm
      · have hm := ite_f c24 hm
        exact km_Es_sort_80 hC22 hm
    · have hm := ite_f c18 hm
      exact km_Es_sort_80 hC hm
set_option maxHeartbeats 8000000 in
set_option maxRecDepth 100000 in
theorem km_Es_sort_25 {N : Nat}   {π : Sh} {r : St}  (n : Nat) : ∀ {σ : St} {x1 : Int} {x2 : Int} {x3 : Int}, Cl π σ → Es_sort_25 N π n σ x1 x2 x3 = some r → Cl π r := by
  induction n with
  | zero => intro σ x1 x2 x3 hC  hm; cases (show none = some r from hm)
  | succ n krec25 =>
    intro σ x1 x2 x3 hC  hm
    have hS := hC.1
    rw [Es_sort_25] at hm
    obtain ⟨g11, hm⟩ := grd_s hm
    obtain ⟨g12, hm⟩ := grd_s hm
    by_cases c13 : x3 < x2
    · have hm := ite_t c13 hm
      obtain ⟨g14, hm⟩ := grd_s hm
      obtain ⟨g15, hm⟩ := grd_s hm
      obtain ⟨g16, hm⟩ := grd_s hm
      exact krec25 (cl_seI hC g15 (by decide) _ _)  hm
    · have hm := ite_f c13 hm
      exact km_Es_sort_59 N hC hm
set_option maxHeartbeats 8000000 in
set_option maxRecDepth 100000 in
theorem km_Es_sort {N : Nat}   {π : Sh} {σ : St} {x1 : Int} {r : St} (hC : Cl π σ)  (hm : Es_sort N π σ x1 = some r) : Cl π r := by
  have hS := hC.1
  rw [Es_sort] at hm
  obtain ⟨v1, e2, hm⟩ := bnd_s hm
  obtain ⟨g3, hm⟩ := grd_s hm
  by_cases c4 : (1024 : Int) < v1
  · have hm := ite_t c4 hm
    cases hm
    exact hC
  · have hm := ite_f c4 hm
    obtain ⟨r5, e6, hm⟩ := obd_s hm
    have q7 := (km_Es_isSorted hC e6)
    have hC8 : Cl π r5.1 := q7
    obtain ⟨g9, hm⟩ := grd_s hm
    by_cases c10 : r5.2 = 0
    · have hm := ite_t c10 hm
      exact km_Es_sort_25 N hC8 hm
    · have hm := ite_f c10 hm
      cases hm
      exact hC8
set_option maxHeartbeats 8000000 in
set_option maxRecDepth 100000 in
theorem km_Es_rotateValues_28 {N : Nat}   {π : Sh} {r : St}  (n : Nat) : ∀ {σ : St} {x1 : Int} {x2 : Int} {x3 : Int} {x4 : Int}, Cl π σ → Es_rotateValues_28 N π n σ x1 x2 x3 x4 = some r → Cl π r := by
  induction n with
  | zero => intro σ x1 x2 x3 x4 hC  hm; cases (show none = some r from hm)
  | succ n krec28 =>
    intro σ x1 x2 x3 x4 hC  hm
    have hS := hC.1
    rw [Es_rotateValues_28] at hm
    obtain ⟨g10, hm⟩ := grd_s hm
    obtain ⟨g11, hm⟩ := grd_s hm
    by_cases c12 : x4 < x3
    · have hm := ite_t c12 hm
      obtain ⟨g13, hm⟩ := grd_s hm
      obtain ⟨g14, hm⟩ := grd_s hm
      obtain ⟨r15, e16, hm⟩ := obd_s hm
      have q17 := (km_Es_takeValue hC e16)
      have hC18 : Cl π r15 := q17
      exact krec28 hC18  hm
    · have hm := ite_f c12 hm
      cases hm
      exact hC
set_option maxHeartbeats 8000000 in
set_option maxRecDepth 100000 in
theorem km_Es_rotateValues {N : Nat}   {π : Sh} {σ : St} {x1 : Int} {x2 : Int} {r : St} (hC : Cl π σ)  (hm : Es_rotateValues N π σ x1 x2 = some r) : Cl π r := by
  have hS := hC.1
  rw [Es_rotateValues] at hm
  obtain ⟨v1, e2, hm⟩ := bnd_s hm
  obtain ⟨g3, hm⟩ := grd_s hm
  by_cases c4 : v1 = 0
  · have hm := ite_t c4 hm
    cases hm
    exact hC
  · have hm := ite_f c4 hm
    by_cases c5 : (1024 : Int) < v1
    · have hm := ite_t c5 hm
      cases hm
      exact hC
    · have hm := ite_f c5 hm
      obtain ⟨r6, e7, hm⟩ := obd_s hm
      have q8 := (km_Es_copyToSpare hC e7)
      have hC9 : Cl π r6 := q8
      exact km_Es_rotateValues_28 N hC9 hm
set_option maxHeartbeats 8000000 in
set_option maxRecDepth 100000 in
theorem km_Ka_move {N : Nat}   {π : Sh} {σ : St} {x1 : Int} {x2 : Int} {r : St} (hC : Cl π σ)  (hm : Ka_move N π σ x1 x2 = some r) : Cl π r := by
  have hS := hC.1
  rw [Ka_move] at hm
  obtain ⟨g1, hm⟩ := grd_s hm
  by_cases c2 : x2 < 400
  · have hm := ite_t c2 hm
    obtain ⟨g3, hm⟩ := grd_s hm
    obtain ⟨g4, hm⟩ := grd_s hm
    obtain ⟨g5, hm⟩ := grd_s hm
    cases hm
    exact (cl_seI (cl_seI (cl_seI (cl_seI (cl_seI (cl_seI (cl_seI (cl_seI hC (sh_25 hS) (by decide) _ _) (sh_26 hS) (by decide) _ _) (sh_27 hS) (by decide) _ _) (sh_28 hS) (by decide) _ _) (sh_29 hS) (by decide) _ _) (sh_30 hS) (by decide) _ _) (sh_31 hS) (by decide) _ _) (sh_32 hS) (by decide) _ _)
  · have hm := ite_f c2 hm
    cases hm
    exact hC
set_option maxHeartbeats 8000000 in
set_option maxRecDepth 100000 in
theorem km_Kh_move {N : Nat}   {π : Sh} {σ : St} {x1 : Int} {x2 : Int} {r : St} (hC : Cl π σ)  (hm : Kh_move N π σ x1 x2 = some r) : Cl π r := by
  have hS := hC.1
  rw [Kh_move] at hm
  obtain ⟨g1, hm⟩ := grd_s hm
  by_cases c2 : x2 < 400
  · have hm := ite_t c2 hm
    obtain ⟨g3, hm⟩ := grd_s hm
    obtain ⟨g4, hm⟩ := grd_s hm
    obtain ⟨g5, hm⟩ := grd_s hm
    cases hm
    exact (cl_seI (cl_seI (cl_seI (cl_seI (cl_seI (cl_seI (cl_seI (cl_seI hC (sh_34 hS) (by decide) _ _) (sh_35 hS) (by decide) _ _) (sh_36 hS) (by decide) _ _) (sh_37 hS) (by decide) _ _) (sh_38 hS) (by decide) _ _) (sh_39 hS) (by decide) _ _) (sh_40 hS) (by decide) _ _) (sh_41 hS) (by decide) _ _)
  · have hm := ite_f c2 hm
    cases hm
    exact hC
set_option maxHeartbeats 8000000 in
set_option maxRecDepth 100000 in
theorem km_Ka_take {N : Nat}   {π : Sh} {σ : St} {x1 : Int} {x2 : Int} {x3 : Int} {r : St} (hC : Cl π σ) (hv_x1 : x1 < nn π) (hm : Ka_take N π σ x1 x2 x3 = some r) : Cl π r := by
  have hS := hC.1
  rw [Ka_take] at hm
  obtain ⟨g1, hm⟩ := grd_s hm
  by_cases c2 : x3 < 400
  · have hm := ite_t c2 hm
    obtain ⟨g3, hm⟩ := grd_s hm
    obtain ⟨g4, hm⟩ := grd_s hm
    obtain ⟨g5, hm⟩ := grd_s hm
    obtain ⟨g6, hm⟩ := grd_s hm
    cases hm
    exact (cl_seI (cl_seI (cl_seI (cl_seI (cl_seI hC (sh_27 hS) (by decide) _ _) (sh_28 hS) (by decide) _ _) (sh_30 hS) (by decide) _ _) (sh_31 hS) (by decide) _ _) (sh_32 hS) (by decide) _ _)
  · have hm := ite_f c2 hm
    cases hm
    exact hC
set_option maxHeartbeats 8000000 in
set_option maxRecDepth 100000 in
theorem km_Kh_take {N : Nat}   {π : Sh} {σ : St} {x1 : Int} {x2 : Int} {x3 : Int} {r : St} (hC : Cl π σ) (hv_x1 : x1 < nn π) (hm : Kh_take N π σ x1 x2 x3 = some r) : Cl π r := by
  have hS := hC.1
  rw [Kh_take] at hm
  obtain ⟨g1, hm⟩ := grd_s hm
  by_cases c2 : x3 < 400
  · have hm := ite_t c2 hm
    obtain ⟨g3, hm⟩ := grd_s hm
    obtain ⟨g4, hm⟩ := grd_s hm
    obtain ⟨g5, hm⟩ := grd_s hm
    obtain ⟨g6, hm⟩ := grd_s hm
    cases hm
    exact (cl_seI (cl_seI (cl_seI (cl_seI (cl_seI hC (sh_36 hS) (by decide) _ _) (sh_37 hS) (by decide) _ _) (sh_39 hS) (by decide) _ _) (sh_40 hS) (by decide) _ _) (sh_41 hS) (by decide) _ _)
  · have hm := ite_f c2 hm
    cases hm
    exact hC
set_option maxHeartbeats 8000000 in
set_option maxRecDepth 100000 in
theorem km_Ka_merge_136 {N : Nat}   {π : Sh} {r : St} {rec29 : St → Int → Int → Int → Int → Int → Int → Int → Int → Option St} (krec29 : ∀ {σ : St} {x1 : Int} {x2 : Int} {x4 : Int} {x5 : Int} {x6 : Int} {x7 : Int} {x8 : Int} {x9 : Int}, Cl π σ → x1 < nn π → rec29 σ x1 x2 x4 x5 x6 x7 x8 x9 = some r → Cl π r) {σ : St} {x1 : Int} {x2 : Int} {x4 : Int} {x5 : Int} {x6 : Int} {x7 : Int} {x8 : Int} {x9 : Int} (hC : Cl π σ) (hv_x1 : x1 < nn π) (hm : Ka_merge_136 N π rec29 σ x1 x2 x4 x5 x6 x7 x8 x9 = some r) : Cl π r := by
  have hS := hC.1
  rw [Ka_merge_136] at hm
  exact krec29 hC hv_x1 hm
set_option maxHeartbeats 8000000 in
set_option maxRecDepth 100000 in
theorem km_Ka_merge_133 {N : Nat}   {π : Sh} {r : St} {rec29 : St → Int → Int → Int → Int → Int → Int → Int → Int → Option St} (krec29 : ∀ {σ : St} {x1 : Int} {x2 : Int} {x4 : Int} {x5 : Int} {x6 : Int} {x7 : Int} {x8 : Int} {x9 : Int}, Cl π σ → x1 < nn π → rec29 σ x1 x2 x4 x5 x6 x7 x8 x9 = some r → Cl π r) {σ : St} {x1 : Int} {x2 : Int} {x4 : Int} {x5 : Int} {x6 : Int} {x7 : Int} {x8 : Int} {x9 : Int} (hC : Cl π σ) (hv_x1 : x1 < nn π) (hm : Ka_merge_133 N π rec29 σ x1 x2 x4 x5 x6 x7 x8 x9 = some r) : Cl π r := by
  have hS := hC.1
  rw [Ka_merge_133] at hm
  exact km_Ka_merge_136 krec29 hC hv_x1 hm
set_option maxHeartbeats 8000000 in
set_option maxRecDepth 100000 in
theorem km_Ka_merge_90 {N : Nat}   {π : Sh} {r : St} {rec29 : St → Int → Int → Int → Int → Int → Int → Int → Int → Option St} (krec29 : ∀ {σ : St} {x1 : Int} {x2 : Int} {x4 : Int} {x5 : Int} {x6 : Int} {x7 : Int} {x8 : Int} {x9 : Int}, Cl π σ → x1 < nn π → rec29 σ x1 x2 x4 x5 x6 x7 x8 x9 = some r → Cl π r) {σ : St} {x1 : Int} {x2 : Int} {x4 : Int} {x5 : Int} {x6 : Int} {x7 : Int} {x8 : Int} {x9 : Int} (hC : Cl π σ) (hv_x1 : x1 < nn π) (hm : Ka_merge_90 N π rec29 σ x1 x2 x4 x5 x6 x7 x8 x9 = some r) : Cl π r := by
  have hS := hC.1
  rw [Ka_merge_90] at hm
  obtain ⟨r27, e28, hm⟩ := obd_s hm
  have q29 := (km_Ka_take hC hv_x1 e28)
  have hC30 : Cl π r27 := q29
  obtain ⟨g31, hm⟩ := grd_s hm
  by_cases c32 : x9 < 400
  · have hm := ite_t c32 hm
    obtain ⟨g33, hm⟩ := grd_s hm
    exact km_Ka_merge_133 krec29 (cl_seI (cl_seI (cl_seI hC30 (sh_29 hS) (by decide) _ _) (sh_25 hS) (by decide) _ _) (sh_26 hS) (by decide) _ _) hv_x1 hm
  · have hm := ite_f c32 hm
    exact km_Ka_merge_133 krec29 hC30 hv_x1 hm
set_option maxHeartbeats 8000000 in
set_option maxRecDepth 100000 in
theorem km_Ka_merge_142 {N : Nat}   {π : Sh} {r : St}  {σ : St} {x1 : Int} (hC : Cl π σ) (hv_x1 : x1 < nn π) (hm : Ka_merge_142 N π σ x1 = some r) : Cl π r := by
  have hS := hC.1
  rw [Ka_merge_142] at hm
  obtain ⟨g25, hm⟩ := grd_s hm
  obtain ⟨g26, hm⟩ := grd_s hm
  cases hm
  exact (cl_sfI hC (f := 68) rfl _ _)
set_option maxHeartbeats 8000000 in
set_option maxRecDepth 100000 in
theorem km_Ka_merge_29 {N : Nat}   {π : Sh} {r : St}  (n : Nat) : ∀ {σ : St} {x1 : Int} {x2 : Int} {x4 : Int} {x5 : Int} {x6 : Int} {x7 : Int} {x8 : Int} {x9 : Int}, Cl π σ → x1 < nn π → Ka_merge_29 N π n σ x1 x2 x4 x5 x6 x7 x8 x9 = some r → Cl π r := by
  induction n with
  | zero => intro σ x1 x2 x4 x5 x6 x7 x8 x9 hC hv_x1 hm; cases (show none = some r from hm)
  | succ n krec29 =>
    intro σ x1 x2 x4 x5 x6 x7 x8 x9 hC hv_x1 hm
    have hS := hC.1
    rw [Ka_merge_29] at hm
    obtain ⟨g8, hm⟩ := grd_s hm
    obtain ⟨g9, hm⟩ := grd_s hm
    by_cases c10 : x9 < x6
    · have hm := ite_t c10 hm
      exact km_Ka_merge_142 hC hv_x1 hm
    · have hm := ite_f c10 hm
      obtain ⟨g11, hm⟩ := grd_s hm
      by_cases c12 : x8 < 0
      · have hm := ite_t c12 hm
        exact km_Ka_merge_142 hC hv_x1 hm
      · have hm := ite_f c12 hm
        obtain ⟨g13, hm⟩ := grd_s hm
        by_cases c14 : x7 < x6
        · have hm := ite_t c14 hm
          exact km_Ka_merge_90 krec29 hC hv_x1 hm
        · have hm := ite_f c14 hm
          obtain ⟨g15, hm⟩ := grd_s hm
          obtain ⟨g16, hm⟩ := grd_s hm
          obtain ⟨g17, hm⟩ := grd_s hm
          obtain ⟨g18, hm⟩ := grd_s hm
          obtain ⟨g19, hm⟩ := grd_s hm
          by_cases c20 : ((el σ 11 x8) * (el σ 29 x7)) < ((el σ 27 x7) * x2)
          · have hm := ite_t c20 hm
            obtain ⟨r21, e22, hm⟩ := obd_s hm
            have q23 := (km_Ka_move hC e22)
            have hC24 : Cl π r21 := q23
            exact km_Ka_merge_136 krec29 hC24 hv_x1 hm
          · have hm := ite_f c20 hm
            exact km_Ka_merge_90 krec29 hC hv_x1 hm
set_option maxHeartbeats 8000000 in
set_option maxRecDepth 100000 in
theorem km_Ka_merge {N : Nat}   {π : Sh} {σ : St} {x1 : Int} {x2 : Int} {x4 : Int} {x5 : Int} {x6 : Int} {r : St} (hC : Cl π σ) (hv_x1 : x1 < nn π) (hm : Ka_merge N π σ x1 x2 x4 x5 x6 = some r) : Cl π r := by
  have hS := hC.1
  rw [Ka_merge] at hm
  obtain ⟨v1, e2, hm⟩ := bnd_s hm
  obtain ⟨g3, hm⟩ := grd_s hm
  obtain ⟨v4, e5, hm⟩ := bnd_s hm
  obtain ⟨v6, e7, hm⟩ := bnd_s hm
  exact km_Ka_merge_29 N hC hv_x1 hm
set_option maxHeartbeats 8000000 in
set_option maxRecDepth 100000 in
theorem km_Kh_merge_136 {N : Nat}   {π : Sh} {r : St} {rec29 : St → Int → Int → Int → Int → Int → Int → Int → Int → Option St} (krec29 : ∀ {σ : St} {x1 : Int} {x2 : Int} {x4 : Int} {x5 : Int} {x6 : Int} {x7 : Int} {x8 : Int} {x9 : Int}, Cl π σ → x1 < nn π → rec29 σ x1 x2 x4 x5 x6 x7 x8 x9 = some r → Cl π r) {σ : St} {x1 : Int} {x2 : Int} {x4 : Int} {x5 : Int} {x6 : Int} {x7 : Int} {x8 : Int} {x9 : Int} (hC : Cl π σ) (hv_x1 : x1 < nn π) (hm : Kh_merge_136 N π rec29 σ x1 x2 x4 x5 x6 x7 x8 x9 = some r) : Cl π r := by
  have hS := hC.1
  rw [Kh_merge_136] at hm
  exact krec29 hC hv_x1 hm
set_option maxHeartbeats 8000000 in
set_option maxRecDepth 100000 in
theorem km_Kh_merge_133 {N : Nat}   {π : Sh} {r : St} {rec29 : St → Int → Int → Int → Int → Int → Int → Int → Int → Option St} (krec29 : ∀ {σ : St} {x1 : Int} {x2 : Int} {x4 : Int} {x5 : Int} {x6 : Int} {x7 : Int} {x8 : Int} {x9 : Int}, Cl π σ → x1 < nn π → rec29 σ x1 x2 x4 x5 x6 x7 x8 x9 = some r → Cl π r) {σ : St} {x1 : Int} {x2 : Int} {x4 : Int} {x5 : Int} {x6 : Int} {x7 : Int} {x8 : Int} {x9 : Int} (hC : Cl π σ) (hv_x1 : x1 < nn π) (hm : Kh_merge_133 N π rec29 σ x1 x2 x4 x5 x6 x7 x8 x9 = some r) : Cl π r := by
  have hS := hC.1
  rw [Kh_merge_133] at hm
  exact km_Kh_merge_136 krec29 hC hv_x1 hm
set_option maxHeartbeats 8000000 in
set_option maxRecDepth 100000 in
theorem km_Kh_merge_90 {N : Nat}   {π : Sh} {r : St} {rec29 : St → Int → Int → Int → Int → Int → Int → Int → Int → Option St} (krec29 : ∀ {σ : St} {x1 : Int} {x2 : Int} {x4 : Int} {x5 : Int} {x6 : Int} {x7 : Int} {x8 : Int} {x9 : Int}, Cl π σ → x1 < nn π → rec29 σ x1 x2 x4 x5 x6 x7 x8 x9 = some r → Cl π r) {σ : St} {x1 : Int} {x2 : Int} {x4 : Int} {x5 : Int} {x6 : Int} {x7 : Int} {x8 : Int} {x9 : Int} (hC : Cl π σ) (hv_x1 : x1 < nn π) (hm : Kh_merge_90 N π rec29 σ x1 x2 x4 x5 x6 x7 x8 x9 = some r) : Cl π r := by
  have hS := hC.1
  rw [Kh_merge_90] at hm
  obtain ⟨r27, e28, hm⟩ := obd_s hm
  have q29 := (km_Kh_take hC hv_x1 e28)
  have hC30 : Cl π r27 := q29
  obtain ⟨g31, hm⟩ := grd_s hm
  by_cases c32 : x9 < 400
  · have hm := ite_t c32 hm
    obtain ⟨g33, hm⟩ := grd_s hm
    exact km_Kh_merge_133 krec29 (cl_seI (cl_seI (cl_seI hC30 (sh_38 hS) (by decide) _ _) (sh_34 hS) (by decide) _ _) (sh_35 hS) (by decide) _ _) hv_x1 hm
  · have hm := ite_f c32 hm
    exact km_Kh_merge_133 krec29 hC30 hv_x1 hm
set_option maxHeartbeats 8000000 in
set_option maxRecDepth 100000 in
theorem km_Kh_merge_142 {N : Nat}   {π : Sh} {r : St}  {σ : St} {x1 : Int} (hC : Cl π σ) (hv_x1 : x1 < nn π) (hm : Kh_merge_142 N π σ x1 = some r) : Cl π r := by
  have hS := hC.1
  rw [Kh_merge_142] at hm
  obtain ⟨g25, hm⟩ := grd_s hm
  obtain ⟨g26, hm⟩ := grd_s hm
  cases hm
  exact (cl_sfI hC (f := 68) rfl _ _)
set_option maxHeartbeats 8000000 in
set_option maxRecDepth 100000 in
theorem km_Kh_merge_29 {N : Nat}   {π : Sh} {r : St}  (n : Nat) : ∀ {σ : St} {x1 : Int} {x2 : Int} {x4 : Int} {x5 : Int} {x6 : Int} {x7 : Int} {x8 : Int} {x9 : Int}, Cl π σ → x1 < nn π → Kh_merge_29 N π n σ x1 x2 x4 x5 x6 x7 x8 x9 = some r → Cl π r := by
  induction n with
  | zero => intro σ x1 x2 x4 x5 x6 x7 x8 x9 hC hv_x1 hm; cases (show none = some r from hm)
  | succ n krec29 =>
    intro σ x1 x2 x4 x5 x6 x7 x8 x9 hC hv_x1 hm
    have hS := hC.1
    rw [Kh_merge_29] at hm
    obtain ⟨g8, hm⟩ := grd_s hm
    obtain ⟨g9, hm⟩ := grd_s hm
    by_cases c10 : x9 < x6
    · have hm := ite_t c10 hm
      exact km_Kh_merge_142 hC hv_x1 hm
    · have hm := ite_f c10 hm
      obtain ⟨g11, hm⟩ := grd_s hm
      by_cases c12 : x8 < 0
      · have hm := ite_t c12 hm
        exact km_Kh_merge_142 hC hv_x1 hm
      · have hm := ite_f c12 hm
        obtain ⟨g13, hm⟩ := grd_s hm
        by_cases c14 : x7 < x6
        · have hm := ite_t c14 hm
          exact km_Kh_merge_90 krec29 hC hv_x1 hm
        · have hm := ite_f c14 hm
          obtain ⟨g15, hm⟩ := grd_s hm
          obtain ⟨g16, hm⟩ := grd_s hm
          obtain ⟨g17, hm⟩ := grd_s hm
          obtain ⟨g18, hm⟩ := grd_s hm
          obtain ⟨g19, hm⟩ := grd_s hm
          by_cases c20 : ((el σ 11 x8) * (el σ 38 x7)) < ((el σ 36 x7) * x2)
          · have hm := ite_t c20 hm
            obtain ⟨r21, e22, hm⟩ := obd_s hm
            have q23 := (km_Kh_move hC e22)
            have hC24 : Cl π r21 := q23
            exact km_Kh_merge_136 krec29 hC24 hv_x1 hm
          · have hm := ite_f c20 hm
            exact km_Kh_merge_90 krec29 hC hv_x1 hm
set_option maxHeartbeats 8000000 in
set_option maxRecDepth 100000 in
theorem km_Kh_merge {N : Nat}   {π : Sh} {σ : St} {x1 : Int} {x2 : Int} {x4 : Int} {x5 : Int} {x6 : Int} {r : St} (hC : Cl π σ) (hv_x1 : x1 < nn π) (hm : Kh_merge N π σ x1 x2 x4 x5 x6 = some r) : Cl π r := by
  have hS := hC.1
  rw [Kh_merge] at hm
  obtain ⟨v1, e2, hm⟩ := bnd_s hm
  obtain ⟨g3, hm⟩ := grd_s hm
  obtain ⟨v4, e5, hm⟩ := bnd_s hm
  obtain ⟨v6, e7, hm⟩ := bnd_s hm
  exact km_Kh_merge_29 N hC hv_x1 hm

set_option maxHeartbeats 8000000 in
set_option maxRecDepth 100000 in
theorem km_Ka_time_49 {N : Nat}   {π : Sh} {r : St × Int}  {σ : St} {x5 : Int} {s0 : Int} (hC : Cl π σ)  (hm : Ka_time_49 N π σ x5 s0 = some r) : Cl π r.1 := by
  have hS := hC.1
  rw [Ka_time_49] at hm
  obtain ⟨g11, hm⟩ := grd_s hm
  obtain ⟨g12, hm⟩ := grd_s hm
  obtain ⟨g13, hm⟩ := grd_s hm
  cases hm
  exact hC
set_option maxHeartbeats 8000000 in
set_option maxRecDepth 100000 in
theorem km_Ka_time_20 {N : Nat}   {π : Sh} {r : St × Int}  {σ : St} {x1 : Int} {x2 : Int} {s0 : Int} (hC : Cl π σ)  (hm : Ka_time_20 N π σ x1 x2 s0 = some r) : Cl π r.1 := by
  have hS := hC.1
  rw [Ka_time_20] at hm
  obtain ⟨g5, hm⟩ := grd_s hm
  obtain ⟨r6, e7, hm⟩ := obd_s hm
  obtain ⟨g8, hm⟩ := grd_s hm
  obtain ⟨g9, hm⟩ := grd_s hm
  by_cases c10 : (Int.tmod x2 2) = 0
  · have hm := ite_t c10 hm
    exact km_Ka_time_49 hC hm
  · have hm := ite_f c10 hm
    exact km_Ka_time_49 hC hm
set_option maxHeartbeats 8000000 in
set_option maxRecDepth 100000 in
theorem km_Ka_time {N : Nat}   {π : Sh} {σ : St} {x1 : Int} {x2 : Int} {r : St × Int} (hC : Cl π σ)  (hm : Ka_time N π σ x1 x2 = some r) : Cl π r.1 := by
  have hS := hC.1
  rw [Ka_time] at hm
  obtain ⟨g1, hm⟩ := grd_s hm
  by_cases c2 : x2 < 2
  · have hm := ite_t c2 hm
    obtain ⟨g4, hm⟩ := grd_s hm
    exact km_Ka_time_20 hC hm
  · have hm := ite_f c2 hm
    obtain ⟨g3, hm⟩ := grd_s hm
    exact km_Ka_time_20 hC hm
set_option maxHeartbeats 8000000 in
set_option maxRecDepth 100000 in
theorem km_Kh_time_49 {N : Nat}   {π : Sh} {r : St × Int}  {σ : St} {x5 : Int} {s0 : Int} (hC : Cl π σ)  (hm : Kh_time_49 N π σ x5 s0 = some r) : Cl π r.1 := by
  have hS := hC.1
  rw [Kh_time_49] at hm
  obtain ⟨g11, hm⟩ := grd_s hm
  obtain ⟨g12, hm⟩ := grd_s hm
  obtain ⟨g13, hm⟩ := grd_s hm
  cases hm
  exact hC
set_option maxHeartbeats 8000000 in
set_option maxRecDepth 100000 in
theorem km_Kh_time_20 {N : Nat}   {π : Sh} {r : St × Int}  {σ : St} {x1 : Int} {x2 : Int} {s0 : Int} (hC : Cl π σ)  (hm : Kh_time_20 N π σ x1 x2 s0 = some r) : Cl π r.1 := by
  have hS := hC.1
  rw [Kh_time_20] at hm
  obtain ⟨g5, hm⟩ := grd_s hm
  obtain ⟨r6, e7, hm⟩ := obd_s hm
  obtain ⟨g8, hm⟩ := grd_s hm
  obtain ⟨g9, hm⟩ := grd_s hm
  by_cases c10 : (Int.tmod x2 2) = 0
  · have hm := ite_t c10 hm
    exact km_Kh_time_49 hC hm
  · have hm := ite_f c10 hm
    exact km_Kh_time_49 hC hm
set_option maxHeartbeats 8000000 in
set_option maxRecDepth 100000 in
theorem km_Kh_time {N : Nat}   {π : Sh} {σ : St} {x1 : Int} {x2 : Int} {r : St × Int} (hC : Cl π σ)  (hm : Kh_time N π σ x1 x2 = some r) : Cl π r.1 := by
  have hS := hC.1
  rw [Kh_time] at hm
  obtain ⟨g1, hm⟩ := grd_s hm
  by_cases c2 : x2 < 2
  · have hm := ite_t c2 hm
    obtain ⟨g4, hm⟩ := grd_s hm
    exact km_Kh_time_20 hC hm
  · have hm := ite_f c2 hm
    obtain ⟨g3, hm⟩ := grd_s hm
    exact km_Kh_time_20 hC hm

set_option maxHeartbeats 8000000 in
set_option maxRecDepth 100000 in
theorem km_Ka_letterAt {N : Nat}   {π : Sh} {σ : St} {x1 : Int} {x2 : Int} {r : St × Int} (hC : Cl π σ)  (hm : Ka_letterAt N π σ x1 x2 = some r) : Cl π r.1 := by
  have hS := hC.1
  rw [Ka_letterAt] at hm
  obtain ⟨g1, hm⟩ := grd_s hm
  by_cases c2 : x1 < 0
  · have hm := ite_t c2 hm
    cases hm
    exact hC
  · have hm := ite_f c2 hm
    obtain ⟨g3, hm⟩ := grd_s hm
    by_cases c4 : x1 < (fl σ 68 24)
    · have hm := ite_t c4 hm
      obtain ⟨g5, hm⟩ := grd_s hm
      by_cases c6 : x2 < 0
      · have hm := ite_t c6 hm
        cases hm
        exact hC
      · have hm := ite_f c6 hm
        obtain ⟨g7, hm⟩ := grd_s hm
        obtain ⟨r8, e9, hm⟩ := obd_s hm
        obtain ⟨g10, hm⟩ := grd_s hm
        by_cases c11 : x2 < r8
        · have hm := ite_t c11 hm
          cases hm
          exact hC
        · have hm := ite_f c11 hm
          cases hm
          exact hC
    · have hm := ite_f c4 hm
      cases hm
      exact hC
set_option maxHeartbeats 8000000 in
set_option maxRecDepth 100000 in
theorem km_Kh_letterAt {N : Nat}   {π : Sh} {σ : St} {x1 : Int} {x2 : Int} {r : St × Int} (hC : Cl π σ)  (hm : Kh_letterAt N π σ x1 x2 = some r) : Cl π r.1 := by
  have hS := hC.1
  rw [Kh_letterAt] at hm
  obtain ⟨g1, hm⟩ := grd_s hm
  by_cases c2 : x1 < 0
  · have hm := ite_t c2 hm
    cases hm
    exact hC
  · have hm := ite_f c2 hm
    obtain ⟨g3, hm⟩ := grd_s hm
    by_cases c4 : x1 < (fl σ 68 33)
    · have hm := ite_t c4 hm
      obtain ⟨g5, hm⟩ := grd_s hm
      by_cases c6 : x2 < 0
      · have hm := ite_t c6 hm
        cases hm
        exact hC
      · have hm := ite_f c6 hm
        obtain ⟨g7, hm⟩ := grd_s hm
        obtain ⟨r8, e9, hm⟩ := obd_s hm
        obtain ⟨g10, hm⟩ := grd_s hm
        by_cases c11 : x2 < r8
        · have hm := ite_t c11 hm
          cases hm
          exact hC
        · have hm := ite_f c11 hm
          cases hm
          exact hC
    · have hm := ite_f c4 hm
      cases hm
      exact hC
set_option maxHeartbeats 8000000 in
set_option maxRecDepth 100000 in
theorem km_Mk_restart {N : Nat}   {π : Sh} {σ : St}  {r : St} (hC : Cl π σ)  (hm : Mk_restart N π σ  = some r) : Cl π r := by
  have hS := hC.1
  rw [Mk_restart] at hm
  cases hm
  exact (cl_sfI (cl_sfI (cl_sfI hC (f := 87) rfl _ _) (f := 88) rfl _ _) (f := 89) rfl _ _)
set_option maxHeartbeats 8000000 in
set_option maxRecDepth 100000 in
theorem km_Mk_fail {N : Nat}   {π : Sh} {σ : St} {x1 : Int} {x2 : Int} {r : St} (hC : Cl π σ)  (hm : Mk_fail N π σ x1 x2 = some r) : Cl π r := by
  have hS := hC.1
  rw [Mk_fail] at hm
  cases hm
  exact (cl_sfI (cl_sfI hC (f := 88) rfl _ _) (f := 89) rfl _ _)
set_option maxHeartbeats 8000000 in
set_option maxRecDepth 100000 in
theorem km_Mk_operand_44 {N : Nat}   {π : Sh} {r : St × Int}  {σ : St} {s0 : Int} (hC : Cl π σ) (hv_s0 : s0 < nn π) (hm : Mk_operand_44 N π σ s0 = some r) : Cl π r.1 ∧ r.2 < nn π := by
  have hS := hC.1
  rw [Mk_operand_44] at hm
  cases hm
  exact ⟨hC, hv_s0⟩
set_option maxHeartbeats 8000000 in
set_option maxRecDepth 100000 in
theorem km_Mk_operand_74 {N : Nat}   {π : Sh} {r : St × Int}  {σ : St} {s0 : Int} (hC : Cl π σ) (hv_s0 : s0 < nn π) (hm : Mk_operand_74 N π σ s0 = some r) : Cl π r.1 ∧ r.2 < nn π := by
  have hS := hC.1
  rw [Mk_operand_74] at hm
  cases hm
  exact ⟨hC, hv_s0⟩
set_option maxHeartbeats 8000000 in
set_option maxRecDepth 100000 in
theorem km_Mk_operand {N : Nat}   {π : Sh} {σ : St} {x1 : Int} {r : St × Int} (hC : Cl π σ)  (hm : Mk_operand N π σ x1 = some r) : Cl π r.1 ∧ r.2 < nn π := by
  have hS := hC.1
  rw [Mk_operand] at hm
  obtain ⟨g1, hm⟩ := grd_s hm
  obtain ⟨v2, e3, hm⟩ := bnd_s hm
  obtain ⟨g4, hm⟩ := grd_s hm
  by_cases c5 : x1 < 0
  · have hm := ite_t c5 hm
    obtain ⟨g11, hm⟩ := grd_s hm
    obtain ⟨r12, e13, hm⟩ := obd_s hm
    have q14 := (km_L_size hC (cl_fl hC (f := 24) rfl v2) e13)
    obtain ⟨g15, hm⟩ := grd_s hm
    have hC16 : Cl π r12.1 := q14
    obtain ⟨g17, hm⟩ := grd_s hm
    obtain ⟨g18, hm⟩ := grd_s hm
    by_cases c19 : r12.2 < (-x1)
    · have hm := ite_t c19 hm
      exact km_Mk_operand_44 hC16 (lt_m1 π) hm
    · have hm := ite_f c19 hm
      obtain ⟨r20, e21, hm⟩ := obd_s hm
      have q22 := (km_L_get hC16 (cl_fl hC16 (f := 24) rfl v2) e21)
      obtain ⟨g23, hm⟩ := grd_s hm
      have hC24 : Cl π r20.1 := q22.1
      obtain ⟨g25, hm⟩ := grd_s hm
      exact km_Mk_operand_44 hC24 q22.2 hm
  · have hm := ite_f c5 hm
    obtain ⟨v6, e7, hm⟩ := bnd_s hm
    obtain ⟨g8, hm⟩ := grd_s hm
    by_cases c9 : v6 < 512
    · have hm := ite_t c9 hm
      obtain ⟨g10, hm⟩ := grd_s hm
      exact km_Mk_operand_74 hC (cl_el hC (sh_5 hS) (by decide) v6) hm
    · have hm := ite_f c9 hm
      exact km_Mk_operand_74 hC (lt_m1 π) hm
set_option maxHeartbeats 8000000 in
set_option maxRecDepth 100000 in
theorem km_Mk_begin_92 {N : Nat}   {π : Sh} {r : St}  {σ : St} {x1 : Int} {x2 : Int} {x3 : Int} (hC : Cl π σ) (hv_x1 : x1 < nn π) (hm : Mk_begin_92 N π σ x1 x2 x3 = some r) : Cl π r := by
  have hS := hC.1
  rw [Mk_begin_92] at hm
  obtain ⟨g27, hm⟩ := grd_s hm
  obtain ⟨g28, hm⟩ := grd_s hm
  obtain ⟨g29, hm⟩ := grd_s hm
  cases hm
  exact (cl_seI (cl_seI (cl_seR (cl_sfI (cl_sfI hC (f := 86) rfl _ _) (f := 85) rfl _ _) _ _ (cl_fl hC (f := 208) rfl x1)) (sh_7 hS) (by decide) _ _) (sh_8 hS) (by decide) _ _)
set_option maxHeartbeats 8000000 in
set_option maxRecDepth 100000 in
theorem km_Mk_begin_47 {N : Nat}   {π : Sh} {r : St}  (n : Nat) : ∀ {σ : St} {x1 : Int} {x2 : Int} {x3 : Int} {x4 : Int}, Cl π σ → x1 < nn π → Mk_begin_47 N π n σ x1 x2 x3 x4 = some r → Cl π r := by
  induction n with
  | zero => intro σ x1 x2 x3 x4 hC hv_x1 hm; cases (show none = some r from hm)
  | succ n krec47 =>
    intro σ x1 x2 x3 x4 hC hv_x1 hm
    have hS := hC.1
    rw [Mk_begin_47] at hm
    obtain ⟨g13, hm⟩ := grd_s hm
    obtain ⟨g14, hm⟩ := grd_s hm
    obtain ⟨g15, hm⟩ := grd_s hm
    by_cases c16 : x4 < (fl σ 209 x1)
    · have hm := ite_t c16 hm
      obtain ⟨g17, hm⟩ := grd_s hm
      by_cases c18 : (x2 + x4) < 512
      · have hm := ite_t c18 hm
        obtain ⟨g19, hm⟩ := grd_s hm
        obtain ⟨g20, hm⟩ := grd_s hm
        obtain ⟨r21, e22, hm⟩ := obd_s hm
        have q23 := (km_Mk_operand hC e22)
        have hC24 : Cl π r21.1 := q23.1
        obtain ⟨g25, hm⟩ := grd_s hm
        obtain ⟨g26, hm⟩ := grd_s hm
        exact krec47 (cl_seR hC24 _ _ q23.2) hv_x1 hm
      · have hm := ite_f c18 hm
        exact km_Mk_begin_92 hC hv_x1 hm
    · have hm := ite_f c16 hm
      exact km_Mk_begin_92 hC hv_x1 hm
set_option maxHeartbeats 8000000 in
set_option maxRecDepth 100000 in
theorem km_Mk_begin {N : Nat}   {π : Sh} {σ : St} {x1 : Int} {x2 : Int} {x3 : Int} {r : St} (hC : Cl π σ) (hv_x1 : x1 < nn π) (hm : Mk_begin N π σ x1 x2 x3 = some r) : Cl π r := by
  have hS := hC.1
  rw [Mk_begin] at hm
  obtain ⟨g1, hm⟩ := grd_s hm
  by_cases c2 : (fl σ 85 3) < 12
  · have hm := ite_t c2 hm
    obtain ⟨g3, hm⟩ := grd_s hm
    by_cases c4 : (fl σ 87 3) < 200
    · have hm := ite_t c4 hm
      exact km_Mk_begin_47 N (cl_sfI hC (f := 87) rfl _ _) hv_x1 hm
    · have hm := ite_f c4 hm
      obtain ⟨r5, e6, hm⟩ := obd_s hm
      have q7 := (km_Mk_fail hC e6)
      have hC8 : Cl π r5 := q7
      cases hm
      exact hC8
  · have hm := ite_f c2 hm
    obtain ⟨r9, e10, hm⟩ := obd_s hm
    have q11 := (km_Mk_fail hC e10)
    have hC12 : Cl π r9 := q11
    cases hm
    exact hC12
set_option maxHeartbeats 8000000 in
set_option maxRecDepth 100000 in
theorem km_Pt_excess {N : Nat}   {π : Sh} {σ : St} {x0 : Int} {r : St × Int} (hC : Cl π σ) (hv_x0 : x0 < nn π) (hm : Pt_excess N π σ x0 = some r) : Cl π r.1 := by
  have hS := hC.1
  rw [Pt_excess] at hm
  obtain ⟨g1, hm⟩ := grd_s hm
  obtain ⟨g2, hm⟩ := grd_s hm
  by_cases c3 : (1000000 : Int) < (fl σ 102 x0)
  · have hm := ite_t c3 hm
    cases hm
    exact hC
  · have hm := ite_f c3 hm
    obtain ⟨g4, hm⟩ := grd_s hm
    by_cases c5 : (400 : Int) < (fl σ 103 x0)
    · have hm := ite_t c5 hm
      cases hm
      exact hC
    · have hm := ite_f c5 hm
      obtain ⟨g6, hm⟩ := grd_s hm
      by_cases c7 : (64 : Int) < (fl σ 104 x0)
      · have hm := ite_t c7 hm
        cases hm
        exact hC
      · have hm := ite_f c7 hm
        obtain ⟨g8, hm⟩ := grd_s hm
        by_cases c9 : (50000 : Int) < (fl σ 105 x0)
        · have hm := ite_t c9 hm
          cases hm
          exact hC
        · have hm := ite_f c9 hm
          obtain ⟨g10, hm⟩ := grd_s hm
          by_cases c11 : (60 : Int) < (fl σ 106 x0)
          · have hm := ite_t c11 hm
            cases hm
            exact hC
          · have hm := ite_f c11 hm
            cases hm
            exact hC
set_option maxHeartbeats 8000000 in
set_option maxRecDepth 100000 in
theorem km_Pt_init {N : Nat}   {π : Sh} {σ : St} {x0 : Int} {x1 : Int} {x2 : Int} {r : St} (hC : Cl π σ) (hv_x0 : x0 < nn π) (hv_x1 : x1 < nn π) (hv_x2 : x2 < nn π) (hm : Pt_init N π σ x0 x1 x2 = some r) : Cl π r := by
  have hS := hC.1
  rw [Pt_init] at hm
  obtain ⟨g1, hm⟩ := grd_s hm
  cases hm
  exact (cl_sfR (cl_sfR (cl_sfI (cl_sfI (cl_sfI (cl_sfI (cl_sfI hC (f := 102) rfl _ _) (f := 103) rfl _ _) (f := 104) rfl _ _) (f := 105) rfl _ _) (f := 106) rfl _ _) _ _ hv_x1) _ _ hv_x2)
set_option maxHeartbeats 8000000 in
set_option maxRecDepth 100000 in
theorem km_Pt_bounds {N : Nat}   {π : Sh} {σ : St} {x0 : Int} {x1 : Int} {x3 : Int} {x5 : Int} {x7 : Int} {r : St} (hC : Cl π σ) (hv_x0 : x0 < nn π) (hm : Pt_bounds N π σ x0 x1 x3 x5 x7 = some r) : Cl π r := by
  have hS := hC.1
  rw [Pt_bounds] at hm
  obtain ⟨g1, hm⟩ := grd_s hm
  cases hm
  exact (cl_sfI (cl_sfI (cl_sfI (cl_sfI hC (f := 102) rfl _ _) (f := 103) rfl _ _) (f := 104) rfl _ _) (f := 105) rfl _ _)
set_option maxHeartbeats 8000000 in
set_option maxRecDepth 100000 in
theorem km_Pt_repeatsOf_22 {N : Nat}   {π : Sh} {r : St × Int}  {σ : St}  (hC : Cl π σ)  (hm : Pt_repeatsOf_22 N π σ  = some r) : Cl π r.1 := by
  have hS := hC.1
  rw [Pt_repeatsOf_22] at hm
  cases hm
  exact hC
set_option maxHeartbeats 8000000 in
set_option maxRecDepth 100000 in
theorem km_Pt_repeatsOf {N : Nat}   {π : Sh} {σ : St} {x0 : Int} {x1 : Int} {r : St × Int} (hC : Cl π σ) (hv_x0 : x0 < nn π) (hm : Pt_repeatsOf N π σ x0 x1 = some r) : Cl π r.1 := by
  have hS := hC.1
  rw [Pt_repeatsOf] at hm
  obtain ⟨g1, hm⟩ := grd_s hm
  obtain ⟨g2, hm⟩ := grd_s hm
  by_cases c3 : (fl σ 212 (fl σ 100 x0)) < 0
  · have hm := ite_t c3 hm
    exact km_Pt_repeatsOf_22 hC hm
  · have hm := ite_f c3 hm
    obtain ⟨g4, hm⟩ := grd_s hm
    obtain ⟨g5, hm⟩ := grd_s hm
    obtain ⟨g6, hm⟩ := grd_s hm
    obtain ⟨g7, hm⟩ := grd_s hm
    by_cases c8 : x1 < (ln π (fl σ 212 (fl σ 100 x0)))
    · have hm := ite_t c8 hm
      obtain ⟨g9, hm⟩ := grd_s hm
      obtain ⟨g10, hm⟩ := grd_s hm
      cases hm
      exact hC
    · have hm := ite_f c8 hm
      exact km_Pt_repeatsOf_22 hC hm
set_option maxHeartbeats 8000000 in
set_option maxRecDepth 100000 in
theorem km_Pt_crowdOfAll_4 {N : Nat}   {π : Sh} {r : St × Int}  (n : Nat) : ∀ {σ : St} {x0 : Int} {x1 : Int} {x3 : Int}, Cl π σ → x0 < nn π → Pt_crowdOfAll_4 N π n σ x0 x1 x3 = some r → Cl π r.1 := by
  induction n with
  | zero => intro σ x0 x1 x3 hC hv_x0 hm; cases (show none = some r from hm)
  | succ n krec4 =>
    intro σ x0 x1 x3 hC hv_x0 hm
    have hS := hC.1
    rw [Pt_crowdOfAll_4] at hm
    obtain ⟨g1, hm⟩ := grd_s hm
    obtain ⟨g2, hm⟩ := grd_s hm
    obtain ⟨g3, hm⟩ := grd_s hm
    obtain ⟨g4, hm⟩ := grd_s hm
    obtain ⟨g5, hm⟩ := grd_s hm
    by_cases c6 : x3 < (ln π (fl σ 101 x0))
    · have hm := ite_t c6 hm
      obtain ⟨r7, e8, hm⟩ := obd_s hm
      have q9 := (km_Pt_repeatsOf hC hv_x0 e8)
      have hC10 : Cl π r7.1 := q9
      obtain ⟨g11, hm⟩ := grd_s hm
      obtain ⟨g12, hm⟩ := grd_s hm
      obtain ⟨g13, hm⟩ := grd_s hm
      obtain ⟨v14, e15, hm⟩ := bnd_s hm
      exact krec4 hC10 hv_x0 hm
    · have hm := ite_f c6 hm
      cases hm
      exact hC
set_option maxHeartbeats 8000000 in
set_option maxRecDepth 100000 in
theorem km_Pt_crowdOfAll {N : Nat}   {π : Sh} {σ : St} {x0 : Int} {r : St × Int} (hC : Cl π σ) (hv_x0 : x0 < nn π) (hm : Pt_crowdOfAll N π σ x0 = some r) : Cl π r.1 := by
  have hS := hC.1
  rw [Pt_crowdOfAll] at hm
  exact km_Pt_crowdOfAll_4 N hC hv_x0 hm

set_option maxHeartbeats 8000000 in
set_option maxRecDepth 100000 in
theorem km_Pt_lcmOfAll_4 {N : Nat}   {π : Sh} {r : St × Int}  (n : Nat) : ∀ {σ : St} {x0 : Int} {x1 : Int} {x3 : Int}, Cl π σ → x0 < nn π → Pt_lcmOfAll_4 N π n σ x0 x1 x3 = some r → Cl π r.1 := by
  induction n with
  | zero => intro σ x0 x1 x3 hC hv_x0 hm; cases (show none = some r from hm)
  | succ n krec4 =>
    intro σ x0 x1 x3 hC hv_x0 hm
    have hS := hC.1
    rw [Pt_lcmOfAll_4] at hm
    obtain ⟨g1, hm⟩ := grd_s hm
    obtain ⟨g2, hm⟩ := grd_s hm
    obtain ⟨g3, hm⟩ := grd_s hm
    obtain ⟨g4, hm⟩ := grd_s hm
    obtain ⟨g5, hm⟩ := grd_s hm
    by_cases c6 : x3 < (ln π (fl σ 101 x0))
    · have hm := ite_t c6 hm
      obtain ⟨g7, hm⟩ := grd_s hm
      by_cases c8 : (1000000 : Int) < x1
      · have hm := ite_t c8 hm
        cases hm
        exact hC
      · have hm := ite_f c8 hm
        obtain ⟨g9, hm⟩ := grd_s hm
        obtain ⟨g10, hm⟩ := grd_s hm
        obtain ⟨r11, e12, hm⟩ := obd_s hm
        exact krec4 hC hv_x0 hm
    · have hm := ite_f c6 hm
      cases hm
      exact hC
set_option maxHeartbeats 8000000 in
set_option maxRecDepth 100000 in
theorem km_Pt_lcmOfAll {N : Nat}   {π : Sh} {σ : St} {x0 : Int} {r : St × Int} (hC : Cl π σ) (hv_x0 : x0 < nn π) (hm : Pt_lcmOfAll N π σ x0 = some r) : Cl π r.1 := by
  have hS := hC.1
  rw [Pt_lcmOfAll] at hm
  exact km_Pt_lcmOfAll_4 N hC hv_x0 hm
set_option maxHeartbeats 8000000 in
set_option maxRecDepth 100000 in
theorem km_Pt_measureMeeting {N : Nat}   {π : Sh} {σ : St} {x0 : Int} {x1 : Int} {x2 : Int} {r : St} (hC : Cl π σ) (hv_x0 : x0 < nn π) (hv_x1 : x1 < nn π) (hv_x2 : x2 < nn π) (hm : Pt_measureMeeting N π σ x0 x1 x2 = some r) : Cl π r := by
  have hS := hC.1
  rw [Pt_measureMeeting] at hm
  obtain ⟨g1, hm⟩ := grd_s hm
  obtain ⟨g2, hm⟩ := grd_s hm
  obtain ⟨r3, e4, hm⟩ := obd_s hm
  have q5 := (km_Pt_bounds hC hv_x0 e4)
  obtain ⟨g6, hm⟩ := grd_s hm
  have hC7 : Cl π r3 := q5
  cases hm
  exact hC7
set_option maxHeartbeats 8000000 in
set_option maxRecDepth 100000 in
theorem km_Pt_spanLower {N : Nat}   {π : Sh} {σ : St} {x0 : Int} {r : St × Int} (hC : Cl π σ) (hv_x0 : x0 < nn π) (hm : Pt_spanLower N π σ x0 = some r) : Cl π r.1 := by
  have hS := hC.1
  rw [Pt_spanLower] at hm
  obtain ⟨g1, hm⟩ := grd_s hm
  obtain ⟨g2, hm⟩ := grd_s hm
  obtain ⟨g3, hm⟩ := grd_s hm
  obtain ⟨g4, hm⟩ := grd_s hm
  obtain ⟨g5, hm⟩ := grd_s hm
  obtain ⟨g6, hm⟩ := grd_s hm
  obtain ⟨v7, e8, hm⟩ := bnd_s hm
  obtain ⟨v9, e10, hm⟩ := bnd_s hm
  obtain ⟨r11, e12, hm⟩ := obd_s hm
  obtain ⟨g13, hm⟩ := grd_s hm
  obtain ⟨g14, hm⟩ := grd_s hm
  obtain ⟨g15, hm⟩ := grd_s hm
  cases hm
  exact hC


set_option maxHeartbeats 8000000 in
set_option maxRecDepth 100000 in
theorem km_Pt_measureOfOne_162 {N : Nat}   {π : Sh} {r : St}  {σ : St} {x0 : Int} {x1 : Int} {x2 : Int} {x4 : Int} {s0 : Int} {s1 : Int} (hC : Cl π σ) (hv_x0 : x0 < nn π) (hv_x1 : x1 < nn π) (hm : Pt_measureOfOne_162 N π σ x0 x1 x2 x4 s0 s1 = some r) : Cl π r := by
  have hS := hC.1
  rw [Pt_measureOfOne_162] at hm
  obtain ⟨g129, hm⟩ := grd_s hm
  obtain ⟨v130, e131, hm⟩ := bnd_s hm
  obtain ⟨g132, hm⟩ := grd_s hm
  obtain ⟨r133, e134, hm⟩ := obd_s hm
  obtain ⟨r135, e136, hm⟩ := obd_s hm
  have q137 := (km_Pt_bounds hC hv_x0 e136)
  obtain ⟨g138, hm⟩ := grd_s hm
  have hC139 : Cl π r135 := q137
  cases hm
  exact hC139
set_option maxHeartbeats 8000000 in
set_option maxRecDepth 100000 in
theorem km_Pt_measureOfOne_220 {N : Nat}   {π : Sh} {r : St}  {σ : St} {x0 : Int} {x1 : Int} {x4 : Int} {s0 : Int} (hC : Cl π σ) (hv_x0 : x0 < nn π) (hv_x1 : x1 < nn π) (hm : Pt_measureOfOne_220 N π σ x0 x1 x4 s0 = some r) : Cl π r := by
  have hS := hC.1
  rw [Pt_measureOfOne_220] at hm
  obtain ⟨g140, hm⟩ := grd_s hm
  obtain ⟨r141, e142, hm⟩ := obd_s hm
  obtain ⟨r143, e144, hm⟩ := obd_s hm
  have q145 := (km_Pt_bounds hC hv_x0 e144)
  obtain ⟨g146, hm⟩ := grd_s hm
  have hC147 : Cl π r143 := q145
  cases hm
  exact hC147
set_option maxHeartbeats 8000000 in
set_option maxRecDepth 100000 in
theorem km_Pt_measureOfOne {N : Nat}   {π : Sh} {σ : St} {x0 : Int} {x1 : Int} {r : St} (hC : Cl π σ) (hv_x0 : x0 < nn π) (hv_x1 : x1 < nn π) (hm : Pt_measureOfOne N π σ x0 x1 = some r) : Cl π r := by
  have hS := hC.1
  rw [Pt_measureOfOne] at hm
  obtain ⟨g1, hm⟩ := grd_s hm
  obtain ⟨g2, hm⟩ := grd_s hm
  obtain ⟨g3, hm⟩ := grd_s hm
  obtain ⟨v4, e5, hm⟩ := bnd_s hm
  obtain ⟨g6, hm⟩ := grd_s hm
  obtain ⟨v7, e8, hm⟩ := bnd_s hm
  obtain ⟨g9, hm⟩ := grd_s hm
  by_cases c10 : (fl σ 200 (fl σ 100 x0)) = 7
  · have hm := ite_t c10 hm
    obtain ⟨g11, hm⟩ := grd_s hm
    obtain ⟨r12, e13, hm⟩ := obd_s hm
    have q14 := (km_Pt_bounds hC hv_x0 e13)
    have hC15 : Cl π r12 := q14
    cases hm
    exact hC15
  have hm := ite_f c10 hm
  by_cases c16 : (fl σ 200 (fl σ 100 x0)) = 8
  · have hm := ite_t c16 hm
    obtain ⟨g17, hm⟩ := grd_s hm
    obtain ⟨r18, e19, hm⟩ := obd_s hm
    have q20 := (km_Pt_bounds hC hv_x0 e19)
    have hC21 : Cl π r18 := q20
    cases hm
    exact hC21
  have hm := ite_f c16 hm
  by_cases c22 : (fl σ 200 (fl σ 100 x0)) = 9
  · have hm := ite_t c22 hm
    obtain ⟨r23, e24, hm⟩ := obd_s hm
    obtain ⟨g25, hm⟩ := grd_s hm
    by_cases c26 : v7 = 1
    · have hm := ite_t c26 hm
      exact km_Pt_measureOfOne_162 hC hv_x0 hv_x1 hm
    · have hm := ite_f c26 hm
      exact km_Pt_measureOfOne_162 hC hv_x0 hv_x1 hm
  have hm := ite_f c22 hm
  by_cases c27 : (fl σ 200 (fl σ 100 x0)) = 10
  · have hm := ite_t c27 hm
    obtain ⟨g28, hm⟩ := grd_s hm
    by_cases c29 : v7 = 1
    · have hm := ite_t c29 hm
      exact km_Pt_measureOfOne_220 hC hv_x0 hv_x1 hm
    · have hm := ite_f c29 hm
      exact km_Pt_measureOfOne_220 hC hv_x0 hv_x1 hm
  have hm := ite_f c27 hm
  by_cases c30 : (fl σ 200 (fl σ 100 x0)) = 11
  · have hm := ite_t c30 hm
    obtain ⟨g31, hm⟩ := grd_s hm
    obtain ⟨r32, e33, hm⟩ := obd_s hm
    have q34 := (km_Pt_bounds hC hv_x0 e33)
    have hC35 : Cl π r32 := q34
    cases hm
    exact hC35
  have hm := ite_f c30 hm
  by_cases c36 : (fl σ 200 (fl σ 100 x0)) = 12
  · have hm := ite_t c36 hm
    obtain ⟨g37, hm⟩ := grd_s hm
    obtain ⟨r38, e39, hm⟩ := obd_s hm
    have q40 := (km_Pt_bounds hC hv_x0 e39)
    have hC41 : Cl π r38 := q40
    cases hm
    exact hC41
  have hm := ite_f c36 hm
  by_cases c42 : (fl σ 200 (fl σ 100 x0)) = 13
  · have hm := ite_t c42 hm
    obtain ⟨g43, hm⟩ := grd_s hm
    obtain ⟨r44, e45, hm⟩ := obd_s hm
    have q46 := (km_Pt_bounds hC hv_x0 e45)
    have hC47 : Cl π r44 := q46
    cases hm
    exact hC47
  have hm := ite_f c42 hm
  by_cases c48 : (fl σ 200 (fl σ 100 x0)) = 14
  · have hm := ite_t c48 hm
    obtain ⟨g49, hm⟩ := grd_s hm
    obtain ⟨r50, e51, hm⟩ := obd_s hm
    obtain ⟨r52, e53, hm⟩ := obd_s hm
    have q54 := (km_Pt_bounds hC hv_x0 e53)
    have hC55 : Cl π r52 := q54
    cases hm
    exact hC55
  have hm := ite_f c48 hm
  by_cases c56 : (fl σ 200 (fl σ 100 x0)) = 15
  · have hm := ite_t c56 hm
    obtain ⟨g57, hm⟩ := grd_s hm
    obtain ⟨v58, e59, hm⟩ := bnd_s hm
    obtain ⟨r60, e61, hm⟩ := obd_s hm
    have q62 := (km_Pt_bounds hC hv_x0 e61)
    have hC63 : Cl π r60 := q62
    cases hm
    exact hC63
  have hm := ite_f c56 hm
  by_cases c64 : (fl σ 200 (fl σ 100 x0)) = 16
  · have hm := ite_t c64 hm
    obtain ⟨g65, hm⟩ := grd_s hm
    obtain ⟨r66, e67, hm⟩ := obd_s hm
    have q68 := (km_Pt_bounds hC hv_x0 e67)
    have hC69 : Cl π r66 := q68
    cases hm
    exact hC69
  have hm := ite_f c64 hm
  by_cases c70 : (fl σ 200 (fl σ 100 x0)) = 17
  · have hm := ite_t c70 hm
    obtain ⟨g71, hm⟩ := grd_s hm
    obtain ⟨r72, e73, hm⟩ := obd_s hm
    have q74 := (km_Pt_bounds hC hv_x0 e73)
    have hC75 : Cl π r72 := q74
    cases hm
    exact hC75
  have hm := ite_f c70 hm
  by_cases c76 : (fl σ 200 (fl σ 100 x0)) = 18
  · have hm := ite_t c76 hm
    obtain ⟨g77, hm⟩ := grd_s hm
    obtain ⟨r78, e79, hm⟩ := obd_s hm
    have q80 := (km_Pt_bounds hC hv_x0 e79)
    have hC81 : Cl π r78 := q80
    cases hm
    exact hC81
  have hm := ite_f c76 hm
  by_cases c82 : (fl σ 200 (fl σ 100 x0)) = 19
  · have hm := ite_t c82 hm
    obtain ⟨g83, hm⟩ := grd_s hm
    obtain ⟨r84, e85, hm⟩ := obd_s hm
    have q86 := (km_Pt_bounds hC hv_x0 e85)
    have hC87 : Cl π r84 := q86
    cases hm
    exact hC87
  have hm := ite_f c82 hm
  by_cases c88 : (fl σ 200 (fl σ 100 x0)) = 20
  · have hm := ite_t c88 hm
    obtain ⟨g89, hm⟩ := grd_s hm
    obtain ⟨r90, e91, hm⟩ := obd_s hm
    have q92 := (km_Pt_bounds hC hv_x0 e91)
    have hC93 : Cl π r90 := q92
    cases hm
    exact hC93
  have hm := ite_f c88 hm
  by_cases c94 : (fl σ 200 (fl σ 100 x0)) = 21
  · have hm := ite_t c94 hm
    obtain ⟨g95, hm⟩ := grd_s hm
    obtain ⟨r96, e97, hm⟩ := obd_s hm
    have q98 := (km_Pt_bounds hC hv_x0 e97)
    have hC99 : Cl π r96 := q98
    cases hm
    exact hC99
  have hm := ite_f c94 hm
  by_cases c100 : (fl σ 200 (fl σ 100 x0)) = 22
  · have hm := ite_t c100 hm
    obtain ⟨g101, hm⟩ := grd_s hm
    obtain ⟨r102, e103, hm⟩ := obd_s hm
    have q104 := (km_Pt_bounds hC hv_x0 e103)
    have hC105 : Cl π r102 := q104
    cases hm
    exact hC105
  have hm := ite_f c100 hm
  by_cases c106 : (fl σ 200 (fl σ 100 x0)) = 23
  · have hm := ite_t c106 hm
    obtain ⟨g107, hm⟩ := grd_s hm
    obtain ⟨r108, e109, hm⟩ := obd_s hm
    have q110 := (km_Pt_bounds hC hv_x0 e109)
    have hC111 : Cl π r108 := q110
    cases hm
    exact hC111
  have hm := ite_f c106 hm
  by_cases c112 : (fl σ 200 (fl σ 100 x0)) = 24
  · have hm := ite_t c112 hm
    obtain ⟨r113, e114, hm⟩ := obd_s hm
    have q115 := (km_Pt_spanLower hC hv_x0 e114)
    have hC116 : Cl π r113.1 := q115
    obtain ⟨g117, hm⟩ := grd_s hm
    obtain ⟨r118, e119, hm⟩ := obd_s hm
    obtain ⟨r120, e121, hm⟩ := obd_s hm
    have q122 := (km_Pt_bounds hC116 hv_x0 e121)
    have hC123 : Cl π r120 := q122
    cases hm
    exact hC123
  have hm := ite_f c112 hm
  obtain ⟨g124, hm⟩ := grd_s hm
  obtain ⟨r125, e126, hm⟩ := obd_s hm
  have q127 := (km_Pt_bounds hC hv_x0 e126)
  have hC128 : Cl π r125 := q127
  cases hm
  exact hC128
set_option maxHeartbeats 8000000 in
set_option maxRecDepth 100000 in
theorem km_Pt_mostCrowd_4 {N : Nat}   {π : Sh} {r : St × Int}  (n : Nat) : ∀ {σ : St} {x0 : Int} {x1 : Int} {x3 : Int}, Cl π σ → x0 < nn π → Pt_mostCrowd_4 N π n σ x0 x1 x3 = some r → Cl π r.1 := by
  induction n with
  | zero => intro σ x0 x1 x3 hC hv_x0 hm; cases (show none = some r from hm)
  | succ n krec4 =>
    intro σ x0 x1 x3 hC hv_x0 hm
    have hS := hC.1
    rw [Pt_mostCrowd_4] at hm
    obtain ⟨g1, hm⟩ := grd_s hm
    obtain ⟨g2, hm⟩ := grd_s hm
    obtain ⟨g3, hm⟩ := grd_s hm
    obtain ⟨g4, hm⟩ := grd_s hm
    obtain ⟨g5, hm⟩ := grd_s hm
    by_cases c6 : x3 < (ln π (fl σ 101 x0))
    · have hm := ite_t c6 hm
      obtain ⟨g7, hm⟩ := grd_s hm
      obtain ⟨g8, hm⟩ := grd_s hm
      obtain ⟨g9, hm⟩ := grd_s hm
      obtain ⟨g10, hm⟩ := grd_s hm
      obtain ⟨v11, e12, hm⟩ := bnd_s hm
      exact krec4 hC hv_x0 hm
    · have hm := ite_f c6 hm
      cases hm
      exact hC
set_option maxHeartbeats 8000000 in
set_option maxRecDepth 100000 in
theorem km_Pt_mostCrowd {N : Nat}   {π : Sh} {σ : St} {x0 : Int} {r : St × Int} (hC : Cl π σ) (hv_x0 : x0 < nn π) (hm : Pt_mostCrowd N π σ x0 = some r) : Cl π r.1 := by
  have hS := hC.1
  rw [Pt_mostCrowd] at hm
  exact km_Pt_mostCrowd_4 N hC hv_x0 hm
set_option maxHeartbeats 8000000 in
set_option maxRecDepth 100000 in
theorem km_Pt_mostReach_4 {N : Nat}   {π : Sh} {r : St × Int}  (n : Nat) : ∀ {σ : St} {x0 : Int} {x1 : Int} {x3 : Int}, Cl π σ → x0 < nn π → Pt_mostReach_4 N π n σ x0 x1 x3 = some r → Cl π r.1 := by
  induction n with
  | zero => intro σ x0 x1 x3 hC hv_x0 hm; cases (show none = some r from hm)
  | succ n krec4 =>
    intro σ x0 x1 x3 hC hv_x0 hm
    have hS := hC.1
    rw [Pt_mostReach_4] at hm
    obtain ⟨g1, hm⟩ := grd_s hm
    obtain ⟨g2, hm⟩ := grd_s hm
    obtain ⟨g3, hm⟩ := grd_s hm
    obtain ⟨g4, hm⟩ := grd_s hm
    obtain ⟨g5, hm⟩ := grd_s hm
    by_cases c6 : x3 < (ln π (fl σ 101 x0))
    · have hm := ite_t c6 hm
      obtain ⟨g7, hm⟩ := grd_s hm
      obtain ⟨g8, hm⟩ := grd_s hm
      obtain ⟨g9, hm⟩ := grd_s hm
      obtain ⟨g10, hm⟩ := grd_s hm
      obtain ⟨v11, e12, hm⟩ := bnd_s hm
      exact krec4 hC hv_x0 hm
    · have hm := ite_f c6 hm
      cases hm
      exact hC
set_option maxHeartbeats 8000000 in
set_option maxRecDepth 100000 in
theorem km_Pt_mostReach {N : Nat}   {π : Sh} {σ : St} {x0 : Int} {r : St × Int} (hC : Cl π σ) (hv_x0 : x0 < nn π) (hm : Pt_mostReach N π σ x0 = some r) : Cl π r.1 := by
  have hS := hC.1
  rw [Pt_mostReach] at hm
  exact km_Pt_mostReach_4 N hC hv_x0 hm
set_option maxHeartbeats 8000000 in
set_option maxRecDepth 100000 in
theorem km_Pt_mostWork_4 {N : Nat}   {π : Sh} {r : St × Int}  (n : Nat) : ∀ {σ : St} {x0 : Int} {x1 : Int} {x3 : Int}, Cl π σ → x0 < nn π → Pt_mostWork_4 N π n σ x0 x1 x3 = some r → Cl π r.1 := by
  induction n with
  | zero => intro σ x0 x1 x3 hC hv_x0 hm; cases (show none = some r from hm)
  | succ n krec4 =>
    intro σ x0 x1 x3 hC hv_x0 hm
    have hS := hC.1
    rw [Pt_mostWork_4] at hm
    obtain ⟨g1, hm⟩ := grd_s hm
    obtain ⟨g2, hm⟩ := grd_s hm
    obtain ⟨g3, hm⟩ := grd_s hm
    obtain ⟨g4, hm⟩ := grd_s hm
    obtain ⟨g5, hm⟩ := grd_s hm
    by_cases c6 : x3 < (ln π (fl σ 101 x0))
    · have hm := ite_t c6 hm
      obtain ⟨g7, hm⟩ := grd_s hm
      obtain ⟨g8, hm⟩ := grd_s hm
      obtain ⟨g9, hm⟩ := grd_s hm
      obtain ⟨g10, hm⟩ := grd_s hm
      obtain ⟨v11, e12, hm⟩ := bnd_s hm
      exact krec4 hC hv_x0 hm
    · have hm := ite_f c6 hm
      cases hm
      exact hC
set_option maxHeartbeats 8000000 in
set_option maxRecDepth 100000 in
theorem km_Pt_mostWork {N : Nat}   {π : Sh} {σ : St} {x0 : Int} {r : St × Int} (hC : Cl π σ) (hv_x0 : x0 < nn π) (hm : Pt_mostWork N π σ x0 = some r) : Cl π r.1 := by
  have hS := hC.1
  rw [Pt_mostWork] at hm
  exact km_Pt_mostWork_4 N hC hv_x0 hm
set_option maxHeartbeats 8000000 in
set_option maxRecDepth 100000 in
theorem km_Pt_workOfAll_4 {N : Nat}   {π : Sh} {r : St × Int}  (n : Nat) : ∀ {σ : St} {x0 : Int} {x1 : Int} {x3 : Int}, Cl π σ → x0 < nn π → Pt_workOfAll_4 N π n σ x0 x1 x3 = some r → Cl π r.1 := by
  induction n with
  | zero => intro σ x0 x1 x3 hC hv_x0 hm; cases (show none = some r from hm)
  | succ n krec4 =>
    intro σ x0 x1 x3 hC hv_x0 hm
    have hS := hC.1
    rw [Pt_workOfAll_4] at hm
    obtain ⟨g1, hm⟩ := grd_s hm
    obtain ⟨g2, hm⟩ := grd_s hm
    obtain ⟨g3, hm⟩ := grd_s hm
    obtain ⟨g4, hm⟩ := grd_s hm
    obtain ⟨g5, hm⟩ := grd_s hm
    by_cases c6 : x3 < (ln π (fl σ 101 x0))
    · have hm := ite_t c6 hm
      obtain ⟨r7, e8, hm⟩ := obd_s hm
      have q9 := (km_Pt_repeatsOf hC hv_x0 e8)
      have hC10 : Cl π r7.1 := q9
      obtain ⟨g11, hm⟩ := grd_s hm
      obtain ⟨g12, hm⟩ := grd_s hm
      obtain ⟨g13, hm⟩ := grd_s hm
      obtain ⟨v14, e15, hm⟩ := bnd_s hm
      exact krec4 hC10 hv_x0 hm
    · have hm := ite_f c6 hm
      cases hm
      exact hC
set_option maxHeartbeats 8000000 in
set_option maxRecDepth 100000 in
theorem km_Pt_workOfAll {N : Nat}   {π : Sh} {σ : St} {x0 : Int} {r : St × Int} (hC : Cl π σ) (hv_x0 : x0 < nn π) (hm : Pt_workOfAll N π σ x0 = some r) : Cl π r.1 := by
  have hS := hC.1
  rw [Pt_workOfAll] at hm
  exact km_Pt_workOfAll_4 N hC hv_x0 hm
set_option maxHeartbeats 8000000 in
set_option maxRecDepth 100000 in
theorem km_Pt_measure_2 {N : Nat}   {π : Sh} {r : St}  (n : Nat) : ∀ {σ : St} {x0 : Int} {x1 : Int}, Cl π σ → x0 < nn π → Pt_measure_2 N π n σ x0 x1 = some r → Cl π r := by
  induction n with
  | zero => intro σ x0 x1 hC hv_x0 hm; cases (show none = some r from hm)
  | succ n krec2 =>
    intro σ x0 x1 hC hv_x0 hm
    have hS := hC.1
    rw [Pt_measure_2] at hm
    obtain ⟨g1, hm⟩ := grd_s hm
    obtain ⟨g2, hm⟩ := grd_s hm
    obtain ⟨g3, hm⟩ := grd_s hm
    obtain ⟨g4, hm⟩ := grd_s hm
    obtain ⟨g5, hm⟩ := grd_s hm
    by_cases c6 : x1 < (ln π (fl σ 101 x0))
    · have hm := ite_t c6 hm
      obtain ⟨g266, hm⟩ := grd_s hm
      obtain ⟨g267, hm⟩ := grd_s hm
      obtain ⟨g268, hm⟩ := grd_s hm
      obtain ⟨g269, hm⟩ := grd_s hm
      exact krec2 (cl_sfI hC (f := 106) rfl _ _) hv_x0 hm
    · have hm := ite_f c6 hm
      obtain ⟨g7, hm⟩ := grd_s hm
      obtain ⟨g8, hm⟩ := grd_s hm
      by_cases c9 : (fl σ 200 (fl σ 100 x0)) = 1
      · have hm := ite_t c9 hm
        obtain ⟨r10, e11, hm⟩ := obd_s hm
        have q12 := (km_Pt_bounds hC hv_x0 e11)
        have hC13 : Cl π r10 := q12
        cases hm
        exact hC13
      have hm := ite_f c9 hm
      by_cases c14 : (fl σ 200 (fl σ 100 x0)) = 2
      · have hm := ite_t c14 hm
        obtain ⟨r15, e16, hm⟩ := obd_s hm
        have q17 := (km_Pt_bounds hC hv_x0 e16)
        have hC18 : Cl π r15 := q17
        cases hm
        exact hC18
      have hm := ite_f c14 hm
      by_cases c19 : (fl σ 200 (fl σ 100 x0)) = 3
      · have hm := ite_t c19 hm
        obtain ⟨r20, e21, hm⟩ := obd_s hm
        have q22 := (km_Pt_bounds hC hv_x0 e21)
        have hC23 : Cl π r20 := q22
        cases hm
        exact hC23
      have hm := ite_f c19 hm
      by_cases c24 : (fl σ 200 (fl σ 100 x0)) = 4
      · have hm := ite_t c24 hm
        obtain ⟨g25, hm⟩ := grd_s hm
        obtain ⟨r26, e27, hm⟩ := obd_s hm
        have q28 := (km_Pt_lcmOfAll hC hv_x0 e27)
        have hC29 : Cl π r26.1 := q28
        obtain ⟨r30, e31, hm⟩ := obd_s hm
        have q32 := (km_Pt_crowdOfAll hC29 hv_x0 e31)
        have hC33 : Cl π r30.1 := q32
        obtain ⟨r34, e35, hm⟩ := obd_s hm
        have q36 := (km_Pt_mostReach hC33 hv_x0 e35)
        have hC37 : Cl π r34.1 := q36
        obtain ⟨r38, e39, hm⟩ := obd_s hm
        have q40 := (km_Pt_workOfAll hC37 hv_x0 e39)
        have hC41 : Cl π r38.1 := q40
        obtain ⟨r42, e43, hm⟩ := obd_s hm
        have q44 := (km_Pt_bounds hC41 hv_x0 e43)
        have hC45 : Cl π r42 := q44
        cases hm
        exact hC45
      have hm := ite_f c24 hm
      by_cases c46 : (fl σ 200 (fl σ 100 x0)) = 5
      · have hm := ite_t c46 hm
        obtain ⟨r47, e48, hm⟩ := obd_s hm
        have q49 := (km_Pt_lcmOfAll hC hv_x0 e48)
        have hC50 : Cl π r47.1 := q49
        obtain ⟨r51, e52, hm⟩ := obd_s hm
        have q53 := (km_Pt_mostCrowd hC50 hv_x0 e52)
        have hC54 : Cl π r51.1 := q53
        obtain ⟨r55, e56, hm⟩ := obd_s hm
        have q57 := (km_Pt_mostReach hC54 hv_x0 e56)
        have hC58 : Cl π r55.1 := q57
        obtain ⟨r59, e60, hm⟩ := obd_s hm
        have q61 := (km_Pt_mostWork hC58 hv_x0 e60)
        have hC62 : Cl π r59.1 := q61
        obtain ⟨r63, e64, hm⟩ := obd_s hm
        have q65 := (km_Pt_bounds hC62 hv_x0 e64)
        have hC66 : Cl π r63 := q65
        cases hm
        exact hC66
      have hm := ite_f c46 hm
      by_cases c67 : (fl σ 200 (fl σ 100 x0)) = 6
      · have hm := ite_t c67 hm
        obtain ⟨g68, hm⟩ := grd_s hm
        obtain ⟨r69, e70, hm⟩ := obd_s hm
        have q71 := (km_Pt_lcmOfAll hC hv_x0 e70)
        have hC72 : Cl π r69.1 := q71
        obtain ⟨g73, hm⟩ := grd_s hm
        obtain ⟨g74, hm⟩ := grd_s hm
        obtain ⟨r75, e76, hm⟩ := obd_s hm
        have q77 := (km_Pt_mostCrowd hC72 hv_x0 e76)
        have hC78 : Cl π r75.1 := q77
        obtain ⟨r79, e80, hm⟩ := obd_s hm
        have q81 := (km_Pt_mostReach hC78 hv_x0 e80)
        have hC82 : Cl π r79.1 := q81
        obtain ⟨g83, hm⟩ := grd_s hm
        obtain ⟨g84, hm⟩ := grd_s hm
        obtain ⟨r85, e86, hm⟩ := obd_s hm
        have q87 := (km_Pt_mostWork hC82 hv_x0 e86)
        have hC88 : Cl π r85.1 := q87
        obtain ⟨r89, e90, hm⟩ := obd_s hm
        have q91 := (km_Pt_bounds hC88 hv_x0 e90)
        have hC92 : Cl π r89 := q91
        cases hm
        exact hC92
      have hm := ite_f c67 hm
      by_cases c93 : (fl σ 200 (fl σ 100 x0)) = 7
      · have hm := ite_t c93 hm
        obtain ⟨g94, hm⟩ := grd_s hm
        obtain ⟨r95, e96, hm⟩ := obd_s hm
        have q97 := (km_Pt_measureOfOne hC hv_x0 (cl_el hC g2 (by decide) 0) e96)
        have hC98 : Cl π r95 := q97
        cases hm
        exact hC98
      have hm := ite_f c93 hm
      by_cases c99 : (fl σ 200 (fl σ 100 x0)) = 8
      · have hm := ite_t c99 hm
        obtain ⟨r100, e101, hm⟩ := obd_s hm
        have q102 := (km_Pt_lcmOfAll hC hv_x0 e101)
        have hC103 : Cl π r100.1 := q102
        obtain ⟨r104, e105, hm⟩ := obd_s hm
        have q106 := (km_Pt_crowdOfAll hC103 hv_x0 e105)
        have hC107 : Cl π r104.1 := q106
        obtain ⟨r108, e109, hm⟩ := obd_s hm
        have q110 := (km_Pt_mostReach hC107 hv_x0 e109)
        have hC111 : Cl π r108.1 := q110
        obtain ⟨r112, e113, hm⟩ := obd_s hm
        have q114 := (km_Pt_workOfAll hC111 hv_x0 e113)
        have hC115 : Cl π r112.1 := q114
        obtain ⟨r116, e117, hm⟩ := obd_s hm
        have q118 := (km_Pt_bounds hC115 hv_x0 e117)
        have hC119 : Cl π r116 := q118
        cases hm
        exact hC119
      have hm := ite_f c99 hm
      by_cases c120 : (fl σ 200 (fl σ 100 x0)) = 9
      · have hm := ite_t c120 hm
        obtain ⟨g121, hm⟩ := grd_s hm
        obtain ⟨r122, e123, hm⟩ := obd_s hm
        have q124 := (km_Pt_measureOfOne hC hv_x0 (cl_el hC g2 (by decide) 0) e123)
        have hC125 : Cl π r122 := q124
        cases hm
        exact hC125
      have hm := ite_f c120 hm
      by_cases c126 : (fl σ 200 (fl σ 100 x0)) = 10
      · have hm := ite_t c126 hm
        obtain ⟨g127, hm⟩ := grd_s hm
        obtain ⟨r128, e129, hm⟩ := obd_s hm
        have q130 := (km_Pt_measureOfOne hC hv_x0 (cl_el hC g2 (by decide) 0) e129)
        have hC131 : Cl π r128 := q130
        cases hm
        exact hC131
      have hm := ite_f c126 hm
      by_cases c132 : (fl σ 200 (fl σ 100 x0)) = 11
      · have hm := ite_t c132 hm
        obtain ⟨g133, hm⟩ := grd_s hm
        obtain ⟨r134, e135, hm⟩ := obd_s hm
        have q136 := (km_Pt_measureOfOne hC hv_x0 (cl_el hC g2 (by decide) 0) e135)
        have hC137 : Cl π r134 := q136
        cases hm
        exact hC137
      have hm := ite_f c132 hm
      by_cases c138 : (fl σ 200 (fl σ 100 x0)) = 12
      · have hm := ite_t c138 hm
        obtain ⟨r139, e140, hm⟩ := obd_s hm
        have q141 := (km_Pt_lcmOfAll hC hv_x0 e140)
        have hC142 : Cl π r139.1 := q141
        obtain ⟨r143, e144, hm⟩ := obd_s hm
        have q145 := (km_Pt_mostCrowd hC142 hv_x0 e144)
        have hC146 : Cl π r143.1 := q145
        obtain ⟨r147, e148, hm⟩ := obd_s hm
        have q149 := (km_Pt_mostReach hC146 hv_x0 e148)
        have hC150 : Cl π r147.1 := q149
        obtain ⟨r151, e152, hm⟩ := obd_s hm
        have q153 := (km_Pt_mostWork hC150 hv_x0 e152)
        have hC154 : Cl π r151.1 := q153
        obtain ⟨r155, e156, hm⟩ := obd_s hm
        have q157 := (km_Pt_bounds hC154 hv_x0 e156)
        have hC158 : Cl π r155 := q157
        cases hm
        exact hC158
      have hm := ite_f c138 hm
      by_cases c159 : (fl σ 200 (fl σ 100 x0)) = 13
      · have hm := ite_t c159 hm
        obtain ⟨r160, e161, hm⟩ := obd_s hm
        have q162 := (km_Pt_lcmOfAll hC hv_x0 e161)
        have hC163 : Cl π r160.1 := q162
        obtain ⟨r164, e165, hm⟩ := obd_s hm
        have q166 := (km_Pt_mostCrowd hC163 hv_x0 e165)
        have hC167 : Cl π r164.1 := q166
        obtain ⟨r168, e169, hm⟩ := obd_s hm
        have q170 := (km_Pt_mostReach hC167 hv_x0 e169)
        have hC171 : Cl π r168.1 := q170
        obtain ⟨r172, e173, hm⟩ := obd_s hm
        have q174 := (km_Pt_mostWork hC171 hv_x0 e173)
        have hC175 : Cl π r172.1 := q174
        obtain ⟨r176, e177, hm⟩ := obd_s hm
        have q178 := (km_Pt_bounds hC175 hv_x0 e177)
        have hC179 : Cl π r176 := q178
        cases hm
        exact hC179
      have hm := ite_f c159 hm
      by_cases c180 : (fl σ 200 (fl σ 100 x0)) = 14
      · have hm := ite_t c180 hm
        obtain ⟨g181, hm⟩ := grd_s hm
        obtain ⟨r182, e183, hm⟩ := obd_s hm
        have q184 := (km_Pt_measureOfOne hC hv_x0 (cl_el hC g2 (by decide) 0) e183)
        have hC185 : Cl π r182 := q184
        cases hm
        exact hC185
      have hm := ite_f c180 hm
      by_cases c186 : (fl σ 200 (fl σ 100 x0)) = 15
      · have hm := ite_t c186 hm
        obtain ⟨g187, hm⟩ := grd_s hm
        obtain ⟨r188, e189, hm⟩ := obd_s hm
        have q190 := (km_Pt_measureOfOne hC hv_x0 (cl_el hC g2 (by decide) 0) e189)
        have hC191 : Cl π r188 := q190
        cases hm
        exact hC191
      have hm := ite_f c186 hm
      by_cases c192 : (fl σ 200 (fl σ 100 x0)) = 16
      · have hm := ite_t c192 hm
        obtain ⟨r193, e194, hm⟩ := obd_s hm
        have q195 := (km_Pt_lcmOfAll hC hv_x0 e194)
        have hC196 : Cl π r193.1 := q195
        obtain ⟨r197, e198, hm⟩ := obd_s hm
        have q199 := (km_Pt_crowdOfAll hC196 hv_x0 e198)
        have hC200 : Cl π r197.1 := q199
        obtain ⟨r201, e202, hm⟩ := obd_s hm
        have q203 := (km_Pt_mostReach hC200 hv_x0 e202)
        have hC204 : Cl π r201.1 := q203
        obtain ⟨r205, e206, hm⟩ := obd_s hm
        have q207 := (km_Pt_workOfAll hC204 hv_x0 e206)
        have hC208 : Cl π r205.1 := q207
        obtain ⟨r209, e210, hm⟩ := obd_s hm
        have q211 := (km_Pt_bounds hC208 hv_x0 e210)
        have hC212 : Cl π r209 := q211
        cases hm
        exact hC212
      have hm := ite_f c192 hm
      by_cases c213 : (fl σ 200 (fl σ 100 x0)) = 17
      · have hm := ite_t c213 hm
        obtain ⟨r214, e215, hm⟩ := obd_s hm
        have q216 := (km_Pt_lcmOfAll hC hv_x0 e215)
        have hC217 : Cl π r214.1 := q216
        obtain ⟨r218, e219, hm⟩ := obd_s hm
        have q220 := (km_Pt_crowdOfAll hC217 hv_x0 e219)
        have hC221 : Cl π r218.1 := q220
        obtain ⟨r222, e223, hm⟩ := obd_s hm
        have q224 := (km_Pt_mostReach hC221 hv_x0 e223)
        have hC225 : Cl π r222.1 := q224
        obtain ⟨r226, e227, hm⟩ := obd_s hm
        have q228 := (km_Pt_workOfAll hC225 hv_x0 e227)
        have hC229 : Cl π r226.1 := q228
        obtain ⟨r230, e231, hm⟩ := obd_s hm
        have q232 := (km_Pt_bounds hC229 hv_x0 e231)
        have hC233 : Cl π r230 := q232
        cases hm
        exact hC233
      have hm := ite_f c213 hm
      by_cases c234 : (fl σ 200 (fl σ 100 x0)) = 18
      · have hm := ite_t c234 hm
        obtain ⟨g235, hm⟩ := grd_s hm
        obtain ⟨r236, e237, hm⟩ := obd_s hm
        have q238 := (km_Pt_measureOfOne hC hv_x0 (cl_el hC g2 (by decide) 0) e237)
        have hC239 : Cl π r236 := q238
        cases hm
        exact hC239
      have hm := ite_f c234 hm
      by_cases c240 : (fl σ 200 (fl σ 100 x0)) = 19
      · have hm := ite_t c240 hm
        obtain ⟨g241, hm⟩ := grd_s hm
        obtain ⟨g242, hm⟩ := grd_s hm
        obtain ⟨r243, e244, hm⟩ := obd_s hm
        have q245 := (km_Pt_measureMeeting hC hv_x0 (cl_el hC g2 (by decide) 0) (cl_el hC g2 (by decide) 1) e244)
        have hC246 : Cl π r243 := q245
        cases hm
        exact hC246
      have hm := ite_f c240 hm
      by_cases c247 : (fl σ 200 (fl σ 100 x0)) = 20
      · have hm := ite_t c247 hm
        obtain ⟨g248, hm⟩ := grd_s hm
        obtain ⟨g249, hm⟩ := grd_s hm
        obtain ⟨r250, e251, hm⟩ := obd_s hm
        have q252 := (km_Pt_measureMeeting hC hv_x0 (cl_el hC g2 (by decide) 1) (cl_el hC g2 (by decide) 0) e251)
        have hC253 : Cl π r250 := q252
        cases hm
        exact hC253
      have hm := ite_f c247 hm
      by_cases c254 : (fl σ 200 (fl σ 100 x0)) = 21
      · have hm := ite_t c254 hm
        obtain ⟨g255, hm⟩ := grd_s hm
        obtain ⟨g256, hm⟩ := grd_s hm
        obtain ⟨r257, e258, hm⟩ := obd_s hm
        have q259 := (km_Pt_measureMeeting hC hv_x0 (cl_el hC g2 (by decide) 0) (cl_el hC g2 (by decide) 1) e258)
        have hC260 : Cl π r257 := q259
        cases hm
        exact hC260
      have hm := ite_f c254 hm
      obtain ⟨g261, hm⟩ := grd_s hm
      obtain ⟨r262, e263, hm⟩ := obd_s hm
      have q264 := (km_Pt_measureOfOne hC hv_x0 (cl_el hC g2 (by decide) 0) e263)
      have hC265 : Cl π r262 := q264
      cases hm
      exact hC265
set_option maxHeartbeats 8000000 in
set_option maxRecDepth 100000 in
theorem km_Pt_measure {N : Nat}   {π : Sh} {σ : St} {x0 : Int} {r : St} (hC : Cl π σ) (hv_x0 : x0 < nn π) (hm : Pt_measure N π σ x0 = some r) : Cl π r := by
  have hS := hC.1
  rw [Pt_measure] at hm
  exact km_Pt_measure_2 N hC hv_x0 hm
set_option maxHeartbeats 8000000 in
set_option maxRecDepth 100000 in
theorem km_Sp_besides {N : Nat}   {π : Sh} {σ : St} {x0 : Int} {r : St × Int} (hC : Cl π σ) (hv_x0 : x0 < nn π) (hm : Sp_besides N π σ x0 = some r) : Cl π r.1 := by
  have hS := hC.1
  rw [Sp_besides] at hm
  obtain ⟨g1, hm⟩ := grd_s hm
  obtain ⟨g2, hm⟩ := grd_s hm
  by_cases c3 : (fl σ 206 x0) = 0
  · have hm := ite_t c3 hm
    cases hm
    exact hC
  · have hm := ite_f c3 hm
    obtain ⟨g4, hm⟩ := grd_s hm
    cases hm
    exact hC
set_option maxHeartbeats 8000000 in
set_option maxRecDepth 100000 in
theorem km_Mk_build_97 {N : Nat}    {r : Sh × St × Int}  {π : Sh} {σ : St} {x1 : Int} {x2 : Int} {x4 : Int} {s0 : Int} (hC : Cl π σ) (hv_x1 : x1 < nn π) (hv_x4 : x4 < nn π) (hv_s0 : s0 < nn π) (hm : Mk_build_97 N π σ x1 x2 x4 s0 = some r) : ext π r.1 ∧ Cl r.1 r.2.1 ∧ r.2.2 < nn r.1 := by
  have hS := hC.1
  rw [Mk_build_97] at hm
  obtain ⟨r39, e40, hm⟩ := obd_s hm
  have q41 := (km_Pt_init hC hv_s0 hv_x1 hv_x4 e40)
  obtain ⟨g42, hm⟩ := grd_s hm
  have hC43 : Cl π r39 := q41
  obtain ⟨r44, e45, hm⟩ := obd_s hm
  have q46 := (km_Pt_measure hC43 hv_s0 e45)
  have hC47 : Cl π r44 := q46
  obtain ⟨r48, e49, hm⟩ := obd_s hm
  have q50 := (km_Pt_excess hC47 hv_s0 e49)
  have hC51 : Cl π r48.1 := q50
  obtain ⟨g52, hm⟩ := grd_s hm
  by_cases c53 : r48.2 = 0
  · have hm := ite_t c53 hm
    cases hm
    exact ⟨ext.rf _, (cl_sfI hC51 (f := 87) rfl _ _), hv_s0⟩
  · have hm := ite_f c53 hm
    obtain ⟨r54, e55, hm⟩ := obd_s hm
    have q56 := (km_Pt_excess hC51 hv_s0 e55)
    have hC57 : Cl π r54.1 := q56
    obtain ⟨r58, e59, hm⟩ := obd_s hm
    have q60 := (km_Mk_fail hC57 e59)
    have hC61 : Cl π r58 := q60
    cases hm
    exact ⟨ext.rf _, hC61, (lt_m1 π)⟩
set_option maxHeartbeats 8000000 in
set_option maxRecDepth 100000 in
theorem km_Mk_build_63 {N : Nat}    {r : Sh × St × Int}  (n : Nat) : ∀ {π : Sh} {σ : St} {x1 : Int} {x2 : Int} {x4 : Int} {x5 : Int}, Cl π σ → x1 < nn π → x4 < nn π → Mk_build_63 N n π σ x1 x2 x4 x5 = some r → ext π r.1 ∧ Cl r.1 r.2.1 ∧ r.2.2 < nn r.1 := by
  induction n with
  | zero => intro π σ x1 x2 x4 x5 hC hv_x1 hv_x4 hm; cases (show none = some r from hm)
  | succ n krec63 =>
    intro π σ x1 x2 x4 x5 hC hv_x1 hv_x4 hm
    have hS := hC.1
    rw [Mk_build_63] at hm
    obtain ⟨g25, hm⟩ := grd_s hm
    obtain ⟨g26, hm⟩ := grd_s hm
    obtain ⟨g27, hm⟩ := grd_s hm
    by_cases c28 : x5 < (fl σ 209 x1)
    · have hm := ite_t c28 hm
      obtain ⟨g30, hm⟩ := grd_s hm
      obtain ⟨g31, hm⟩ := grd_s hm
      obtain ⟨r32, e33, hm⟩ := obd_s hm
      have q34 := (km_Mk_operand hC e33)
      have hC35 : Cl π r32.1 := q34.1
      obtain ⟨g36, hm⟩ := grd_s hm
      obtain ⟨g37, hm⟩ := grd_s hm
      obtain ⟨g38, hm⟩ := grd_s hm
      exact krec63 (cl_seR hC35 _ _ q34.2) hv_x1 hv_x4 hm
    · have hm := ite_f c28 hm
      have q := km_Mk_build_97   ((cl_nO hC (by decide) (by decide) _)) (lt_ext hv_x1 (ext_nO π 5 7)) (lt_ext hv_x4 (ext_nO π 5 7)) lt_nO hm
      exact ⟨(ext_nO π 5 7).tr q.1, q.2⟩
set_option maxHeartbeats 8000000 in
set_option maxRecDepth 100000 in
theorem km_Mk_build_58 {N : Nat}    {r : Sh × St × Int}  {π : Sh} {σ : St} {x1 : Int} {x2 : Int} {s0 : Int} (hC : Cl π σ) (hv_x1 : x1 < nn π) (hv_s0 : s0 < nn π) (hm : Mk_build_58 N π σ x1 x2 s0 = some r) : ext π r.1 ∧ Cl r.1 r.2.1 ∧ r.2.2 < nn r.1 := by
  have hS := hC.1
  rw [Mk_build_58] at hm
  exact km_Mk_build_63 N hC hv_x1 hv_s0 hm
set_option maxHeartbeats 8000000 in
set_option maxRecDepth 100000 in
theorem km_Mk_build {N : Nat}   {π : Sh} {σ : St} {x1 : Int} {x2 : Int} {r : Sh × St × Int} (hC : Cl π σ) (hv_x1 : x1 < nn π) (hm : Mk_build N π σ x1 x2 = some r) : ext π r.1 ∧ Cl r.1 r.2.1 ∧ r.2.2 < nn r.1 := by
  have hS := hC.1
  rw [Mk_build] at hm
  obtain ⟨r1, e2, hm⟩ := obd_s hm
  have q3 := (km_Sp_besides hC hv_x1 e2)
  obtain ⟨g4, hm⟩ := grd_s hm
  have hC5 : Cl π r1.1 := q3
  obtain ⟨v6, e7, hm⟩ := bnd_s hm
  obtain ⟨g8, hm⟩ := grd_s hm
  by_cases c9 : v6 < 200
  · have hm := ite_t c9 hm
    obtain ⟨g10, hm⟩ := grd_s hm
    by_cases c11 : (fl r1.1 209 x1) = 0
    · have hm := ite_t c11 hm
      exact km_Mk_build_58 (cl_sfI hC5 (f := 87) rfl _ _) hv_x1 (sh_4 hS).2.1 hm
    · have hm := ite_f c11 hm
      obtain ⟨σ12, e13, hm⟩ := bnd_s hm
      have hC14 : Cl π σ12 := e13 ▸ (cl_sfI hC5 (f := 87) rfl _ _)
      obtain ⟨g16, hm⟩ := grd_s hm
      obtain ⟨g17, hm⟩ := grd_s hm
      have q := km_Mk_build_58   ((cl_nR hC14 _ _)) (lt_ext hv_x1 (ext_nA π 6 (fl r1.1 209 x1))) lt_nA hm
      exact ⟨(ext_nA π 6 (fl r1.1 209 x1)).tr q.1, q.2⟩
  · have hm := ite_f c9 hm
    obtain ⟨σ18, e19, hm⟩ := bnd_s hm
    have hC20 : Cl π σ18 := e19 ▸ (cl_sfI hC5 (f := 87) rfl _ _)
    obtain ⟨r21, e22, hm⟩ := obd_s hm
    have q23 := (km_Mk_fail hC20 e22)
    have hC24 : Cl π r21 := q23
    cases hm
    exact ⟨ext.rf _, hC24, (lt_m1 π)⟩
set_option maxHeartbeats 8000000 in
set_option maxRecDepth 100000 in
theorem km_Mk_carryOut_56 {N : Nat}    {r : Sh × St}  {π : Sh} {σ : St} {s0 : Int} {s1 : Int} (hC : Cl π σ) (hv_s0 : s0 < nn π) (hm : Mk_carryOut_56 N π σ s0 s1 = some r) : ext π r.1 ∧ Cl r.1 r.2 := by
  have hS := hC.1
  rw [Mk_carryOut_56] at hm
  obtain ⟨g16, hm⟩ := grd_s hm
  obtain ⟨g17, hm⟩ := grd_s hm
  cases hm
  exact ⟨ext.rf _, (cl_seR hC _ _ hv_s0)⟩
set_option maxHeartbeats 8000000 in
set_option maxRecDepth 100000 in
theorem km_Mk_carryOut_18 {N : Nat}    {r : Sh × St}  {π : Sh} {σ : St} {x1 : Int} {x2 : Int} {s0 : Int} (hC : Cl π σ) (hv_x1 : x1 < nn π) (hm : Mk_carryOut_18 N π σ x1 x2 s0 = some r) : ext π r.1 ∧ Cl r.1 r.2 := by
  have hS := hC.1
  rw [Mk_carryOut_18] at hm
  obtain ⟨g4, hm⟩ := grd_s hm
  obtain ⟨g5, hm⟩ := grd_s hm
  by_cases c6 : (fl σ 200 x1) = 25
  · have hm := ite_t c6 hm
    obtain ⟨r12, e13, hm⟩ := obd_s hm
    have q14 := (km_Mk_begin hC hv_x1 e13)
    have hC15 : Cl π r12 := q14
    cases hm
    exact ⟨ext.rf _, hC15⟩
  · have hm := ite_f c6 hm
    obtain ⟨g7, hm⟩ := grd_s hm
    by_cases c8 : x2 < 512
    · have hm := ite_t c8 hm
      obtain ⟨r9, e10, hm⟩ := obd_s hm
      have q11 := (km_Mk_build hC hv_x1 e10)
      have q := km_Mk_carryOut_56   q11.2.1 q11.2.2 hm
      exact ⟨q11.1.tr q.1, q.2⟩
    · have hm := ite_f c8 hm
      cases hm
      exact ⟨ext.rf _, hC⟩
set_option maxHeartbeats 8000000 in
set_option maxRecDepth 100000 in
theorem km_Mk_carryOut {N : Nat}   {π : Sh} {σ : St} {x1 : Int} {x2 : Int} {r : Sh × St} (hC : Cl π σ) (hv_x1 : x1 < nn π) (hm : Mk_carryOut N π σ x1 x2 = some r) : ext π r.1 ∧ Cl r.1 r.2 := by
  have hS := hC.1
  rw [Mk_carryOut] at hm
  obtain ⟨g1, hm⟩ := grd_s hm
  by_cases c2 : (fl σ 85 3) = 0
  · have hm := ite_t c2 hm
    obtain ⟨g3, hm⟩ := grd_s hm
    exact km_Mk_carryOut_18 hC hv_x1 hm
  · have hm := ite_f c2 hm
    exact km_Mk_carryOut_18 hC hv_x1 hm
set_option maxHeartbeats 8000000 in
set_option maxRecDepth 100000 in
theorem km_Mk_make_169 {N : Nat}    {r : Sh × St × Int} {rec28 : Sh → St → Int → Option (Sh × St × Int)} (krec28 : ∀ {π : Sh} {σ : St} {x2 : Int}, Cl π σ → rec28 π σ x2 = some r → ext π r.1 ∧ Cl r.1 r.2.1 ∧ r.2.2 < nn r.1) {π : Sh} {σ : St} {x2 : Int} (hC : Cl π σ)  (hm : Mk_make_169 N rec28 π σ x2 = some r) : ext π r.1 ∧ Cl r.1 r.2.1 ∧ r.2.2 < nn r.1 := by
  have hS := hC.1
  rw [Mk_make_169] at hm
  exact krec28 hC  hm
set_option maxHeartbeats 8000000 in
set_option maxRecDepth 100000 in
theorem km_Mk_make_120 {N : Nat}    {r : Sh × St × Int} {rec28 : Sh → St → Int → Option (Sh × St × Int)} (krec28 : ∀ {π : Sh} {σ : St} {x2 : Int}, Cl π σ → rec28 π σ x2 = some r → ext π r.1 ∧ Cl r.1 r.2.1 ∧ r.2.2 < nn r.1) {π : Sh} {σ : St} {x2 : Int} (hC : Cl π σ)  (hm : Mk_make_120 N rec28 π σ x2 = some r) : ext π r.1 ∧ Cl r.1 r.2.1 ∧ r.2.2 < nn r.1 := by
  have hS := hC.1
  rw [Mk_make_120] at hm
  exact km_Mk_make_169 krec28 hC hm
set_option maxHeartbeats 8000000 in
set_option maxRecDepth 100000 in
theorem km_Mk_make_175 {N : Nat}    {r : Sh × St × Int}  {π : Sh} {σ : St}  (hC : Cl π σ)  (hm : Mk_make_175 N π σ  = some r) : ext π r.1 ∧ Cl r.1 r.2.1 ∧ r.2.2 < nn r.1 := by
  have hS := hC.1
  rw [Mk_make_175] at hm
  cases hm
  exact ⟨ext.rf _, hC, (lt_m1 π)⟩
set_option maxHeartbeats 8000000 in
set_option maxRecDepth 100000 in
theorem km_Mk_make_28 {N : Nat}    {r : Sh × St × Int}  (n : Nat) : ∀ {π : Sh} {σ : St} {x2 : Int}, Cl π σ → Mk_make_28 N n π σ x2 = some r → ext π r.1 ∧ Cl r.1 r.2.1 ∧ r.2.2 < nn r.1 := by
  induction n with
  | zero => intro π σ x2 hC  hm; cases (show none = some r from hm)
  | succ n krec28 =>
    intro π σ x2 hC  hm
    have hS := hC.1
    rw [Mk_make_28] at hm
    obtain ⟨g3, hm⟩ := grd_s hm
    by_cases c4 : x2 < 1000000
    · have hm := ite_t c4 hm
      obtain ⟨g5, hm⟩ := grd_s hm
      by_cases c6 : (fl σ 88 3) = 0
      · have hm := ite_t c6 hm
        obtain ⟨g7, hm⟩ := grd_s hm
        obtain ⟨v8, e9, hm⟩ := bnd_s hm
        obtain ⟨v10, e11, hm⟩ := bnd_s hm
        obtain ⟨g12, hm⟩ := grd_s hm
        obtain ⟨r13, e14, hm⟩ := obd_s hm
        have q15 := (km_L_size hC (cl_fl hC (f := 23) rfl v8) e14)
        obtain ⟨g16, hm⟩ := grd_s hm
        have hC17 : Cl π r13.1 := q15
        obtain ⟨g18, hm⟩ := grd_s hm
        obtain ⟨g19, hm⟩ := grd_s hm
        by_cases c20 : v10 < r13.2
        · have hm := ite_t c20 hm
          obtain ⟨g30, hm⟩ := grd_s hm
          obtain ⟨σ31, e32, hm⟩ := bnd_s hm
          have hC33 : Cl π σ31 := e32 ▸ (cl_seI hC17 (sh_8 hS) (by decide) _ _)
          obtain ⟨r34, e35, hm⟩ := obd_s hm
          have q36 := (km_L_get hC33 (cl_fl hC17 (f := 23) rfl v8) e35)
          obtain ⟨g37, hm⟩ := grd_s hm
          have hC38 : Cl π r34.1 := q36.1
          obtain ⟨g39, hm⟩ := grd_s hm
          obtain ⟨g40, hm⟩ := grd_s hm
          obtain ⟨r41, e42, hm⟩ := obd_s hm
          have q43 := (km_Mk_carryOut hC38 q36.2 e42)
          have q := km_Mk_make_120  krec28 q43.2  hm
          exact ⟨q43.1.tr q.1, q.2⟩
        · have hm := ite_f c20 hm
          obtain ⟨r21, e22, hm⟩ := obd_s hm
          have q23 := (km_Mk_operand hC17 e22)
          have hC24 : Cl π r21.1 := q23.1
          obtain ⟨g25, hm⟩ := grd_s hm
          by_cases c26 : (fl r21.1 85 3) = 0
          · have hm := ite_t c26 hm
            cases hm
            exact ⟨ext.rf _, hC24, q23.2⟩
          · have hm := ite_f c26 hm
            obtain ⟨g27, hm⟩ := grd_s hm
            obtain ⟨g28, hm⟩ := grd_s hm
            obtain ⟨g29, hm⟩ := grd_s hm
            exact km_Mk_make_169 krec28 (cl_sfI (cl_seR hC24 _ _ q23.2) (f := 85) rfl _ _) hm
      · have hm := ite_f c6 hm
        exact km_Mk_make_175 hC hm
    · have hm := ite_f c4 hm
      exact km_Mk_make_175 hC hm
set_option maxHeartbeats 8000000 in
set_option maxRecDepth 100000 in
theorem km_Mk_make {N : Nat}   {π : Sh} {σ : St} {x1 : Int} {r : Sh × St × Int} (hC : Cl π σ) (hv_x1 : x1 < nn π) (hm : Mk_make N π σ x1 = some r) : ext π r.1 ∧ Cl r.1 r.2.1 ∧ r.2.2 < nn r.1 := by
  have hS := hC.1
  rw [Mk_make] at hm
  obtain ⟨g1, hm⟩ := grd_s hm
  obtain ⟨g2, hm⟩ := grd_s hm
  exact km_Mk_make_28 N (cl_seI (cl_seI (cl_seR (cl_sfI hC (f := 85) rfl _ _) _ _ hv_x1) (sh_7 hS) (by decide) _ _) (sh_8 hS) (by decide) _ _) hm
set_option maxHeartbeats 8000000 in
set_option maxRecDepth 100000 in
theorem km_Pt_spanUpper {N : Nat}   {π : Sh} {σ : St} {x0 : Int} {r : St × Int} (hC : Cl π σ) (hv_x0 : x0 < nn π) (hm : Pt_spanUpper N π σ x0 = some r) : Cl π r.1 := by
  have hS := hC.1
  rw [Pt_spanUpper] at hm
  obtain ⟨g1, hm⟩ := grd_s hm
  obtain ⟨g2, hm⟩ := grd_s hm
  obtain ⟨g3, hm⟩ := grd_s hm
  obtain ⟨g4, hm⟩ := grd_s hm
  obtain ⟨g5, hm⟩ := grd_s hm
  obtain ⟨g6, hm⟩ := grd_s hm
  obtain ⟨v7, e8, hm⟩ := bnd_s hm
  obtain ⟨r9, e10, hm⟩ := obd_s hm
  obtain ⟨g11, hm⟩ := grd_s hm
  obtain ⟨g12, hm⟩ := grd_s hm
  obtain ⟨g13, hm⟩ := grd_s hm
  cases hm
  exact hC
set_option maxHeartbeats 8000000 in
set_option maxRecDepth 100000 in
theorem km_Pc_init_43 {N : Nat}    {r : Sh × St}  {π : Sh} {σ : St} {x0 : Int} {x1 : Int} {x2 : Int} {s0 : Int} {s1 : Int} (hC : Cl π σ) (hv_x0 : x0 < nn π) (hv_s0 : s0 < nn π) (hv_s1 : s1 < nn π) (hm : Pc_init_43 N π σ x0 x1 x2 s0 s1 = some r) : ext π r.1 ∧ Cl r.1 r.2 := by
  have hS := hC.1
  rw [Pc_init_43] at hm
  obtain ⟨g6, hm⟩ := grd_s hm
  obtain ⟨g7, hm⟩ := grd_s hm
  cases hm
  exact ⟨ext.rf _, (cl_sfI (cl_sfI (cl_sfI (cl_sfR hC _ _ hv_s0) (f := 130) rfl _ _) (f := 120) rfl _ _) (f := 121) rfl _ _)⟩
set_option maxHeartbeats 8000000 in
set_option maxRecDepth 100000 in
theorem km_Pc_init {N : Nat}   {π : Sh} {σ : St} {x0 : Int} {x1 : Int} {x2 : Int} {r : Sh × St} (hC : Cl π σ) (hv_x0 : x0 < nn π) (hm : Pc_init N π σ x0 x1 x2 = some r) : ext π r.1 ∧ Cl r.1 r.2 := by
  have hS := hC.1
  rw [Pc_init] at hm
  obtain ⟨g1, hm⟩ := grd_s hm
  obtain ⟨σ2, e3, hm⟩ := bnd_s hm
  have hC4 : Cl π σ2 := e3 ▸ (cl_sfR (cl_sfR (cl_sfR (cl_sfI (cl_sfI (cl_sfI (cl_sfI hC (f := 122) rfl _ _) (f := 123) rfl _ _) (f := 124) rfl _ _) (f := 125) rfl _ _) _ _ (lt_m1 π)) _ _ (lt_m1 π)) _ _ (lt_m1 π))
  have q := km_Pc_init_43   ((cl_nA hC4 (t := 2) (by decide) _)) (lt_ext hv_x0 (ext_nA π 2 3)) lt_nA (lt_ext hv_x0 (ext_nA π 2 3)) hm
  exact ⟨(ext_nA π 2 3).tr q.1, q.2⟩
set_option maxHeartbeats 8000000 in
set_option maxRecDepth 100000 in
theorem km_Pc_give {N : Nat}   {π : Sh} {σ : St} {x0 : Int} {x1 : Int} {r : St} (hC : Cl π σ) (hv_x0 : x0 < nn π) (hm : Pc_give N π σ x0 x1 = some r) : Cl π r := by
  have hS := hC.1
  rw [Pc_give] at hm
  obtain ⟨g1, hm⟩ := grd_s hm
  obtain ⟨g2, hm⟩ := grd_s hm
  by_cases c3 : (fl σ 130 x0) < 3
  · have hm := ite_t c3 hm
    obtain ⟨g4, hm⟩ := grd_s hm
    obtain ⟨g5, hm⟩ := grd_s hm
    cases hm
    exact (cl_sfI (cl_seI hC g4 (by decide) _ _) (f := 130) rfl _ _)
  · have hm := ite_f c3 hm
    cases hm
    exact hC
set_option maxHeartbeats 8000000 in
set_option maxRecDepth 100000 in
theorem km_Pc_applyAll_28 {N : Nat} {rApply : Sh → St → Int → Int → Int → Option (Sh × St × Int)} (hmrApply : ∀ {π : Sh} {σ : St} {y0 : Int} {y1 : Int} {y2 : Int} {r : Sh × St × Int}, Cl π σ → y0 < nn π → y1 < nn π → rApply π σ y0 y1 y2 = some r → ext π r.1 ∧ Cl r.1 r.2.1)  {r : Sh × St × Int} {rec8 : Sh → St → Int → Int → Int → Int → Option (Sh × St × Int)} (krec8 : ∀ {π : Sh} {σ : St} {x1 : Int} {x3 : Int} {x4 : Int} {x5 : Int}, Cl π σ → x1 < nn π → x4 < nn π → rec8 π σ x1 x3 x4 x5 = some r → ext π r.1 ∧ Cl r.1 r.2.1) {π : Sh} {σ : St} {x1 : Int} {x4 : Int} {x5 : Int} {s0 : Int} (hC : Cl π σ) (hv_x1 : x1 < nn π) (hv_x4 : x4 < nn π) (hm : Pc_applyAll_28 N rApply rec8 π σ x1 x4 x5 s0 = some r) : ext π r.1 ∧ Cl r.1 r.2.1 := by
  have hS := hC.1
  rw [Pc_applyAll_28] at hm
  obtain ⟨g8, hm⟩ := grd_s hm
  exact krec8 hC hv_x1 (cl_fl hC (f := 127) rfl x4) hm
set_option maxHeartbeats 8000000 in
set_option maxRecDepth 100000 in
theorem km_Pc_applyAll_8 {N : Nat} {rApply : Sh → St → Int → Int → Int → Option (Sh × St × Int)} (hmrApply : ∀ {π : Sh} {σ : St} {y0 : Int} {y1 : Int} {y2 : Int} {r : Sh × St × Int}, Cl π σ → y0 < nn π → y1 < nn π → rApply π σ y0 y1 y2 = some r → ext π r.1 ∧ Cl r.1 r.2.1)  {r : Sh × St × Int}  (n : Nat) : ∀ {π : Sh} {σ : St} {x1 : Int} {x3 : Int} {x4 : Int} {x5 : Int}, Cl π σ → x1 < nn π → x4 < nn π → Pc_applyAll_8 N rApply n π σ x1 x3 x4 x5 = some r → ext π r.1 ∧ Cl r.1 r.2.1 := by
  induction n with
  | zero => intro π σ x1 x3 x4 x5 hC hv_x1 hv_x4 hm; cases (show none = some r from hm)
  | succ n krec8 =>
    intro π σ x1 x3 x4 x5 hC hv_x1 hv_x4 hm
    have hS := hC.1
    rw [Pc_applyAll_8] at hm
    obtain ⟨g1, hm⟩ := grd_s hm
    by_cases c2 : x5 < 2000
    · have hm := ite_t c2 hm
      by_cases c3 : x4 < 0
      · have hm := ite_t c3 hm
        cases hm
        exact ⟨ext.rf _, hC⟩
      · have hm := ite_f c3 hm
        obtain ⟨r4, e5, hm⟩ := obd_s hm
        have q6 := (hmrApply hC hv_x4 hv_x1 e5)
        obtain ⟨g7, hm⟩ := grd_s hm
        have q := km_Pc_applyAll_28 hmrApply krec8 q6.2 (lt_ext hv_x1 q6.1) (lt_ext hv_x4 q6.1) hm
        exact ⟨q6.1.tr q.1, q.2⟩
    · have hm := ite_f c2 hm
      cases hm
      exact ⟨ext.rf _, hC⟩
set_option maxHeartbeats 8000000 in
set_option maxRecDepth 100000 in
theorem km_Pc_applyAll {N : Nat} {rApply : Sh → St → Int → Int → Int → Option (Sh × St × Int)} (hmrApply : ∀ {π : Sh} {σ : St} {y0 : Int} {y1 : Int} {y2 : Int} {r : Sh × St × Int}, Cl π σ → y0 < nn π → y1 < nn π → rApply π σ y0 y1 y2 = some r → ext π r.1 ∧ Cl r.1 r.2.1) {π : Sh} {σ : St} {x0 : Int} {x1 : Int} {x2 : Int} {r : Sh × St × Int} (hC : Cl π σ) (hv_x0 : x0 < nn π) (hv_x1 : x1 < nn π) (hm : Pc_applyAll N rApply π σ x0 x1 x2 = some r) : ext π r.1 ∧ Cl r.1 r.2.1 := by
  have hS := hC.1
  rw [Pc_applyAll] at hm
  exact km_Pc_applyAll_8 hmrApply N hC hv_x1 hv_x0 hm
set_option maxHeartbeats 8000000 in
set_option maxRecDepth 100000 in
theorem km_Sp_initB_48 {N : Nat}    {r : Sh × St}  {π : Sh} {σ : St} {x0 : Int} {x1 : Int} {x2 : Int} {x3 : Int} {x4 : Int} {s0 : Int} {s1 : Int} (hC : Cl π σ) (hv_x0 : x0 < nn π) (hv_s0 : s0 < nn π) (hv_s1 : s1 < nn π) (hm : Sp_initB_48 N π σ x0 x1 x2 x3 x4 s0 s1 = some r) : ext π r.1 ∧ Cl r.1 r.2 := by
  have hS := hC.1
  rw [Sp_initB_48] at hm
  obtain ⟨g6, hm⟩ := grd_s hm
  obtain ⟨g7, hm⟩ := grd_s hm
  cases hm
  exact ⟨ext.rf _, (cl_sfI (cl_sfI (cl_sfI (cl_sfI (cl_sfR (cl_sfR (cl_sfR (cl_sfR hC _ _ hv_s0) _ _ (lt_m1 π)) _ _ (lt_m1 π)) _ _ (lt_m1 π)) (f := 200) rfl _ _) (f := 201) rfl _ _) (f := 202) rfl _ _) (f := 203) rfl _ _)⟩
set_option maxHeartbeats 8000000 in
set_option maxRecDepth 100000 in
theorem km_Sp_initB {N : Nat}   {π : Sh} {σ : St} {x0 : Int} {x1 : Int} {x2 : Int} {x3 : Int} {x4 : Int} {r : Sh × St} (hC : Cl π σ) (hv_x0 : x0 < nn π) (hm : Sp_initB N π σ x0 x1 x2 x3 x4 = some r) : ext π r.1 ∧ Cl r.1 r.2 := by
  have hS := hC.1
  rw [Sp_initB] at hm
  obtain ⟨g1, hm⟩ := grd_s hm
  obtain ⟨σ2, e3, hm⟩ := bnd_s hm
  have hC4 : Cl π σ2 := e3 ▸ (cl_sfI (cl_sfR (cl_sfI (cl_sfI (cl_sfI (cl_sfI (cl_sfI (cl_sfI hC (f := 202) rfl _ _) (f := 203) rfl _ _) (f := 204) rfl _ _) (f := 205) rfl _ _) (f := 206) rfl _ _) (f := 207) rfl _ _) _ _ (lt_m1 π)) (f := 209) rfl _ _)
  have q := km_Sp_initB_48   ((cl_nA hC4 (t := 2) (by decide) _)) (lt_ext hv_x0 (ext_nA π 2 2)) lt_nA (lt_ext hv_x0 (ext_nA π 2 2)) hm
  exact ⟨(ext_nA π 2 2).tr q.1, q.2⟩
set_option maxHeartbeats 8000000 in
set_option maxRecDepth 100000 in
theorem km_Pc_spanStep_20 {N : Nat}    {r : Sh × St × Int}  {π : Sh} {σ : St} {x0 : Int} {s0 : Int} (hC : Cl π σ) (hv_x0 : x0 < nn π) (hv_s0 : s0 < nn π) (hm : Pc_spanStep_20 N π σ x0 s0 = some r) : ext π r.1 ∧ Cl r.1 r.2.1 ∧ r.2.2 < nn r.1 := by
  have hS := hC.1
  rw [Pc_spanStep_20] at hm
  obtain ⟨g7, hm⟩ := grd_s hm
  obtain ⟨g8, hm⟩ := grd_s hm
  cases hm
  exact ⟨ext.rf _, (cl_sfI (cl_sfI hC (f := 204) rfl _ _) (f := 205) rfl _ _), hv_s0⟩
set_option maxHeartbeats 8000000 in
set_option maxRecDepth 100000 in
theorem km_Pc_spanStep_3 {N : Nat}    {r : Sh × St × Int}  {π : Sh} {σ : St} {x0 : Int} {x1 : Int} {s0 : Int} (hC : Cl π σ) (hv_x0 : x0 < nn π) (hv_s0 : s0 < nn π) (hm : Pc_spanStep_3 N π σ x0 x1 s0 = some r) : ext π r.1 ∧ Cl r.1 r.2.1 ∧ r.2.2 < nn r.1 := by
  have hS := hC.1
  rw [Pc_spanStep_3] at hm
  obtain ⟨g2, hm⟩ := grd_s hm
  obtain ⟨r3, e4, hm⟩ := obd_s hm
  have q5 := (km_Sp_initB hC hv_s0 e4)
  obtain ⟨g6, hm⟩ := grd_s hm
  have q := km_Pc_spanStep_20   q5.2 (lt_ext hv_x0 q5.1) (lt_ext hv_s0 q5.1) hm
  exact ⟨q5.1.tr q.1, q.2⟩
set_option maxHeartbeats 8000000 in
set_option maxRecDepth 100000 in
theorem km_Pc_spanStep {N : Nat}   {π : Sh} {σ : St} {x0 : Int} {x1 : Int} {r : Sh × St × Int} (hC : Cl π σ) (hv_x0 : x0 < nn π) (hm : Pc_spanStep N π σ x0 x1 = some r) : ext π r.1 ∧ Cl r.1 r.2.1 ∧ r.2.2 < nn r.1 := by
  have hS := hC.1
  rw [Pc_spanStep] at hm
  have q := km_Pc_spanStep_3   ((cl_nO hC (by decide) (by decide) _)) (lt_ext hv_x0 (ext_nO π 10 14)) lt_nO hm
  exact ⟨(ext_nO π 10 14).tr q.1, q.2⟩
set_option maxHeartbeats 8000000 in
set_option maxRecDepth 100000 in
theorem km_Sp_give_31 {N : Nat}    {r : Sh × St × Int}  {π : Sh} {σ : St} {x0 : Int} {x1 : Int} (hC : Cl π σ) (hv_x0 : x0 < nn π) (hm : Sp_give_31 N π σ x0 x1 = some r) : ext π r.1 ∧ Cl r.1 r.2.1 ∧ r.2.2 < nn r.1 := by
  have hS := hC.1
  rw [Sp_give_31] at hm
  obtain ⟨g10, hm⟩ := grd_s hm
  obtain ⟨g11, hm⟩ := grd_s hm
  obtain ⟨g12, hm⟩ := grd_s hm
  cases hm
  exact ⟨ext.rf _, (cl_sfI (cl_seI hC g11 (by decide) _ _) (f := 209) rfl _ _), hv_x0⟩
set_option maxHeartbeats 8000000 in
set_option maxRecDepth 100000 in
theorem km_Sp_give_28 {N : Nat}    {r : Sh × St × Int}  {π : Sh} {σ : St} {x0 : Int} {x1 : Int} {s0 : Int} {s1 : Int} (hC : Cl π σ) (hv_x0 : x0 < nn π) (hv_s0 : s0 < nn π) (hv_s1 : s1 < nn π) (hm : Sp_give_28 N π σ x0 x1 s0 s1 = some r) : ext π r.1 ∧ Cl r.1 r.2.1 ∧ r.2.2 < nn r.1 := by
  have hS := hC.1
  rw [Sp_give_28] at hm
  obtain ⟨g13, hm⟩ := grd_s hm
  exact km_Sp_give_31 (cl_sfR hC _ _ hv_s0) hv_x0 hm
set_option maxHeartbeats 8000000 in
set_option maxRecDepth 100000 in
theorem km_Sp_give {N : Nat}   {π : Sh} {σ : St} {x0 : Int} {x1 : Int} {r : Sh × St × Int} (hC : Cl π σ) (hv_x0 : x0 < nn π) (hm : Sp_give N π σ x0 x1 = some r) : ext π r.1 ∧ Cl r.1 r.2.1 ∧ r.2.2 < nn r.1 := by
  have hS := hC.1
  rw [Sp_give] at hm
  obtain ⟨g1, hm⟩ := grd_s hm
  obtain ⟨g2, hm⟩ := grd_s hm
  obtain ⟨g3, hm⟩ := grd_s hm
  obtain ⟨g4, hm⟩ := grd_s hm
  obtain ⟨g5, hm⟩ := grd_s hm
  by_cases c6 : (fl σ 209 x0) < (ln π (fl σ 210 x0))
  · have hm := ite_t c6 hm
    exact km_Sp_give_31 hC hv_x0 hm
  · have hm := ite_f c6 hm
    obtain ⟨r7, e8, hm⟩ := obd_s hm
    have q9 := (km_A_copy hC (cl_fl hC (f := 210) rfl x0) e8)
    have q := km_Sp_give_28   q9.2.1 (lt_ext hv_x0 q9.1) q9.2.2 (lt_ext hv_x0 q9.1) hm
    exact ⟨q9.1.tr q.1, q.2⟩
set_option maxHeartbeats 8000000 in
set_option maxRecDepth 100000 in
theorem km_Sp_init_48 {N : Nat}    {r : Sh × St}  {π : Sh} {σ : St} {x0 : Int} {x1 : Int} {x2 : Int} {s0 : Int} {s1 : Int} (hC : Cl π σ) (hv_x0 : x0 < nn π) (hv_s0 : s0 < nn π) (hv_s1 : s1 < nn π) (hm : Sp_init_48 N π σ x0 x1 x2 s0 s1 = some r) : ext π r.1 ∧ Cl r.1 r.2 := by
  have hS := hC.1
  rw [Sp_init_48] at hm
  obtain ⟨g6, hm⟩ := grd_s hm
  obtain ⟨g7, hm⟩ := grd_s hm
  cases hm
  exact ⟨ext.rf _, (cl_sfI (cl_sfI (cl_sfR (cl_sfR (cl_sfR (cl_sfR hC _ _ hv_s0) _ _ (lt_m1 π)) _ _ (lt_m1 π)) _ _ (lt_m1 π)) (f := 200) rfl _ _) (f := 201) rfl _ _)⟩
set_option maxHeartbeats 8000000 in
set_option maxRecDepth 100000 in
theorem km_Sp_init {N : Nat}   {π : Sh} {σ : St} {x0 : Int} {x1 : Int} {x2 : Int} {r : Sh × St} (hC : Cl π σ) (hv_x0 : x0 < nn π) (hm : Sp_init N π σ x0 x1 x2 = some r) : ext π r.1 ∧ Cl r.1 r.2 := by
  have hS := hC.1
  rw [Sp_init] at hm
  obtain ⟨g1, hm⟩ := grd_s hm
  obtain ⟨σ2, e3, hm⟩ := bnd_s hm
  have hC4 : Cl π σ2 := e3 ▸ (cl_sfI (cl_sfR (cl_sfI (cl_sfI (cl_sfI (cl_sfI (cl_sfI (cl_sfI hC (f := 202) rfl _ _) (f := 203) rfl _ _) (f := 204) rfl _ _) (f := 205) rfl _ _) (f := 206) rfl _ _) (f := 207) rfl _ _) _ _ (lt_m1 π)) (f := 209) rfl _ _)
  have q := km_Sp_init_48   ((cl_nA hC4 (t := 2) (by decide) _)) (lt_ext hv_x0 (ext_nA π 2 2)) lt_nA (lt_ext hv_x0 (ext_nA π 2 2)) hm
  exact ⟨(ext_nA π 2 2).tr q.1, q.2⟩
