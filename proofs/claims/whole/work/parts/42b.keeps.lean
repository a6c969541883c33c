set_option maxHeartbeats 8000000 in
set_option maxRecDepth 100000 in
theorem km_Pc_applyWithFun_74 {N : Nat} {rApply : Sh → St → Int → Int → Int → Option (Sh × St × Int)} (hmrApply : ∀ {π : Sh} {σ : St} {y0 : Int} {y1 : Int} {y2 : Int} {r : Sh × St × Int}, Cl π σ → y0 < nn π → y1 < nn π → rApply π σ y0 y1 y2 = some r → ext π r.1 ∧ Cl r.1 r.2.1)  {r : Sh × St × Int}  {π : Sh} {σ : St} {s0 : Int} (hC : Cl π σ)  (hm : Pc_applyWithFun_74 N rApply π σ s0 = some r) : ext π r.1 ∧ Cl r.1 r.2.1 := by
  have hS := hC.1
  rw [Pc_applyWithFun_74] at hm
  cases hm
  exact ⟨ext.rf _, hC⟩
set_option maxHeartbeats 8000000 in
set_option maxRecDepth 100000 in
theorem km_Pc_applyWithFun_71 {N : Nat} {rApply : Sh → St → Int → Int → Int → Option (Sh × St × Int)} (hmrApply : ∀ {π : Sh} {σ : St} {y0 : Int} {y1 : Int} {y2 : Int} {r : Sh × St × Int}, Cl π σ → y0 < nn π → y1 < nn π → rApply π σ y0 y1 y2 = some r → ext π r.1 ∧ Cl r.1 r.2.1)  {r : Sh × St × Int}  {π : Sh} {σ : St} {s0 : Int} {s1 : Int} (hC : Cl π σ) (hv_s0 : s0 < nn π) (hv_s1 : s1 < nn π) (hm : Pc_applyWithFun_71 N rApply π σ s0 s1 = some r) : ext π r.1 ∧ Cl r.1 r.2.1 := by
  have hS := hC.1
  rw [Pc_applyWithFun_71] at hm
  obtain ⟨r210, e211, hm⟩ := obd_s hm
  have q212 := (km_Df_add hC hv_s1 hv_s0 e211)
  obtain ⟨g213, hm⟩ := grd_s hm
  have q := km_Pc_applyWithFun_74 hmrApply  q212.2  hm
  exact ⟨q212.1.tr q.1, q.2⟩
set_option maxHeartbeats 8000000 in
set_option maxRecDepth 100000 in
theorem km_Pc_applyWithFun_66 {N : Nat} {rApply : Sh → St → Int → Int → Int → Option (Sh × St × Int)} (hmrApply : ∀ {π : Sh} {σ : St} {y0 : Int} {y1 : Int} {y2 : Int} {r : Sh × St × Int}, Cl π σ → y0 < nn π → y1 < nn π → rApply π σ y0 y1 y2 = some r → ext π r.1 ∧ Cl r.1 r.2.1)  {r : Sh × St × Int}  {π : Sh} {σ : St} {x4 : Int} {s0 : Int} {s1 : Int} (hC : Cl π σ) (hv_s0 : s0 < nn π) (hv_s1 : s1 < nn π) (hm : Pc_applyWithFun_66 N rApply π σ x4 s0 s1 = some r) : ext π r.1 ∧ Cl r.1 r.2.1 := by
  have hS := hC.1
  rw [Pc_applyWithFun_66] at hm
  obtain ⟨r198, e199, hm⟩ := obd_s hm
  have q200 := (km_Sp_give hC hv_s0 e199)
  obtain ⟨g201, hm⟩ := grd_s hm
  have q := km_Pc_applyWithFun_71 hmrApply  q200.2.1 q200.2.2 (lt_ext hv_s1 q200.1) hm
  exact ⟨q200.1.tr q.1, q.2⟩
set_option maxHeartbeats 8000000 in
set_option maxRecDepth 100000 in
theorem km_Pc_applyWithFun_51 {N : Nat} {rApply : Sh → St → Int → Int → Int → Option (Sh × St × Int)} (hmrApply : ∀ {π : Sh} {σ : St} {y0 : Int} {y1 : Int} {y2 : Int} {r : Sh × St × Int}, Cl π σ → y0 < nn π → y1 < nn π → rApply π σ y0 y1 y2 = some r → ext π r.1 ∧ Cl r.1 r.2.1)  {r : Sh × St × Int}  {π : Sh} {σ : St} {x0 : Int} {x4 : Int} {s0 : Int} {s1 : Int} (hC : Cl π σ) (hv_x0 : x0 < nn π) (hv_s0 : s0 < nn π) (hv_s1 : s1 < nn π) (hm : Pc_applyWithFun_51 N rApply π σ x0 x4 s0 s1 = some r) : ext π r.1 ∧ Cl r.1 r.2.1 := by
  have hS := hC.1
  rw [Pc_applyWithFun_51] at hm
  obtain ⟨g185, hm⟩ := grd_s hm
  obtain ⟨r186, e187, hm⟩ := obd_s hm
  have q188 := (km_Sp_initB hC hv_s0 e187)
  obtain ⟨g189, hm⟩ := grd_s hm
  have q := km_Pc_applyWithFun_66 hmrApply  q188.2 (lt_ext hv_s0 q188.1) (lt_ext hv_s1 q188.1) hm
  exact ⟨q188.1.tr q.1, q.2⟩
set_option maxHeartbeats 8000000 in
set_option maxRecDepth 100000 in
theorem km_Pc_applyWithFun_45 {N : Nat} {rApply : Sh → St → Int → Int → Int → Option (Sh × St × Int)} (hmrApply : ∀ {π : Sh} {σ : St} {y0 : Int} {y1 : Int} {y2 : Int} {r : Sh × St × Int}, Cl π σ → y0 < nn π → y1 < nn π → rApply π σ y0 y1 y2 = some r → ext π r.1 ∧ Cl r.1 r.2.1)  {r : Sh × St × Int}  {π : Sh} {σ : St} {x0 : Int} {x1 : Int} {s0 : Int} (hC : Cl π σ) (hv_x0 : x0 < nn π) (hv_x1 : x1 < nn π) (hm : Pc_applyWithFun_45 N rApply π σ x0 x1 s0 = some r) : ext π r.1 ∧ Cl r.1 r.2.1 := by
  have hS := hC.1
  rw [Pc_applyWithFun_45] at hm
  have q := km_Pc_applyWithFun_51 hmrApply  ((cl_nO hC (by decide) (by decide) _)) (lt_ext hv_x0 (ext_nO π 10 14)) lt_nO (lt_ext hv_x1 (ext_nO π 10 14)) hm
  exact ⟨(ext_nO π 10 14).tr q.1, q.2⟩
set_option maxHeartbeats 8000000 in
set_option maxRecDepth 100000 in
theorem km_Pc_applyWithFun_35 {N : Nat} {rApply : Sh → St → Int → Int → Int → Option (Sh × St × Int)} (hmrApply : ∀ {π : Sh} {σ : St} {y0 : Int} {y1 : Int} {y2 : Int} {r : Sh × St × Int}, Cl π σ → y0 < nn π → y1 < nn π → rApply π σ y0 y1 y2 = some r → ext π r.1 ∧ Cl r.1 r.2.1)  {r : Sh × St × Int}  {π : Sh} {σ : St} {x0 : Int} {x1 : Int} {s0 : Int} (hC : Cl π σ) (hv_x0 : x0 < nn π) (hv_x1 : x1 < nn π) (hm : Pc_applyWithFun_35 N rApply π σ x0 x1 s0 = some r) : ext π r.1 ∧ Cl r.1 r.2.1 := by
  have hS := hC.1
  rw [Pc_applyWithFun_35] at hm
  obtain ⟨g149, hm⟩ := grd_s hm
  obtain ⟨r150, e151, hm⟩ := obd_s hm
  have q152 := (km_Pc_applyAll hmrApply hC (cl_fl hC (f := 126) rfl x0) hv_x1 e151)
  have q := km_Pc_applyWithFun_45 hmrApply  q152.2 (lt_ext hv_x0 q152.1) (lt_ext hv_x1 q152.1) hm
  exact ⟨q152.1.tr q.1, q.2⟩
set_option maxHeartbeats 8000000 in
set_option maxRecDepth 100000 in
theorem km_Pc_applyWithFun_32 {N : Nat} {rApply : Sh → St → Int → Int → Int → Option (Sh × St × Int)} (hmrApply : ∀ {π : Sh} {σ : St} {y0 : Int} {y1 : Int} {y2 : Int} {r : Sh × St × Int}, Cl π σ → y0 < nn π → y1 < nn π → rApply π σ y0 y1 y2 = some r → ext π r.1 ∧ Cl r.1 r.2.1)  {r : Sh × St × Int}  {π : Sh} {σ : St} {x0 : Int} {x1 : Int} {s0 : Int} {s1 : Int} (hC : Cl π σ) (hv_x0 : x0 < nn π) (hv_x1 : x1 < nn π) (hv_s0 : s0 < nn π) (hv_s1 : s1 < nn π) (hm : Pc_applyWithFun_32 N rApply π σ x0 x1 s0 s1 = some r) : ext π r.1 ∧ Cl r.1 r.2.1 := by
  have hS := hC.1
  rw [Pc_applyWithFun_32] at hm
  obtain ⟨r120, e121, hm⟩ := obd_s hm
  have q122 := (km_Df_add hC hv_s1 hv_s0 e121)
  obtain ⟨g123, hm⟩ := grd_s hm
  have q := km_Pc_applyWithFun_35 hmrApply  q122.2 (lt_ext hv_x0 q122.1) (lt_ext hv_x1 q122.1) hm
  exact ⟨q122.1.tr q.1, q.2⟩
set_option maxHeartbeats 8000000 in
set_option maxRecDepth 100000 in
theorem km_Pc_applyWithFun_28 {N : Nat} {rApply : Sh → St → Int → Int → Int → Option (Sh × St × Int)} (hmrApply : ∀ {π : Sh} {σ : St} {y0 : Int} {y1 : Int} {y2 : Int} {r : Sh × St × Int}, Cl π σ → y0 < nn π → y1 < nn π → rApply π σ y0 y1 y2 = some r → ext π r.1 ∧ Cl r.1 r.2.1)  {r : Sh × St × Int}  {π : Sh} {σ : St} {x0 : Int} {x1 : Int} {x2 : Int} {s0 : Int} {s1 : Int} (hC : Cl π σ) (hv_x0 : x0 < nn π) (hv_x1 : x1 < nn π) (hv_s0 : s0 < nn π) (hv_s1 : s1 < nn π) (hm : Pc_applyWithFun_28 N rApply π σ x0 x1 x2 s0 s1 = some r) : ext π r.1 ∧ Cl r.1 r.2.1 := by
  have hS := hC.1
  rw [Pc_applyWithFun_28] at hm
  obtain ⟨r88, e89, hm⟩ := obd_s hm
  have q90 := (km_Sp_give hC hv_s0 e89)
  obtain ⟨g91, hm⟩ := grd_s hm
  have q := km_Pc_applyWithFun_32 hmrApply  q90.2.1 (lt_ext hv_x0 q90.1) (lt_ext hv_x1 q90.1) q90.2.2 (lt_ext hv_s1 q90.1) hm
  exact ⟨q90.1.tr q.1, q.2⟩
set_option maxHeartbeats 8000000 in
set_option maxRecDepth 100000 in
theorem km_Pc_applyWithFun_13 {N : Nat} {rApply : Sh → St → Int → Int → Int → Option (Sh × St × Int)} (hmrApply : ∀ {π : Sh} {σ : St} {y0 : Int} {y1 : Int} {y2 : Int} {r : Sh × St × Int}, Cl π σ → y0 < nn π → y1 < nn π → rApply π σ y0 y1 y2 = some r → ext π r.1 ∧ Cl r.1 r.2.1)  {r : Sh × St × Int}  {π : Sh} {σ : St} {x0 : Int} {x1 : Int} {x2 : Int} {s0 : Int} {s1 : Int} (hC : Cl π σ) (hv_x0 : x0 < nn π) (hv_x1 : x1 < nn π) (hv_s0 : s0 < nn π) (hv_s1 : s1 < nn π) (hm : Pc_applyWithFun_13 N rApply π σ x0 x1 x2 s0 s1 = some r) : ext π r.1 ∧ Cl r.1 r.2.1 := by
  have hS := hC.1
  rw [Pc_applyWithFun_13] at hm
  obtain ⟨g50, hm⟩ := grd_s hm
  obtain ⟨r51, e52, hm⟩ := obd_s hm
  have q53 := (km_Sp_initB hC hv_s0 e52)
  obtain ⟨g54, hm⟩ := grd_s hm
  have q := km_Pc_applyWithFun_28 hmrApply  q53.2 (lt_ext hv_x0 q53.1) (lt_ext hv_x1 q53.1) (lt_ext hv_s0 q53.1) (lt_ext hv_s1 q53.1) hm
  exact ⟨q53.1.tr q.1, q.2⟩
set_option maxHeartbeats 8000000 in
set_option maxRecDepth 100000 in
theorem km_Pc_applyWithFun_177 {N : Nat} {rApply : Sh → St → Int → Int → Int → Option (Sh × St × Int)} (hmrApply : ∀ {π : Sh} {σ : St} {y0 : Int} {y1 : Int} {y2 : Int} {r : Sh × St × Int}, Cl π σ → y0 < nn π → y1 < nn π → rApply π σ y0 y1 y2 = some r → ext π r.1 ∧ Cl r.1 r.2.1)  {r : Sh × St × Int}  {π : Sh} {σ : St} {s0 : Int} (hC : Cl π σ)  (hm : Pc_applyWithFun_177 N rApply π σ s0 = some r) : ext π r.1 ∧ Cl r.1 r.2.1 := by
  have hS := hC.1
  rw [Pc_applyWithFun_177] at hm
  cases hm
  exact ⟨ext.rf _, hC⟩
set_option maxHeartbeats 8000000 in
set_option maxRecDepth 100000 in
theorem km_Pc_applyWithFun_174 {N : Nat} {rApply : Sh → St → Int → Int → Int → Option (Sh × St × Int)} (hmrApply : ∀ {π : Sh} {σ : St} {y0 : Int} {y1 : Int} {y2 : Int} {r : Sh × St × Int}, Cl π σ → y0 < nn π → y1 < nn π → rApply π σ y0 y1 y2 = some r → ext π r.1 ∧ Cl r.1 r.2.1)  {r : Sh × St × Int}  {π : Sh} {σ : St} {s0 : Int} {s1 : Int} (hC : Cl π σ) (hv_s0 : s0 < nn π) (hv_s1 : s1 < nn π) (hm : Pc_applyWithFun_174 N rApply π σ s0 s1 = some r) : ext π r.1 ∧ Cl r.1 r.2.1 := by
  have hS := hC.1
  rw [Pc_applyWithFun_174] at hm
  obtain ⟨r232, e233, hm⟩ := obd_s hm
  have q234 := (km_Df_add hC hv_s1 hv_s0 e233)
  obtain ⟨g235, hm⟩ := grd_s hm
  have q := km_Pc_applyWithFun_177 hmrApply  q234.2  hm
  exact ⟨q234.1.tr q.1, q.2⟩
set_option maxHeartbeats 8000000 in
set_option maxRecDepth 100000 in
theorem km_Pc_applyWithFun_169 {N : Nat} {rApply : Sh → St → Int → Int → Int → Option (Sh × St × Int)} (hmrApply : ∀ {π : Sh} {σ : St} {y0 : Int} {y1 : Int} {y2 : Int} {r : Sh × St × Int}, Cl π σ → y0 < nn π → y1 < nn π → rApply π σ y0 y1 y2 = some r → ext π r.1 ∧ Cl r.1 r.2.1)  {r : Sh × St × Int}  {π : Sh} {σ : St} {x5 : Int} {s0 : Int} {s1 : Int} (hC : Cl π σ) (hv_s0 : s0 < nn π) (hv_s1 : s1 < nn π) (hm : Pc_applyWithFun_169 N rApply π σ x5 s0 s1 = some r) : ext π r.1 ∧ Cl r.1 r.2.1 := by
  have hS := hC.1
  rw [Pc_applyWithFun_169] at hm
  obtain ⟨r228, e229, hm⟩ := obd_s hm
  have q230 := (km_Sp_give hC hv_s0 e229)
  obtain ⟨g231, hm⟩ := grd_s hm
  have q := km_Pc_applyWithFun_174 hmrApply  q230.2.1 q230.2.2 (lt_ext hv_s1 q230.1) hm
  exact ⟨q230.1.tr q.1, q.2⟩
set_option maxHeartbeats 8000000 in
set_option maxRecDepth 100000 in
theorem km_Pc_applyWithFun_165 {N : Nat} {rApply : Sh → St → Int → Int → Int → Option (Sh × St × Int)} (hmrApply : ∀ {π : Sh} {σ : St} {y0 : Int} {y1 : Int} {y2 : Int} {r : Sh × St × Int}, Cl π σ → y0 < nn π → y1 < nn π → rApply π σ y0 y1 y2 = some r → ext π r.1 ∧ Cl r.1 r.2.1)  {r : Sh × St × Int}  {π : Sh} {σ : St} {x3 : Int} {x5 : Int} {s0 : Int} {s1 : Int} (hC : Cl π σ) (hv_s0 : s0 < nn π) (hv_s1 : s1 < nn π) (hm : Pc_applyWithFun_165 N rApply π σ x3 x5 s0 s1 = some r) : ext π r.1 ∧ Cl r.1 r.2.1 := by
  have hS := hC.1
  rw [Pc_applyWithFun_165] at hm
  obtain ⟨r224, e225, hm⟩ := obd_s hm
  have q226 := (km_Sp_give hC hv_s0 e225)
  obtain ⟨g227, hm⟩ := grd_s hm
  have q := km_Pc_applyWithFun_169 hmrApply  q226.2.1 q226.2.2 (lt_ext hv_s1 q226.1) hm
  exact ⟨q226.1.tr q.1, q.2⟩
set_option maxHeartbeats 8000000 in
set_option maxRecDepth 100000 in
theorem km_Pc_applyWithFun_155 {N : Nat} {rApply : Sh → St → Int → Int → Int → Option (Sh × St × Int)} (hmrApply : ∀ {π : Sh} {σ : St} {y0 : Int} {y1 : Int} {y2 : Int} {r : Sh × St × Int}, Cl π σ → y0 < nn π → y1 < nn π → rApply π σ y0 y1 y2 = some r → ext π r.1 ∧ Cl r.1 r.2.1)  {r : Sh × St × Int}  {π : Sh} {σ : St} {x0 : Int} {x3 : Int} {x5 : Int} {s0 : Int} {s1 : Int} (hC : Cl π σ) (hv_x0 : x0 < nn π) (hv_s0 : s0 < nn π) (hv_s1 : s1 < nn π) (hm : Pc_applyWithFun_155 N rApply π σ x0 x3 x5 s0 s1 = some r) : ext π r.1 ∧ Cl r.1 r.2.1 := by
  have hS := hC.1
  rw [Pc_applyWithFun_155] at hm
  obtain ⟨g219, hm⟩ := grd_s hm
  obtain ⟨r220, e221, hm⟩ := obd_s hm
  have q222 := (km_Sp_init hC hv_s0 e221)
  obtain ⟨g223, hm⟩ := grd_s hm
  have q := km_Pc_applyWithFun_165 hmrApply  q222.2 (lt_ext hv_s0 q222.1) (lt_ext hv_s1 q222.1) hm
  exact ⟨q222.1.tr q.1, q.2⟩
set_option maxHeartbeats 8000000 in
set_option maxRecDepth 100000 in
theorem km_Pc_applyWithFun_149 {N : Nat} {rApply : Sh → St → Int → Int → Int → Option (Sh × St × Int)} (hmrApply : ∀ {π : Sh} {σ : St} {y0 : Int} {y1 : Int} {y2 : Int} {r : Sh × St × Int}, Cl π σ → y0 < nn π → y1 < nn π → rApply π σ y0 y1 y2 = some r → ext π r.1 ∧ Cl r.1 r.2.1)  {r : Sh × St × Int}  {π : Sh} {σ : St} {x0 : Int} {x1 : Int} {x3 : Int} {s0 : Int} (hC : Cl π σ) (hv_x0 : x0 < nn π) (hv_x1 : x1 < nn π) (hm : Pc_applyWithFun_149 N rApply π σ x0 x1 x3 s0 = some r) : ext π r.1 ∧ Cl r.1 r.2.1 := by
  have hS := hC.1
  rw [Pc_applyWithFun_149] at hm
  have q := km_Pc_applyWithFun_155 hmrApply  ((cl_nO hC (by decide) (by decide) _)) (lt_ext hv_x0 (ext_nO π 10 14)) lt_nO (lt_ext hv_x1 (ext_nO π 10 14)) hm
  exact ⟨(ext_nO π 10 14).tr q.1, q.2⟩
set_option maxHeartbeats 8000000 in
set_option maxRecDepth 100000 in
theorem km_Pc_applyWithFun_137 {N : Nat} {rApply : Sh → St → Int → Int → Int → Option (Sh × St × Int)} (hmrApply : ∀ {π : Sh} {σ : St} {y0 : Int} {y1 : Int} {y2 : Int} {r : Sh × St × Int}, Cl π σ → y0 < nn π → y1 < nn π → rApply π σ y0 y1 y2 = some r → ext π r.1 ∧ Cl r.1 r.2.1)  {r : Sh × St × Int}  {π : Sh} {σ : St} {x0 : Int} {x1 : Int} {x3 : Int} {s0 : Int} (hC : Cl π σ) (hv_x0 : x0 < nn π) (hv_x1 : x1 < nn π) (hm : Pc_applyWithFun_137 N rApply π σ x0 x1 x3 s0 = some r) : ext π r.1 ∧ Cl r.1 r.2.1 := by
  have hS := hC.1
  rw [Pc_applyWithFun_137] at hm
  obtain ⟨g206, hm⟩ := grd_s hm
  obtain ⟨r207, e208, hm⟩ := obd_s hm
  have q209 := (km_Pc_applyAll hmrApply hC (cl_fl hC (f := 126) rfl x0) hv_x1 e208)
  have q := km_Pc_applyWithFun_149 hmrApply  q209.2 (lt_ext hv_x0 q209.1) (lt_ext hv_x1 q209.1) hm
  exact ⟨q209.1.tr q.1, q.2⟩
set_option maxHeartbeats 8000000 in
set_option maxRecDepth 100000 in
theorem km_Pc_applyWithFun_134 {N : Nat} {rApply : Sh → St → Int → Int → Int → Option (Sh × St × Int)} (hmrApply : ∀ {π : Sh} {σ : St} {y0 : Int} {y1 : Int} {y2 : Int} {r : Sh × St × Int}, Cl π σ → y0 < nn π → y1 < nn π → rApply π σ y0 y1 y2 = some r → ext π r.1 ∧ Cl r.1 r.2.1)  {r : Sh × St × Int}  {π : Sh} {σ : St} {x0 : Int} {x1 : Int} {x3 : Int} {s0 : Int} {s1 : Int} (hC : Cl π σ) (hv_x0 : x0 < nn π) (hv_x1 : x1 < nn π) (hv_s0 : s0 < nn π) (hv_s1 : s1 < nn π) (hm : Pc_applyWithFun_134 N rApply π σ x0 x1 x3 s0 s1 = some r) : ext π r.1 ∧ Cl r.1 r.2.1 := by
  have hS := hC.1
  rw [Pc_applyWithFun_134] at hm
  obtain ⟨r194, e195, hm⟩ := obd_s hm
  have q196 := (km_Df_add hC hv_s1 hv_s0 e195)
  obtain ⟨g197, hm⟩ := grd_s hm
  have q := km_Pc_applyWithFun_137 hmrApply  q196.2 (lt_ext hv_x0 q196.1) (lt_ext hv_x1 q196.1) hm
  exact ⟨q196.1.tr q.1, q.2⟩
set_option maxHeartbeats 8000000 in
set_option maxRecDepth 100000 in
theorem km_Pc_applyWithFun_130 {N : Nat} {rApply : Sh → St → Int → Int → Int → Option (Sh × St × Int)} (hmrApply : ∀ {π : Sh} {σ : St} {y0 : Int} {y1 : Int} {y2 : Int} {r : Sh × St × Int}, Cl π σ → y0 < nn π → y1 < nn π → rApply π σ y0 y1 y2 = some r → ext π r.1 ∧ Cl r.1 r.2.1)  {r : Sh × St × Int}  {π : Sh} {σ : St} {x0 : Int} {x1 : Int} {x2 : Int} {x3 : Int} {s0 : Int} {s1 : Int} (hC : Cl π σ) (hv_x0 : x0 < nn π) (hv_x1 : x1 < nn π) (hv_s0 : s0 < nn π) (hv_s1 : s1 < nn π) (hm : Pc_applyWithFun_130 N rApply π σ x0 x1 x2 x3 s0 s1 = some r) : ext π r.1 ∧ Cl r.1 r.2.1 := by
  have hS := hC.1
  rw [Pc_applyWithFun_130] at hm
  obtain ⟨r181, e182, hm⟩ := obd_s hm
  have q183 := (km_Sp_give hC hv_s0 e182)
  obtain ⟨g184, hm⟩ := grd_s hm
  have q := km_Pc_applyWithFun_134 hmrApply  q183.2.1 (lt_ext hv_x0 q183.1) (lt_ext hv_x1 q183.1) q183.2.2 (lt_ext hv_s1 q183.1) hm
  exact ⟨q183.1.tr q.1, q.2⟩
set_option maxHeartbeats 8000000 in
set_option maxRecDepth 100000 in
theorem km_Pc_applyWithFun_115 {N : Nat} {rApply : Sh → St → Int → Int → Int → Option (Sh × St × Int)} (hmrApply : ∀ {π : Sh} {σ : St} {y0 : Int} {y1 : Int} {y2 : Int} {r : Sh × St × Int}, Cl π σ → y0 < nn π → y1 < nn π → rApply π σ y0 y1 y2 = some r → ext π r.1 ∧ Cl r.1 r.2.1)  {r : Sh × St × Int}  {π : Sh} {σ : St} {x0 : Int} {x1 : Int} {x2 : Int} {x3 : Int} {s0 : Int} {s1 : Int} (hC : Cl π σ) (hv_x0 : x0 < nn π) (hv_x1 : x1 < nn π) (hv_s0 : s0 < nn π) (hv_s1 : s1 < nn π) (hm : Pc_applyWithFun_115 N rApply π σ x0 x1 x2 x3 s0 s1 = some r) : ext π r.1 ∧ Cl r.1 r.2.1 := by
  have hS := hC.1
  rw [Pc_applyWithFun_115] at hm
  obtain ⟨g170, hm⟩ := grd_s hm
  obtain ⟨r171, e172, hm⟩ := obd_s hm
  have q173 := (km_Sp_initB hC hv_s0 e172)
  obtain ⟨g174, hm⟩ := grd_s hm
  have q := km_Pc_applyWithFun_130 hmrApply  q173.2 (lt_ext hv_x0 q173.1) (lt_ext hv_x1 q173.1) (lt_ext hv_s0 q173.1) (lt_ext hv_s1 q173.1) hm
  exact ⟨q173.1.tr q.1, q.2⟩
set_option maxHeartbeats 8000000 in
set_option maxRecDepth 100000 in
theorem km_Pc_applyWithFun_110 {N : Nat} {rApply : Sh → St → Int → Int → Int → Option (Sh × St × Int)} (hmrApply : ∀ {π : Sh} {σ : St} {y0 : Int} {y1 : Int} {y2 : Int} {r : Sh × St × Int}, Cl π σ → y0 < nn π → y1 < nn π → rApply π σ y0 y1 y2 = some r → ext π r.1 ∧ Cl r.1 r.2.1)  {r : Sh × St × Int}  {π : Sh} {σ : St} {x0 : Int} {x1 : Int} {x2 : Int} {s0 : Int} (hC : Cl π σ) (hv_x0 : x0 < nn π) (hv_x1 : x1 < nn π) (hm : Pc_applyWithFun_110 N rApply π σ x0 x1 x2 s0 = some r) : ext π r.1 ∧ Cl r.1 r.2.1 := by
  have hS := hC.1
  rw [Pc_applyWithFun_110] at hm
  have q := km_Pc_applyWithFun_115 hmrApply  ((cl_nO hC (by decide) (by decide) _)) (lt_ext hv_x0 (ext_nO π 10 14)) (lt_ext hv_x1 (ext_nO π 10 14)) lt_nO (lt_ext hv_x1 (ext_nO π 10 14)) hm
  exact ⟨(ext_nO π 10 14).tr q.1, q.2⟩
set_option maxHeartbeats 8000000 in
set_option maxRecDepth 100000 in
theorem km_Pc_applyWithFun_107 {N : Nat} {rApply : Sh → St → Int → Int → Int → Option (Sh × St × Int)} (hmrApply : ∀ {π : Sh} {σ : St} {y0 : Int} {y1 : Int} {y2 : Int} {r : Sh × St × Int}, Cl π σ → y0 < nn π → y1 < nn π → rApply π σ y0 y1 y2 = some r → ext π r.1 ∧ Cl r.1 r.2.1)  {r : Sh × St × Int}  {π : Sh} {σ : St} {x0 : Int} {x1 : Int} {x2 : Int} {s0 : Int} {s1 : Int} (hC : Cl π σ) (hv_x0 : x0 < nn π) (hv_x1 : x1 < nn π) (hv_s0 : s0 < nn π) (hv_s1 : s1 < nn π) (hm : Pc_applyWithFun_107 N rApply π σ x0 x1 x2 s0 s1 = some r) : ext π r.1 ∧ Cl r.1 r.2.1 := by
  have hS := hC.1
  rw [Pc_applyWithFun_107] at hm
  obtain ⟨r116, e117, hm⟩ := obd_s hm
  have q118 := (km_Df_add hC hv_s1 hv_s0 e117)
  obtain ⟨g119, hm⟩ := grd_s hm
  have q := km_Pc_applyWithFun_110 hmrApply  q118.2 (lt_ext hv_x0 q118.1) (lt_ext hv_x1 q118.1) hm
  exact ⟨q118.1.tr q.1, q.2⟩
set_option maxHeartbeats 8000000 in
set_option maxRecDepth 100000 in
theorem km_Pc_applyWithFun_103 {N : Nat} {rApply : Sh → St → Int → Int → Int → Option (Sh × St × Int)} (hmrApply : ∀ {π : Sh} {σ : St} {y0 : Int} {y1 : Int} {y2 : Int} {r : Sh × St × Int}, Cl π σ → y0 < nn π → y1 < nn π → rApply π σ y0 y1 y2 = some r → ext π r.1 ∧ Cl r.1 r.2.1)  {r : Sh × St × Int}  {π : Sh} {σ : St} {x0 : Int} {x1 : Int} {x2 : Int} {s0 : Int} {s1 : Int} (hC : Cl π σ) (hv_x0 : x0 < nn π) (hv_x1 : x1 < nn π) (hv_s0 : s0 < nn π) (hv_s1 : s1 < nn π) (hm : Pc_applyWithFun_103 N rApply π σ x0 x1 x2 s0 s1 = some r) : ext π r.1 ∧ Cl r.1 r.2.1 := by
  have hS := hC.1
  rw [Pc_applyWithFun_103] at hm
  obtain ⟨r84, e85, hm⟩ := obd_s hm
  have q86 := (km_Sp_give hC hv_s0 e85)
  obtain ⟨g87, hm⟩ := grd_s hm
  have q := km_Pc_applyWithFun_107 hmrApply  q86.2.1 (lt_ext hv_x0 q86.1) (lt_ext hv_x1 q86.1) q86.2.2 (lt_ext hv_s1 q86.1) hm
  exact ⟨q86.1.tr q.1, q.2⟩
set_option maxHeartbeats 8000000 in
set_option maxRecDepth 100000 in
theorem km_Pc_applyWithFun_88 {N : Nat} {rApply : Sh → St → Int → Int → Int → Option (Sh × St × Int)} (hmrApply : ∀ {π : Sh} {σ : St} {y0 : Int} {y1 : Int} {y2 : Int} {r : Sh × St × Int}, Cl π σ → y0 < nn π → y1 < nn π → rApply π σ y0 y1 y2 = some r → ext π r.1 ∧ Cl r.1 r.2.1)  {r : Sh × St × Int}  {π : Sh} {σ : St} {x0 : Int} {x1 : Int} {x2 : Int} {s0 : Int} {s1 : Int} (hC : Cl π σ) (hv_x0 : x0 < nn π) (hv_x1 : x1 < nn π) (hv_s0 : s0 < nn π) (hv_s1 : s1 < nn π) (hm : Pc_applyWithFun_88 N rApply π σ x0 x1 x2 s0 s1 = some r) : ext π r.1 ∧ Cl r.1 r.2.1 := by
  have hS := hC.1
  rw [Pc_applyWithFun_88] at hm
  obtain ⟨g45, hm⟩ := grd_s hm
  obtain ⟨r46, e47, hm⟩ := obd_s hm
  have q48 := (km_Sp_initB hC hv_s0 e47)
  obtain ⟨g49, hm⟩ := grd_s hm
  have q := km_Pc_applyWithFun_103 hmrApply  q48.2 (lt_ext hv_x0 q48.1) (lt_ext hv_x1 q48.1) (lt_ext hv_s0 q48.1) (lt_ext hv_s1 q48.1) hm
  exact ⟨q48.1.tr q.1, q.2⟩
set_option maxHeartbeats 8000000 in
set_option maxRecDepth 100000 in
theorem km_Pc_applyWithFun_467 {N : Nat} {rApply : Sh → St → Int → Int → Int → Option (Sh × St × Int)} (hmrApply : ∀ {π : Sh} {σ : St} {y0 : Int} {y1 : Int} {y2 : Int} {r : Sh × St × Int}, Cl π σ → y0 < nn π → y1 < nn π → rApply π σ y0 y1 y2 = some r → ext π r.1 ∧ Cl r.1 r.2.1)  {r : Sh × St × Int}  {π : Sh} {σ : St} {s0 : Int} (hC : Cl π σ)  (hm : Pc_applyWithFun_467 N rApply π σ s0 = some r) : ext π r.1 ∧ Cl r.1 r.2.1 := by
  have hS := hC.1
  rw [Pc_applyWithFun_467] at hm
  cases hm
  exact ⟨ext.rf _, hC⟩
set_option maxHeartbeats 8000000 in
set_option maxRecDepth 100000 in
theorem km_Pc_applyWithFun_464 {N : Nat} {rApply : Sh → St → Int → Int → Int → Option (Sh × St × Int)} (hmrApply : ∀ {π : Sh} {σ : St} {y0 : Int} {y1 : Int} {y2 : Int} {r : Sh × St × Int}, Cl π σ → y0 < nn π → y1 < nn π → rApply π σ y0 y1 y2 = some r → ext π r.1 ∧ Cl r.1 r.2.1)  {r : Sh × St × Int}  {π : Sh} {σ : St} {s0 : Int} {s1 : Int} (hC : Cl π σ) (hv_s0 : s0 < nn π) (hv_s1 : s1 < nn π) (hm : Pc_applyWithFun_464 N rApply π σ s0 s1 = some r) : ext π r.1 ∧ Cl r.1 r.2.1 := by
  have hS := hC.1
  rw [Pc_applyWithFun_464] at hm
  obtain ⟨r162, e163, hm⟩ := obd_s hm
  have q164 := (km_Df_add hC hv_s1 hv_s0 e163)
  obtain ⟨g165, hm⟩ := grd_s hm
  have q := km_Pc_applyWithFun_467 hmrApply  q164.2  hm
  exact ⟨q164.1.tr q.1, q.2⟩
set_option maxHeartbeats 8000000 in
set_option maxRecDepth 100000 in
theorem km_Pc_applyWithFun_460 {N : Nat} {rApply : Sh → St → Int → Int → Int → Option (Sh × St × Int)} (hmrApply : ∀ {π : Sh} {σ : St} {y0 : Int} {y1 : Int} {y2 : Int} {r : Sh × St × Int}, Cl π σ → y0 < nn π → y1 < nn π → rApply π σ y0 y1 y2 = some r → ext π r.1 ∧ Cl r.1 r.2.1)  {r : Sh × St × Int}  {π : Sh} {σ : St} {x3 : Int} {s0 : Int} {s1 : Int} (hC : Cl π σ) (hv_s0 : s0 < nn π) (hv_s1 : s1 < nn π) (hm : Pc_applyWithFun_460 N rApply π σ x3 s0 s1 = some r) : ext π r.1 ∧ Cl r.1 r.2.1 := by
  have hS := hC.1
  rw [Pc_applyWithFun_460] at hm
  obtain ⟨r136, e137, hm⟩ := obd_s hm
  have q138 := (km_Sp_give hC hv_s0 e137)
  obtain ⟨g139, hm⟩ := grd_s hm
  have q := km_Pc_applyWithFun_464 hmrApply  q138.2.1 q138.2.2 (lt_ext hv_s1 q138.1) hm
  exact ⟨q138.1.tr q.1, q.2⟩
set_option maxHeartbeats 8000000 in
set_option maxRecDepth 100000 in
theorem km_Pc_applyWithFun_456 {N : Nat} {rApply : Sh → St → Int → Int → Int → Option (Sh × St × Int)} (hmrApply : ∀ {π : Sh} {σ : St} {y0 : Int} {y1 : Int} {y2 : Int} {r : Sh × St × Int}, Cl π σ → y0 < nn π → y1 < nn π → rApply π σ y0 y1 y2 = some r → ext π r.1 ∧ Cl r.1 r.2.1)  {r : Sh × St × Int}  {π : Sh} {σ : St} {x2 : Int} {x3 : Int} {s0 : Int} {s1 : Int} (hC : Cl π σ) (hv_s0 : s0 < nn π) (hv_s1 : s1 < nn π) (hm : Pc_applyWithFun_456 N rApply π σ x2 x3 s0 s1 = some r) : ext π r.1 ∧ Cl r.1 r.2.1 := by
  have hS := hC.1
  rw [Pc_applyWithFun_456] at hm
  obtain ⟨r104, e105, hm⟩ := obd_s hm
  have q106 := (km_Sp_give hC hv_s0 e105)
  obtain ⟨g107, hm⟩ := grd_s hm
  have q := km_Pc_applyWithFun_460 hmrApply  q106.2.1 q106.2.2 (lt_ext hv_s1 q106.1) hm
  exact ⟨q106.1.tr q.1, q.2⟩
set_option maxHeartbeats 8000000 in
set_option maxRecDepth 100000 in
theorem km_Pc_applyWithFun_446 {N : Nat} {rApply : Sh → St → Int → Int → Int → Option (Sh × St × Int)} (hmrApply : ∀ {π : Sh} {σ : St} {y0 : Int} {y1 : Int} {y2 : Int} {r : Sh × St × Int}, Cl π σ → y0 < nn π → y1 < nn π → rApply π σ y0 y1 y2 = some r → ext π r.1 ∧ Cl r.1 r.2.1)  {r : Sh × St × Int}  {π : Sh} {σ : St} {x0 : Int} {x2 : Int} {x3 : Int} {s0 : Int} {s1 : Int} (hC : Cl π σ) (hv_x0 : x0 < nn π) (hv_s0 : s0 < nn π) (hv_s1 : s1 < nn π) (hm : Pc_applyWithFun_446 N rApply π σ x0 x2 x3 s0 s1 = some r) : ext π r.1 ∧ Cl r.1 r.2.1 := by
  have hS := hC.1
  rw [Pc_applyWithFun_446] at hm
  obtain ⟨g70, hm⟩ := grd_s hm
  obtain ⟨r71, e72, hm⟩ := obd_s hm
  have q73 := (km_Sp_init hC hv_s0 e72)
  obtain ⟨g74, hm⟩ := grd_s hm
  have q := km_Pc_applyWithFun_456 hmrApply  q73.2 (lt_ext hv_s0 q73.1) (lt_ext hv_s1 q73.1) hm
  exact ⟨q73.1.tr q.1, q.2⟩
set_option maxHeartbeats 8000000 in
set_option maxRecDepth 100000 in
theorem km_Pc_applyWithFun_298 {N : Nat} {rApply : Sh → St → Int → Int → Int → Option (Sh × St × Int)} (hmrApply : ∀ {π : Sh} {σ : St} {y0 : Int} {y1 : Int} {y2 : Int} {r : Sh × St × Int}, Cl π σ → y0 < nn π → y1 < nn π → rApply π σ y0 y1 y2 = some r → ext π r.1 ∧ Cl r.1 r.2.1)  {r : Sh × St × Int}  {π : Sh} {σ : St} {s0 : Int} (hC : Cl π σ)  (hm : Pc_applyWithFun_298 N rApply π σ s0 = some r) : ext π r.1 ∧ Cl r.1 r.2.1 := by
  have hS := hC.1
  rw [Pc_applyWithFun_298] at hm
  cases hm
  exact ⟨ext.rf _, hC⟩
set_option maxHeartbeats 8000000 in
set_option maxRecDepth 100000 in
theorem km_Pc_applyWithFun_295 {N : Nat} {rApply : Sh → St → Int → Int → Int → Option (Sh × St × Int)} (hmrApply : ∀ {π : Sh} {σ : St} {y0 : Int} {y1 : Int} {y2 : Int} {r : Sh × St × Int}, Cl π σ → y0 < nn π → y1 < nn π → rApply π σ y0 y1 y2 = some r → ext π r.1 ∧ Cl r.1 r.2.1)  {r : Sh × St × Int}  {π : Sh} {σ : St} {s0 : Int} {s1 : Int} (hC : Cl π σ) (hv_s0 : s0 < nn π) (hv_s1 : s1 < nn π) (hm : Pc_applyWithFun_295 N rApply π σ s0 s1 = some r) : ext π r.1 ∧ Cl r.1 r.2.1 := by
  have hS := hC.1
  rw [Pc_applyWithFun_295] at hm
  obtain ⟨r153, e154, hm⟩ := obd_s hm
  have q155 := (km_Df_add hC hv_s1 hv_s0 e154)
  obtain ⟨g156, hm⟩ := grd_s hm
  have q := km_Pc_applyWithFun_298 hmrApply  q155.2  hm
  exact ⟨q155.1.tr q.1, q.2⟩
set_option maxHeartbeats 8000000 in
set_option maxRecDepth 100000 in
theorem km_Pc_applyWithFun_291 {N : Nat} {rApply : Sh → St → Int → Int → Int → Option (Sh × St × Int)} (hmrApply : ∀ {π : Sh} {σ : St} {y0 : Int} {y1 : Int} {y2 : Int} {r : Sh × St × Int}, Cl π σ → y0 < nn π → y1 < nn π → rApply π σ y0 y1 y2 = some r → ext π r.1 ∧ Cl r.1 r.2.1)  {r : Sh × St × Int}  {π : Sh} {σ : St} {x3 : Int} {s0 : Int} {s1 : Int} (hC : Cl π σ) (hv_s0 : s0 < nn π) (hv_s1 : s1 < nn π) (hm : Pc_applyWithFun_291 N rApply π σ x3 s0 s1 = some r) : ext π r.1 ∧ Cl r.1 r.2.1 := by
  have hS := hC.1
  rw [Pc_applyWithFun_291] at hm
  obtain ⟨r124, e125, hm⟩ := obd_s hm
  have q126 := (km_Sp_give hC hv_s0 e125)
  obtain ⟨g127, hm⟩ := grd_s hm
  have q := km_Pc_applyWithFun_295 hmrApply  q126.2.1 q126.2.2 (lt_ext hv_s1 q126.1) hm
  exact ⟨q126.1.tr q.1, q.2⟩
set_option maxHeartbeats 8000000 in
set_option maxRecDepth 100000 in
theorem km_Pc_applyWithFun_287 {N : Nat} {rApply : Sh → St → Int → Int → Int → Option (Sh × St × Int)} (hmrApply : ∀ {π : Sh} {σ : St} {y0 : Int} {y1 : Int} {y2 : Int} {r : Sh × St × Int}, Cl π σ → y0 < nn π → y1 < nn π → rApply π σ y0 y1 y2 = some r → ext π r.1 ∧ Cl r.1 r.2.1)  {r : Sh × St × Int}  {π : Sh} {σ : St} {x2 : Int} {x3 : Int} {s0 : Int} {s1 : Int} (hC : Cl π σ) (hv_s0 : s0 < nn π) (hv_s1 : s1 < nn π) (hm : Pc_applyWithFun_287 N rApply π σ x2 x3 s0 s1 = some r) : ext π r.1 ∧ Cl r.1 r.2.1 := by
  have hS := hC.1
  rw [Pc_applyWithFun_287] at hm
  obtain ⟨r92, e93, hm⟩ := obd_s hm
  have q94 := (km_Sp_give hC hv_s0 e93)
  obtain ⟨g95, hm⟩ := grd_s hm
  have q := km_Pc_applyWithFun_291 hmrApply  q94.2.1 q94.2.2 (lt_ext hv_s1 q94.1) hm
  exact ⟨q94.1.tr q.1, q.2⟩
set_option maxHeartbeats 8000000 in
set_option maxRecDepth 100000 in
theorem km_Pc_applyWithFun_272 {N : Nat} {rApply : Sh → St → Int → Int → Int → Option (Sh × St × Int)} (hmrApply : ∀ {π : Sh} {σ : St} {y0 : Int} {y1 : Int} {y2 : Int} {r : Sh × St × Int}, Cl π σ → y0 < nn π → y1 < nn π → rApply π σ y0 y1 y2 = some r → ext π r.1 ∧ Cl r.1 r.2.1)  {r : Sh × St × Int}  {π : Sh} {σ : St} {x0 : Int} {x2 : Int} {x3 : Int} {s0 : Int} {s1 : Int} (hC : Cl π σ) (hv_x0 : x0 < nn π) (hv_s0 : s0 < nn π) (hv_s1 : s1 < nn π) (hm : Pc_applyWithFun_272 N rApply π σ x0 x2 x3 s0 s1 = some r) : ext π r.1 ∧ Cl r.1 r.2.1 := by
  have hS := hC.1
  rw [Pc_applyWithFun_272] at hm
  obtain ⟨g55, hm⟩ := grd_s hm
  obtain ⟨r56, e57, hm⟩ := obd_s hm
  have q58 := (km_Sp_initB hC hv_s0 e57)
  obtain ⟨g59, hm⟩ := grd_s hm
  have q := km_Pc_applyWithFun_287 hmrApply  q58.2 (lt_ext hv_s0 q58.1) (lt_ext hv_s1 q58.1) hm
  exact ⟨q58.1.tr q.1, q.2⟩
set_option maxHeartbeats 8000000 in
set_option maxRecDepth 100000 in
theorem km_Pc_applyWithFun_332 {N : Nat} {rApply : Sh → St → Int → Int → Int → Option (Sh × St × Int)} (hmrApply : ∀ {π : Sh} {σ : St} {y0 : Int} {y1 : Int} {y2 : Int} {r : Sh × St × Int}, Cl π σ → y0 < nn π → y1 < nn π → rApply π σ y0 y1 y2 = some r → ext π r.1 ∧ Cl r.1 r.2.1)  {r : Sh × St × Int}  {π : Sh} {σ : St} {s0 : Int} (hC : Cl π σ)  (hm : Pc_applyWithFun_332 N rApply π σ s0 = some r) : ext π r.1 ∧ Cl r.1 r.2.1 := by
  have hS := hC.1
  rw [Pc_applyWithFun_332] at hm
  cases hm
  exact ⟨ext.rf _, hC⟩
set_option maxHeartbeats 8000000 in
set_option maxRecDepth 100000 in
theorem km_Pc_applyWithFun_329 {N : Nat} {rApply : Sh → St → Int → Int → Int → Option (Sh × St × Int)} (hmrApply : ∀ {π : Sh} {σ : St} {y0 : Int} {y1 : Int} {y2 : Int} {r : Sh × St × Int}, Cl π σ → y0 < nn π → y1 < nn π → rApply π σ y0 y1 y2 = some r → ext π r.1 ∧ Cl r.1 r.2.1)  {r : Sh × St × Int}  {π : Sh} {σ : St} {s0 : Int} {s1 : Int} (hC : Cl π σ) (hv_s0 : s0 < nn π) (hv_s1 : s1 < nn π) (hm : Pc_applyWithFun_329 N rApply π σ s0 s1 = some r) : ext π r.1 ∧ Cl r.1 r.2.1 := by
  have hS := hC.1
  rw [Pc_applyWithFun_329] at hm
  obtain ⟨r157, e158, hm⟩ := obd_s hm
  have q159 := (km_Df_add hC hv_s1 hv_s0 e158)
  obtain ⟨g160, hm⟩ := grd_s hm
  have q := km_Pc_applyWithFun_332 hmrApply  q159.2  hm
  exact ⟨q159.1.tr q.1, q.2⟩
set_option maxHeartbeats 8000000 in
set_option maxRecDepth 100000 in
theorem km_Pc_applyWithFun_325 {N : Nat} {rApply : Sh → St → Int → Int → Int → Option (Sh × St × Int)} (hmrApply : ∀ {π : Sh} {σ : St} {y0 : Int} {y1 : Int} {y2 : Int} {r : Sh × St × Int}, Cl π σ → y0 < nn π → y1 < nn π → rApply π σ y0 y1 y2 = some r → ext π r.1 ∧ Cl r.1 r.2.1)  {r : Sh × St × Int}  {π : Sh} {σ : St} {x3 : Int} {s0 : Int} {s1 : Int} (hC : Cl π σ) (hv_s0 : s0 < nn π) (hv_s1 : s1 < nn π) (hm : Pc_applyWithFun_325 N rApply π σ x3 s0 s1 = some r) : ext π r.1 ∧ Cl r.1 r.2.1 := by
  have hS := hC.1
  rw [Pc_applyWithFun_325] at hm
  obtain ⟨r128, e129, hm⟩ := obd_s hm
  have q130 := (km_Sp_give hC hv_s0 e129)
  obtain ⟨g131, hm⟩ := grd_s hm
  have q := km_Pc_applyWithFun_329 hmrApply  q130.2.1 q130.2.2 (lt_ext hv_s1 q130.1) hm
  exact ⟨q130.1.tr q.1, q.2⟩
set_option maxHeartbeats 8000000 in
set_option maxRecDepth 100000 in
theorem km_Pc_applyWithFun_321 {N : Nat} {rApply : Sh → St → Int → Int → Int → Option (Sh × St × Int)} (hmrApply : ∀ {π : Sh} {σ : St} {y0 : Int} {y1 : Int} {y2 : Int} {r : Sh × St × Int}, Cl π σ → y0 < nn π → y1 < nn π → rApply π σ y0 y1 y2 = some r → ext π r.1 ∧ Cl r.1 r.2.1)  {r : Sh × St × Int}  {π : Sh} {σ : St} {x2 : Int} {x3 : Int} {s0 : Int} {s1 : Int} (hC : Cl π σ) (hv_s0 : s0 < nn π) (hv_s1 : s1 < nn π) (hm : Pc_applyWithFun_321 N rApply π σ x2 x3 s0 s1 = some r) : ext π r.1 ∧ Cl r.1 r.2.1 := by
  have hS := hC.1
  rw [Pc_applyWithFun_321] at hm
  obtain ⟨r96, e97, hm⟩ := obd_s hm
  have q98 := (km_Sp_give hC hv_s0 e97)
  obtain ⟨g99, hm⟩ := grd_s hm
  have q := km_Pc_applyWithFun_325 hmrApply  q98.2.1 q98.2.2 (lt_ext hv_s1 q98.1) hm
  exact ⟨q98.1.tr q.1, q.2⟩
set_option maxHeartbeats 8000000 in
set_option maxRecDepth 100000 in
theorem km_Pc_applyWithFun_303 {N : Nat} {rApply : Sh → St → Int → Int → Int → Option (Sh × St × Int)} (hmrApply : ∀ {π : Sh} {σ : St} {y0 : Int} {y1 : Int} {y2 : Int} {r : Sh × St × Int}, Cl π σ → y0 < nn π → y1 < nn π → rApply π σ y0 y1 y2 = some r → ext π r.1 ∧ Cl r.1 r.2.1)  {r : Sh × St × Int}  {π : Sh} {σ : St} {x0 : Int} {x2 : Int} {x3 : Int} {s0 : Int} {s1 : Int} (hC : Cl π σ) (hv_x0 : x0 < nn π) (hv_s0 : s0 < nn π) (hv_s1 : s1 < nn π) (hm : Pc_applyWithFun_303 N rApply π σ x0 x2 x3 s0 s1 = some r) : ext π r.1 ∧ Cl r.1 r.2.1 := by
  have hS := hC.1
  rw [Pc_applyWithFun_303] at hm
  obtain ⟨g60, hm⟩ := grd_s hm
  obtain ⟨r61, e62, hm⟩ := obd_s hm
  have q63 := (km_Sp_initB hC hv_s0 e62)
  obtain ⟨g64, hm⟩ := grd_s hm
  have q := km_Pc_applyWithFun_321 hmrApply  q63.2 (lt_ext hv_s0 q63.1) (lt_ext hv_s1 q63.1) hm
  exact ⟨q63.1.tr q.1, q.2⟩
set_option maxHeartbeats 8000000 in
set_option maxRecDepth 100000 in
theorem km_Pc_applyWithFun_441 {N : Nat} {rApply : Sh → St → Int → Int → Int → Option (Sh × St × Int)} (hmrApply : ∀ {π : Sh} {σ : St} {y0 : Int} {y1 : Int} {y2 : Int} {r : Sh × St × Int}, Cl π σ → y0 < nn π → y1 < nn π → rApply π σ y0 y1 y2 = some r → ext π r.1 ∧ Cl r.1 r.2.1)  {r : Sh × St × Int}  {π : Sh} {σ : St} {s0 : Int} (hC : Cl π σ)  (hm : Pc_applyWithFun_441 N rApply π σ s0 = some r) : ext π r.1 ∧ Cl r.1 r.2.1 := by
  have hS := hC.1
  rw [Pc_applyWithFun_441] at hm
  cases hm
  exact ⟨ext.rf _, hC⟩
set_option maxHeartbeats 8000000 in
set_option maxRecDepth 100000 in
theorem km_Pc_applyWithFun_438 {N : Nat} {rApply : Sh → St → Int → Int → Int → Option (Sh × St × Int)} (hmrApply : ∀ {π : Sh} {σ : St} {y0 : Int} {y1 : Int} {y2 : Int} {r : Sh × St × Int}, Cl π σ → y0 < nn π → y1 < nn π → rApply π σ y0 y1 y2 = some r → ext π r.1 ∧ Cl r.1 r.2.1)  {r : Sh × St × Int}  {π : Sh} {σ : St} {s0 : Int} {s1 : Int} (hC : Cl π σ) (hv_s0 : s0 < nn π) (hv_s1 : s1 < nn π) (hm : Pc_applyWithFun_438 N rApply π σ s0 s1 = some r) : ext π r.1 ∧ Cl r.1 r.2.1 := by
  have hS := hC.1
  rw [Pc_applyWithFun_438] at hm
  obtain ⟨r214, e215, hm⟩ := obd_s hm
  have q216 := (km_Df_add hC hv_s1 hv_s0 e215)
  obtain ⟨g217, hm⟩ := grd_s hm
  have q := km_Pc_applyWithFun_441 hmrApply  q216.2  hm
  exact ⟨q216.1.tr q.1, q.2⟩
set_option maxHeartbeats 8000000 in
set_option maxRecDepth 100000 in
theorem km_Pc_applyWithFun_433 {N : Nat} {rApply : Sh → St → Int → Int → Int → Option (Sh × St × Int)} (hmrApply : ∀ {π : Sh} {σ : St} {y0 : Int} {y1 : Int} {y2 : Int} {r : Sh × St × Int}, Cl π σ → y0 < nn π → y1 < nn π → rApply π σ y0 y1 y2 = some r → ext π r.1 ∧ Cl r.1 r.2.1)  {r : Sh × St × Int}  {π : Sh} {σ : St} {x4 : Int} {s0 : Int} {s1 : Int} (hC : Cl π σ) (hv_s0 : s0 < nn π) (hv_s1 : s1 < nn π) (hm : Pc_applyWithFun_433 N rApply π σ x4 s0 s1 = some r) : ext π r.1 ∧ Cl r.1 r.2.1 := by
  have hS := hC.1
  rw [Pc_applyWithFun_433] at hm
  obtain ⟨r202, e203, hm⟩ := obd_s hm
  have q204 := (km_Sp_give hC hv_s0 e203)
  obtain ⟨g205, hm⟩ := grd_s hm
  have q := km_Pc_applyWithFun_438 hmrApply  q204.2.1 q204.2.2 (lt_ext hv_s1 q204.1) hm
  exact ⟨q204.1.tr q.1, q.2⟩
set_option maxHeartbeats 8000000 in
set_option maxRecDepth 100000 in
theorem km_Pc_applyWithFun_429 {N : Nat} {rApply : Sh → St → Int → Int → Int → Option (Sh × St × Int)} (hmrApply : ∀ {π : Sh} {σ : St} {y0 : Int} {y1 : Int} {y2 : Int} {r : Sh × St × Int}, Cl π σ → y0 < nn π → y1 < nn π → rApply π σ y0 y1 y2 = some r → ext π r.1 ∧ Cl r.1 r.2.1)  {r : Sh × St × Int}  {π : Sh} {σ : St} {x2 : Int} {x4 : Int} {s0 : Int} {s1 : Int} (hC : Cl π σ) (hv_s0 : s0 < nn π) (hv_s1 : s1 < nn π) (hm : Pc_applyWithFun_429 N rApply π σ x2 x4 s0 s1 = some r) : ext π r.1 ∧ Cl r.1 r.2.1 := by
  have hS := hC.1
  rw [Pc_applyWithFun_429] at hm
  obtain ⟨r190, e191, hm⟩ := obd_s hm
  have q192 := (km_Sp_give hC hv_s0 e191)
  obtain ⟨g193, hm⟩ := grd_s hm
  have q := km_Pc_applyWithFun_433 hmrApply  q192.2.1 q192.2.2 (lt_ext hv_s1 q192.1) hm
  exact ⟨q192.1.tr q.1, q.2⟩
set_option maxHeartbeats 8000000 in
set_option maxRecDepth 100000 in
theorem km_Pc_applyWithFun_419 {N : Nat} {rApply : Sh → St → Int → Int → Int → Option (Sh × St × Int)} (hmrApply : ∀ {π : Sh} {σ : St} {y0 : Int} {y1 : Int} {y2 : Int} {r : Sh × St × Int}, Cl π σ → y0 < nn π → y1 < nn π → rApply π σ y0 y1 y2 = some r → ext π r.1 ∧ Cl r.1 r.2.1)  {r : Sh × St × Int}  {π : Sh} {σ : St} {x0 : Int} {x2 : Int} {x4 : Int} {s0 : Int} {s1 : Int} (hC : Cl π σ) (hv_x0 : x0 < nn π) (hv_s0 : s0 < nn π) (hv_s1 : s1 < nn π) (hm : Pc_applyWithFun_419 N rApply π σ x0 x2 x4 s0 s1 = some r) : ext π r.1 ∧ Cl r.1 r.2.1 := by
  have hS := hC.1
  rw [Pc_applyWithFun_419] at hm
  obtain ⟨g176, hm⟩ := grd_s hm
  obtain ⟨r177, e178, hm⟩ := obd_s hm
  have q179 := (km_Sp_init hC hv_s0 e178)
  obtain ⟨g180, hm⟩ := grd_s hm
  have q := km_Pc_applyWithFun_429 hmrApply  q179.2 (lt_ext hv_s0 q179.1) (lt_ext hv_s1 q179.1) hm
  exact ⟨q179.1.tr q.1, q.2⟩
set_option maxHeartbeats 8000000 in
set_option maxRecDepth 100000 in
theorem km_Pc_applyWithFun_413 {N : Nat} {rApply : Sh → St → Int → Int → Int → Option (Sh × St × Int)} (hmrApply : ∀ {π : Sh} {σ : St} {y0 : Int} {y1 : Int} {y2 : Int} {r : Sh × St × Int}, Cl π σ → y0 < nn π → y1 < nn π → rApply π σ y0 y1 y2 = some r → ext π r.1 ∧ Cl r.1 r.2.1)  {r : Sh × St × Int}  {π : Sh} {σ : St} {x0 : Int} {x1 : Int} {x2 : Int} {s0 : Int} (hC : Cl π σ) (hv_x0 : x0 < nn π) (hv_x1 : x1 < nn π) (hm : Pc_applyWithFun_413 N rApply π σ x0 x1 x2 s0 = some r) : ext π r.1 ∧ Cl r.1 r.2.1 := by
  have hS := hC.1
  rw [Pc_applyWithFun_413] at hm
  have q := km_Pc_applyWithFun_419 hmrApply  ((cl_nO hC (by decide) (by decide) _)) (lt_ext hv_x0 (ext_nO π 10 14)) lt_nO (lt_ext hv_x1 (ext_nO π 10 14)) hm
  exact ⟨(ext_nO π 10 14).tr q.1, q.2⟩
set_option maxHeartbeats 8000000 in
set_option maxRecDepth 100000 in
theorem km_Pc_applyWithFun_410 {N : Nat} {rApply : Sh → St → Int → Int → Int → Option (Sh × St × Int)} (hmrApply : ∀ {π : Sh} {σ : St} {y0 : Int} {y1 : Int} {y2 : Int} {r : Sh × St × Int}, Cl π σ → y0 < nn π → y1 < nn π → rApply π σ y0 y1 y2 = some r → ext π r.1 ∧ Cl r.1 r.2.1)  {r : Sh × St × Int}  {π : Sh} {σ : St} {x0 : Int} {x1 : Int} {x2 : Int} {s0 : Int} {s1 : Int} (hC : Cl π σ) (hv_x0 : x0 < nn π) (hv_x1 : x1 < nn π) (hv_s0 : s0 < nn π) (hv_s1 : s1 < nn π) (hm : Pc_applyWithFun_410 N rApply π σ x0 x1 x2 s0 s1 = some r) : ext π r.1 ∧ Cl r.1 r.2.1 := by
  have hS := hC.1
  rw [Pc_applyWithFun_410] at hm
  obtain ⟨r132, e133, hm⟩ := obd_s hm
  have q134 := (km_Df_add hC hv_s1 hv_s0 e133)
  obtain ⟨g135, hm⟩ := grd_s hm
  have q := km_Pc_applyWithFun_413 hmrApply  q134.2 (lt_ext hv_x0 q134.1) (lt_ext hv_x1 q134.1) hm
  exact ⟨q134.1.tr q.1, q.2⟩
set_option maxHeartbeats 8000000 in
set_option maxRecDepth 100000 in
theorem km_Pc_applyWithFun_406 {N : Nat} {rApply : Sh → St → Int → Int → Int → Option (Sh × St × Int)} (hmrApply : ∀ {π : Sh} {σ : St} {y0 : Int} {y1 : Int} {y2 : Int} {r : Sh × St × Int}, Cl π σ → y0 < nn π → y1 < nn π → rApply π σ y0 y1 y2 = some r → ext π r.1 ∧ Cl r.1 r.2.1)  {r : Sh × St × Int}  {π : Sh} {σ : St} {x0 : Int} {x1 : Int} {x2 : Int} {x3 : Int} {s0 : Int} {s1 : Int} (hC : Cl π σ) (hv_x0 : x0 < nn π) (hv_x1 : x1 < nn π) (hv_s0 : s0 < nn π) (hv_s1 : s1 < nn π) (hm : Pc_applyWithFun_406 N rApply π σ x0 x1 x2 x3 s0 s1 = some r) : ext π r.1 ∧ Cl r.1 r.2.1 := by
  have hS := hC.1
  rw [Pc_applyWithFun_406] at hm
  obtain ⟨r100, e101, hm⟩ := obd_s hm
  have q102 := (km_Sp_give hC hv_s0 e101)
  obtain ⟨g103, hm⟩ := grd_s hm
  have q := km_Pc_applyWithFun_410 hmrApply  q102.2.1 (lt_ext hv_x0 q102.1) (lt_ext hv_x1 q102.1) q102.2.2 (lt_ext hv_s1 q102.1) hm
  exact ⟨q102.1.tr q.1, q.2⟩
set_option maxHeartbeats 8000000 in
set_option maxRecDepth 100000 in
theorem km_Pc_applyWithFun_387 {N : Nat} {rApply : Sh → St → Int → Int → Int → Option (Sh × St × Int)} (hmrApply : ∀ {π : Sh} {σ : St} {y0 : Int} {y1 : Int} {y2 : Int} {r : Sh × St × Int}, Cl π σ → y0 < nn π → y1 < nn π → rApply π σ y0 y1 y2 = some r → ext π r.1 ∧ Cl r.1 r.2.1)  {r : Sh × St × Int}  {π : Sh} {σ : St} {x0 : Int} {x1 : Int} {x2 : Int} {x3 : Int} {s0 : Int} {s1 : Int} (hC : Cl π σ) (hv_x0 : x0 < nn π) (hv_x1 : x1 < nn π) (hv_s0 : s0 < nn π) (hv_s1 : s1 < nn π) (hm : Pc_applyWithFun_387 N rApply π σ x0 x1 x2 x3 s0 s1 = some r) : ext π r.1 ∧ Cl r.1 r.2.1 := by
  have hS := hC.1
  rw [Pc_applyWithFun_387] at hm
  obtain ⟨g65, hm⟩ := grd_s hm
  obtain ⟨r66, e67, hm⟩ := obd_s hm
  have q68 := (km_Sp_initB hC hv_s0 e67)
  obtain ⟨g69, hm⟩ := grd_s hm
  have q := km_Pc_applyWithFun_406 hmrApply  q68.2 (lt_ext hv_x0 q68.1) (lt_ext hv_x1 q68.1) (lt_ext hv_s0 q68.1) (lt_ext hv_s1 q68.1) hm
  exact ⟨q68.1.tr q.1, q.2⟩
set_option maxHeartbeats 8000000 in
set_option maxRecDepth 100000 in
theorem km_Pc_applyWithFun_363 {N : Nat} {rApply : Sh → St → Int → Int → Int → Option (Sh × St × Int)} (hmrApply : ∀ {π : Sh} {σ : St} {y0 : Int} {y1 : Int} {y2 : Int} {r : Sh × St × Int}, Cl π σ → y0 < nn π → y1 < nn π → rApply π σ y0 y1 y2 = some r → ext π r.1 ∧ Cl r.1 r.2.1)  {r : Sh × St × Int}  {π : Sh} {σ : St} {s0 : Int} (hC : Cl π σ)  (hm : Pc_applyWithFun_363 N rApply π σ s0 = some r) : ext π r.1 ∧ Cl r.1 r.2.1 := by
  have hS := hC.1
  rw [Pc_applyWithFun_363] at hm
  cases hm
  exact ⟨ext.rf _, hC⟩
set_option maxHeartbeats 8000000 in
set_option maxRecDepth 100000 in
theorem km_Pc_applyWithFun_360 {N : Nat} {rApply : Sh → St → Int → Int → Int → Option (Sh × St × Int)} (hmrApply : ∀ {π : Sh} {σ : St} {y0 : Int} {y1 : Int} {y2 : Int} {r : Sh × St × Int}, Cl π σ → y0 < nn π → y1 < nn π → rApply π σ y0 y1 y2 = some r → ext π r.1 ∧ Cl r.1 r.2.1)  {r : Sh × St × Int}  {π : Sh} {σ : St} {s0 : Int} {s1 : Int} (hC : Cl π σ) (hv_s0 : s0 < nn π) (hv_s1 : s1 < nn π) (hm : Pc_applyWithFun_360 N rApply π σ s0 s1 = some r) : ext π r.1 ∧ Cl r.1 r.2.1 := by
  have hS := hC.1
  rw [Pc_applyWithFun_360] at hm
  obtain ⟨r166, e167, hm⟩ := obd_s hm
  have q168 := (km_Df_add hC hv_s1 hv_s0 e167)
  obtain ⟨g169, hm⟩ := grd_s hm
  have q := km_Pc_applyWithFun_363 hmrApply  q168.2  hm
  exact ⟨q168.1.tr q.1, q.2⟩
set_option maxHeartbeats 8000000 in
set_option maxRecDepth 100000 in
theorem km_Pc_applyWithFun_356 {N : Nat} {rApply : Sh → St → Int → Int → Int → Option (Sh × St × Int)} (hmrApply : ∀ {π : Sh} {σ : St} {y0 : Int} {y1 : Int} {y2 : Int} {r : Sh × St × Int}, Cl π σ → y0 < nn π → y1 < nn π → rApply π σ y0 y1 y2 = some r → ext π r.1 ∧ Cl r.1 r.2.1)  {r : Sh × St × Int}  {π : Sh} {σ : St} {x3 : Int} {s0 : Int} {s1 : Int} (hC : Cl π σ) (hv_s0 : s0 < nn π) (hv_s1 : s1 < nn π) (hm : Pc_applyWithFun_356 N rApply π σ x3 s0 s1 = some r) : ext π r.1 ∧ Cl r.1 r.2.1 := by
  have hS := hC.1
  rw [Pc_applyWithFun_356] at hm
  obtain ⟨r140, e141, hm⟩ := obd_s hm
  have q142 := (km_Sp_give hC hv_s0 e141)
  obtain ⟨g143, hm⟩ := grd_s hm
  have q := km_Pc_applyWithFun_360 hmrApply  q142.2.1 q142.2.2 (lt_ext hv_s1 q142.1) hm
  exact ⟨q142.1.tr q.1, q.2⟩
set_option maxHeartbeats 8000000 in
set_option maxRecDepth 100000 in
theorem km_Pc_applyWithFun_352 {N : Nat} {rApply : Sh → St → Int → Int → Int → Option (Sh × St × Int)} (hmrApply : ∀ {π : Sh} {σ : St} {y0 : Int} {y1 : Int} {y2 : Int} {r : Sh × St × Int}, Cl π σ → y0 < nn π → y1 < nn π → rApply π σ y0 y1 y2 = some r → ext π r.1 ∧ Cl r.1 r.2.1)  {r : Sh × St × Int}  {π : Sh} {σ : St} {x2 : Int} {x3 : Int} {s0 : Int} {s1 : Int} (hC : Cl π σ) (hv_s0 : s0 < nn π) (hv_s1 : s1 < nn π) (hm : Pc_applyWithFun_352 N rApply π σ x2 x3 s0 s1 = some r) : ext π r.1 ∧ Cl r.1 r.2.1 := by
  have hS := hC.1
  rw [Pc_applyWithFun_352] at hm
  obtain ⟨r108, e109, hm⟩ := obd_s hm
  have q110 := (km_Sp_give hC hv_s0 e109)
  obtain ⟨g111, hm⟩ := grd_s hm
  have q := km_Pc_applyWithFun_356 hmrApply  q110.2.1 q110.2.2 (lt_ext hv_s1 q110.1) hm
  exact ⟨q110.1.tr q.1, q.2⟩
set_option maxHeartbeats 8000000 in
set_option maxRecDepth 100000 in
theorem km_Pc_applyWithFun_337 {N : Nat} {rApply : Sh → St → Int → Int → Int → Option (Sh × St × Int)} (hmrApply : ∀ {π : Sh} {σ : St} {y0 : Int} {y1 : Int} {y2 : Int} {r : Sh × St × Int}, Cl π σ → y0 < nn π → y1 < nn π → rApply π σ y0 y1 y2 = some r → ext π r.1 ∧ Cl r.1 r.2.1)  {r : Sh × St × Int}  {π : Sh} {σ : St} {x0 : Int} {x2 : Int} {x3 : Int} {s0 : Int} {s1 : Int} (hC : Cl π σ) (hv_x0 : x0 < nn π) (hv_s0 : s0 < nn π) (hv_s1 : s1 < nn π) (hm : Pc_applyWithFun_337 N rApply π σ x0 x2 x3 s0 s1 = some r) : ext π r.1 ∧ Cl r.1 r.2.1 := by
  have hS := hC.1
  rw [Pc_applyWithFun_337] at hm
  obtain ⟨g75, hm⟩ := grd_s hm
  obtain ⟨r76, e77, hm⟩ := obd_s hm
  have q78 := (km_Sp_initB hC hv_s0 e77)
  obtain ⟨g79, hm⟩ := grd_s hm
  have q := km_Pc_applyWithFun_352 hmrApply  q78.2 (lt_ext hv_s0 q78.1) (lt_ext hv_s1 q78.1) hm
  exact ⟨q78.1.tr q.1, q.2⟩
set_option maxHeartbeats 8000000 in
set_option maxRecDepth 100000 in
theorem km_Pc_applyWithFun_382 {N : Nat} {rApply : Sh → St → Int → Int → Int → Option (Sh × St × Int)} (hmrApply : ∀ {π : Sh} {σ : St} {y0 : Int} {y1 : Int} {y2 : Int} {r : Sh × St × Int}, Cl π σ → y0 < nn π → y1 < nn π → rApply π σ y0 y1 y2 = some r → ext π r.1 ∧ Cl r.1 r.2.1)  {r : Sh × St × Int}  {π : Sh} {σ : St} {s0 : Int} (hC : Cl π σ)  (hm : Pc_applyWithFun_382 N rApply π σ s0 = some r) : ext π r.1 ∧ Cl r.1 r.2.1 := by
  have hS := hC.1
  rw [Pc_applyWithFun_382] at hm
  cases hm
  exact ⟨ext.rf _, hC⟩
set_option maxHeartbeats 8000000 in
set_option maxRecDepth 100000 in
theorem km_Pc_applyWithFun_379 {N : Nat} {rApply : Sh → St → Int → Int → Int → Option (Sh × St × Int)} (hmrApply : ∀ {π : Sh} {σ : St} {y0 : Int} {y1 : Int} {y2 : Int} {r : Sh × St × Int}, Cl π σ → y0 < nn π → y1 < nn π → rApply π σ y0 y1 y2 = some r → ext π r.1 ∧ Cl r.1 r.2.1)  {r : Sh × St × Int}  {π : Sh} {σ : St} {s0 : Int} {s1 : Int} (hC : Cl π σ) (hv_s0 : s0 < nn π) (hv_s1 : s1 < nn π) (hm : Pc_applyWithFun_379 N rApply π σ s0 s1 = some r) : ext π r.1 ∧ Cl r.1 r.2.1 := by
  have hS := hC.1
  rw [Pc_applyWithFun_379] at hm
  obtain ⟨r144, e145, hm⟩ := obd_s hm
  have q146 := (km_Df_add hC hv_s1 hv_s0 e145)
  obtain ⟨g147, hm⟩ := grd_s hm
  have q := km_Pc_applyWithFun_382 hmrApply  q146.2  hm
  exact ⟨q146.1.tr q.1, q.2⟩
set_option maxHeartbeats 8000000 in
set_option maxRecDepth 100000 in
theorem km_Pc_applyWithFun_375 {N : Nat} {rApply : Sh → St → Int → Int → Int → Option (Sh × St × Int)} (hmrApply : ∀ {π : Sh} {σ : St} {y0 : Int} {y1 : Int} {y2 : Int} {r : Sh × St × Int}, Cl π σ → y0 < nn π → y1 < nn π → rApply π σ y0 y1 y2 = some r → ext π r.1 ∧ Cl r.1 r.2.1)  {r : Sh × St × Int}  {π : Sh} {σ : St} {x3 : Int} {s0 : Int} {s1 : Int} (hC : Cl π σ) (hv_s0 : s0 < nn π) (hv_s1 : s1 < nn π) (hm : Pc_applyWithFun_375 N rApply π σ x3 s0 s1 = some r) : ext π r.1 ∧ Cl r.1 r.2.1 := by
  have hS := hC.1
  rw [Pc_applyWithFun_375] at hm
  obtain ⟨r112, e113, hm⟩ := obd_s hm
  have q114 := (km_Sp_give hC hv_s0 e113)
  obtain ⟨g115, hm⟩ := grd_s hm
  have q := km_Pc_applyWithFun_379 hmrApply  q114.2.1 q114.2.2 (lt_ext hv_s1 q114.1) hm
  exact ⟨q114.1.tr q.1, q.2⟩
set_option maxHeartbeats 8000000 in
set_option maxRecDepth 100000 in
theorem km_Pc_applyWithFun_371 {N : Nat} {rApply : Sh → St → Int → Int → Int → Option (Sh × St × Int)} (hmrApply : ∀ {π : Sh} {σ : St} {y0 : Int} {y1 : Int} {y2 : Int} {r : Sh × St × Int}, Cl π σ → y0 < nn π → y1 < nn π → rApply π σ y0 y1 y2 = some r → ext π r.1 ∧ Cl r.1 r.2.1)  {r : Sh × St × Int}  {π : Sh} {σ : St} {x2 : Int} {x3 : Int} {s0 : Int} {s1 : Int} (hC : Cl π σ) (hv_s0 : s0 < nn π) (hv_s1 : s1 < nn π) (hm : Pc_applyWithFun_371 N rApply π σ x2 x3 s0 s1 = some r) : ext π r.1 ∧ Cl r.1 r.2.1 := by
  have hS := hC.1
  rw [Pc_applyWithFun_371] at hm
  obtain ⟨r80, e81, hm⟩ := obd_s hm
  have q82 := (km_Sp_give hC hv_s0 e81)
  obtain ⟨g83, hm⟩ := grd_s hm
  have q := km_Pc_applyWithFun_375 hmrApply  q82.2.1 q82.2.2 (lt_ext hv_s1 q82.1) hm
  exact ⟨q82.1.tr q.1, q.2⟩
set_option maxHeartbeats 8000000 in
set_option maxRecDepth 100000 in
theorem km_Pc_applyWithFun_187 {N : Nat} {rApply : Sh → St → Int → Int → Int → Option (Sh × St × Int)} (hmrApply : ∀ {π : Sh} {σ : St} {y0 : Int} {y1 : Int} {y2 : Int} {r : Sh × St × Int}, Cl π σ → y0 < nn π → y1 < nn π → rApply π σ y0 y1 y2 = some r → ext π r.1 ∧ Cl r.1 r.2.1)  {r : Sh × St × Int}  {π : Sh} {σ : St} {x0 : Int} {x1 : Int} {x2 : Int} {s0 : Int} (hC : Cl π σ) (hv_x0 : x0 < nn π) (hv_x1 : x1 < nn π) (hm : Pc_applyWithFun_187 N rApply π σ x0 x1 x2 s0 = some r) : ext π r.1 ∧ Cl r.1 r.2.1 := by
  have hS := hC.1
  rw [Pc_applyWithFun_187] at hm
  obtain ⟨g10, hm⟩ := grd_s hm
  obtain ⟨g11, hm⟩ := grd_s hm
  by_cases c12 : (fl σ 120 x0) = 5
  · have hm := ite_t c12 hm
    have q := km_Pc_applyWithFun_272 hmrApply  ((cl_nO hC (by decide) (by decide) _)) (lt_ext hv_x0 (ext_nO π 10 14)) lt_nO (lt_ext hv_x1 (ext_nO π 10 14)) hm
    exact ⟨(ext_nO π 10 14).tr q.1, q.2⟩
  have hm := ite_f c12 hm
  by_cases c14 : (fl σ 120 x0) = 6
  · have hm := ite_t c14 hm
    have q := km_Pc_applyWithFun_303 hmrApply  ((cl_nO hC (by decide) (by decide) _)) (lt_ext hv_x0 (ext_nO π 10 14)) lt_nO (lt_ext hv_x1 (ext_nO π 10 14)) hm
    exact ⟨(ext_nO π 10 14).tr q.1, q.2⟩
  have hm := ite_f c14 hm
  by_cases c16 : (fl σ 120 x0) = 7
  · have hm := ite_t c16 hm
    have q := km_Pc_applyWithFun_387 hmrApply  ((cl_nO hC (by decide) (by decide) _)) (lt_ext hv_x0 (ext_nO π 10 14)) (lt_ext hv_x1 (ext_nO π 10 14)) lt_nO (lt_ext hv_x1 (ext_nO π 10 14)) hm
    exact ⟨(ext_nO π 10 14).tr q.1, q.2⟩
  have hm := ite_f c16 hm
  by_cases c18 : (fl σ 120 x0) = 8
  · have hm := ite_t c18 hm
    have q := km_Pc_applyWithFun_446 hmrApply  ((cl_nO hC (by decide) (by decide) _)) (lt_ext hv_x0 (ext_nO π 10 14)) lt_nO (lt_ext hv_x1 (ext_nO π 10 14)) hm
    exact ⟨(ext_nO π 10 14).tr q.1, q.2⟩
  have hm := ite_f c18 hm
  by_cases c20 : (fl σ 120 x0) = 9
  · have hm := ite_t c20 hm
    have q := km_Pc_applyWithFun_446 hmrApply  ((cl_nO hC (by decide) (by decide) _)) (lt_ext hv_x0 (ext_nO π 10 14)) lt_nO (lt_ext hv_x1 (ext_nO π 10 14)) hm
    exact ⟨(ext_nO π 10 14).tr q.1, q.2⟩
  have hm := ite_f c20 hm
  by_cases c22 : (fl σ 120 x0) = 10
  · have hm := ite_t c22 hm
    have q := km_Pc_applyWithFun_446 hmrApply  ((cl_nO hC (by decide) (by decide) _)) (lt_ext hv_x0 (ext_nO π 10 14)) lt_nO (lt_ext hv_x1 (ext_nO π 10 14)) hm
    exact ⟨(ext_nO π 10 14).tr q.1, q.2⟩
  have hm := ite_f c22 hm
  by_cases c24 : (fl σ 120 x0) = 11
  · have hm := ite_t c24 hm
    have q := km_Pc_applyWithFun_337 hmrApply  ((cl_nO hC (by decide) (by decide) _)) (lt_ext hv_x0 (ext_nO π 10 14)) lt_nO (lt_ext hv_x1 (ext_nO π 10 14)) hm
    exact ⟨(ext_nO π 10 14).tr q.1, q.2⟩
  have hm := ite_f c24 hm
  by_cases c26 : (fl σ 120 x0) = 12
  · have hm := ite_t c26 hm
    have q := km_Pc_applyWithFun_446 hmrApply  ((cl_nO hC (by decide) (by decide) _)) (lt_ext hv_x0 (ext_nO π 10 14)) lt_nO (lt_ext hv_x1 (ext_nO π 10 14)) hm
    exact ⟨(ext_nO π 10 14).tr q.1, q.2⟩
  have hm := ite_f c26 hm
  by_cases c28 : (fl σ 120 x0) = 13
  · have hm := ite_t c28 hm
    have q := km_Pc_applyWithFun_446 hmrApply  ((cl_nO hC (by decide) (by decide) _)) (lt_ext hv_x0 (ext_nO π 10 14)) lt_nO (lt_ext hv_x1 (ext_nO π 10 14)) hm
    exact ⟨(ext_nO π 10 14).tr q.1, q.2⟩
  have hm := ite_f c28 hm
  by_cases c30 : (fl σ 120 x0) = 14
  · have hm := ite_t c30 hm
    have q := km_Pc_applyWithFun_446 hmrApply  ((cl_nO hC (by decide) (by decide) _)) (lt_ext hv_x0 (ext_nO π 10 14)) lt_nO (lt_ext hv_x1 (ext_nO π 10 14)) hm
    exact ⟨(ext_nO π 10 14).tr q.1, q.2⟩
  have hm := ite_f c30 hm
  by_cases c32 : (fl σ 120 x0) = 15
  · have hm := ite_t c32 hm
    have q := km_Pc_applyWithFun_446 hmrApply  ((cl_nO hC (by decide) (by decide) _)) (lt_ext hv_x0 (ext_nO π 10 14)) lt_nO (lt_ext hv_x1 (ext_nO π 10 14)) hm
    exact ⟨(ext_nO π 10 14).tr q.1, q.2⟩
  have hm := ite_f c32 hm
  by_cases c34 : (fl σ 120 x0) = 16
  · have hm := ite_t c34 hm
    have q := km_Pc_applyWithFun_446 hmrApply  ((cl_nO hC (by decide) (by decide) _)) (lt_ext hv_x0 (ext_nO π 10 14)) lt_nO (lt_ext hv_x1 (ext_nO π 10 14)) hm
    exact ⟨(ext_nO π 10 14).tr q.1, q.2⟩
  have hm := ite_f c34 hm
  by_cases c36 : (fl σ 120 x0) = 17
  · have hm := ite_t c36 hm
    have q := km_Pc_applyWithFun_446 hmrApply  ((cl_nO hC (by decide) (by decide) _)) (lt_ext hv_x0 (ext_nO π 10 14)) lt_nO (lt_ext hv_x1 (ext_nO π 10 14)) hm
    exact ⟨(ext_nO π 10 14).tr q.1, q.2⟩
  have hm := ite_f c36 hm
  by_cases c38 : (fl σ 120 x0) = 18
  · have hm := ite_t c38 hm
    have q := km_Pc_applyWithFun_446 hmrApply  ((cl_nO hC (by decide) (by decide) _)) (lt_ext hv_x0 (ext_nO π 10 14)) lt_nO (lt_ext hv_x1 (ext_nO π 10 14)) hm
    exact ⟨(ext_nO π 10 14).tr q.1, q.2⟩
  have hm := ite_f c38 hm
  by_cases c40 : (fl σ 120 x0) = 19
  · have hm := ite_t c40 hm
    obtain ⟨r41, e42, hm⟩ := obd_s hm
    have q43 := (km_Pc_spanStep hC hv_x0 e42)
    have q := km_Pc_applyWithFun_371 hmrApply  q43.2.1 q43.2.2 (lt_ext hv_x1 q43.1) hm
    exact ⟨q43.1.tr q.1, q.2⟩
  have hm := ite_f c40 hm
  have q := km_Pc_applyWithFun_446 hmrApply  ((cl_nO hC (by decide) (by decide) _)) (lt_ext hv_x0 (ext_nO π 10 14)) lt_nO (lt_ext hv_x1 (ext_nO π 10 14)) hm
  exact ⟨(ext_nO π 10 14).tr q.1, q.2⟩
set_option maxHeartbeats 8000000 in
set_option maxRecDepth 100000 in
theorem km_Pc_applyWithFun {N : Nat} {rApply : Sh → St → Int → Int → Int → Option (Sh × St × Int)} (hmrApply : ∀ {π : Sh} {σ : St} {y0 : Int} {y1 : Int} {y2 : Int} {r : Sh × St × Int}, Cl π σ → y0 < nn π → y1 < nn π → rApply π σ y0 y1 y2 = some r → ext π r.1 ∧ Cl r.1 r.2.1) {π : Sh} {σ : St} {x0 : Int} {x1 : Int} {x2 : Int} {r : Sh × St × Int} (hC : Cl π σ) (hv_x0 : x0 < nn π) (hv_x1 : x1 < nn π) (hm : Pc_applyWithFun N rApply π σ x0 x1 x2 = some r) : ext π r.1 ∧ Cl r.1 r.2.1 := by
  have hS := hC.1
  rw [Pc_applyWithFun] at hm
  obtain ⟨g1, hm⟩ := grd_s hm
  obtain ⟨g2, hm⟩ := grd_s hm
  by_cases c3 : (fl σ 120 x0) = 12
  · have hm := ite_t c3 hm
    have q := km_Pc_applyWithFun_13 hmrApply  ((cl_nO hC (by decide) (by decide) _)) (lt_ext hv_x0 (ext_nO π 10 14)) (lt_ext hv_x1 (ext_nO π 10 14)) lt_nO (lt_ext hv_x1 (ext_nO π 10 14)) hm
    exact ⟨(ext_nO π 10 14).tr q.1, q.2⟩
  · have hm := ite_f c3 hm
    by_cases c4 : (fl σ 120 x0) = 18
    · have hm := ite_t c4 hm
      have q := km_Pc_applyWithFun_88 hmrApply  ((cl_nO hC (by decide) (by decide) _)) (lt_ext hv_x0 (ext_nO π 10 14)) (lt_ext hv_x1 (ext_nO π 10 14)) lt_nO (lt_ext hv_x1 (ext_nO π 10 14)) hm
      exact ⟨(ext_nO π 10 14).tr q.1, q.2⟩
    · have hm := ite_f c4 hm
      obtain ⟨r5, e6, hm⟩ := obd_s hm
      have q7 := (km_Pc_applyAll hmrApply hC (cl_fl hC (f := 126) rfl x0) hv_x1 e6)
      have q := km_Pc_applyWithFun_187 hmrApply  q7.2 (lt_ext hv_x0 q7.1) (lt_ext hv_x1 q7.1) hm
      exact ⟨q7.1.tr q.1, q.2⟩
set_option maxHeartbeats 8000000 in
set_option maxRecDepth 100000 in
theorem km_Pc_useStep_42 {N : Nat}    {r : Sh × St × Int} {rec24 : Sh → St → Int → Int → Int → Option (Sh × St × Int)} (krec24 : ∀ {π : Sh} {σ : St} {x0 : Int} {x1 : Int} {x2 : Int}, Cl π σ → x0 < nn π → x1 < nn π → rec24 π σ x0 x1 x2 = some r → ext π r.1 ∧ Cl r.1 r.2.1 ∧ r.2.2 < nn r.1) {π : Sh} {σ : St} {x0 : Int} {x1 : Int} {x2 : Int} {s0 : Int} (hC : Cl π σ) (hv_x0 : x0 < nn π) (hv_x1 : x1 < nn π) (hv_s0 : s0 < nn π) (hm : Pc_useStep_42 N rec24 π σ x0 x1 x2 s0 = some r) : ext π r.1 ∧ Cl r.1 r.2.1 ∧ r.2.2 < nn r.1 := by
  have hS := hC.1
  rw [Pc_useStep_42] at hm
  exact krec24 hC hv_x0 hv_x1 hm
set_option maxHeartbeats 8000000 in
set_option maxRecDepth 100000 in
theorem km_Pc_useStep_24 {N : Nat}    {r : Sh × St × Int}  (n : Nat) : ∀ {π : Sh} {σ : St} {x0 : Int} {x1 : Int} {x2 : Int}, Cl π σ → x0 < nn π → x1 < nn π → Pc_useStep_24 N n π σ x0 x1 x2 = some r → ext π r.1 ∧ Cl r.1 r.2.1 ∧ r.2.2 < nn r.1 := by
  induction n with
  | zero => intro π σ x0 x1 x2 hC hv_x0 hv_x1 hm; cases (show none = some r from hm)
  | succ n krec24 =>
    intro π σ x0 x1 x2 hC hv_x0 hv_x1 hm
    have hS := hC.1
    rw [Pc_useStep_24] at hm
    obtain ⟨g9, hm⟩ := grd_s hm
    obtain ⟨g10, hm⟩ := grd_s hm
    obtain ⟨g11, hm⟩ := grd_s hm
    by_cases c12 : x2 < (fl σ 130 x0)
    · have hm := ite_t c12 hm
      obtain ⟨g13, hm⟩ := grd_s hm
      obtain ⟨g14, hm⟩ := grd_s hm
      obtain ⟨r15, e16, hm⟩ := obd_s hm
      have q17 := (km_Sp_give hC hv_x1 e16)
      obtain ⟨g18, hm⟩ := grd_s hm
      have q := km_Pc_useStep_42  krec24 q17.2.1 (lt_ext hv_x0 q17.1) (lt_ext hv_x1 q17.1) q17.2.2 hm
      exact ⟨q17.1.tr q.1, q.2⟩
    · have hm := ite_f c12 hm
      cases hm
      exact ⟨ext.rf _, hC, hv_x1⟩
set_option maxHeartbeats 8000000 in
set_option maxRecDepth 100000 in
theorem km_Pc_useStep_13 {N : Nat}    {r : Sh × St × Int}  {π : Sh} {σ : St} {x0 : Int} {s0 : Int} (hC : Cl π σ) (hv_x0 : x0 < nn π) (hv_s0 : s0 < nn π) (hm : Pc_useStep_13 N π σ x0 s0 = some r) : ext π r.1 ∧ Cl r.1 r.2.1 ∧ r.2.2 < nn r.1 := by
  have hS := hC.1
  rw [Pc_useStep_13] at hm
  obtain ⟨g7, hm⟩ := grd_s hm
  obtain ⟨g8, hm⟩ := grd_s hm
  exact km_Pc_useStep_24 N (cl_sfR hC _ _ (cl_fl hC (f := 128) rfl x0)) hv_x0 hv_s0 hm
set_option maxHeartbeats 8000000 in
set_option maxRecDepth 100000 in
theorem km_Pc_useStep_3 {N : Nat}    {r : Sh × St × Int}  {π : Sh} {σ : St} {x0 : Int} {s0 : Int} (hC : Cl π σ) (hv_x0 : x0 < nn π) (hv_s0 : s0 < nn π) (hm : Pc_useStep_3 N π σ x0 s0 = some r) : ext π r.1 ∧ Cl r.1 r.2.1 ∧ r.2.2 < nn r.1 := by
  have hS := hC.1
  rw [Pc_useStep_3] at hm
  obtain ⟨g2, hm⟩ := grd_s hm
  obtain ⟨r3, e4, hm⟩ := obd_s hm
  have q5 := (km_Sp_init hC hv_s0 e4)
  obtain ⟨g6, hm⟩ := grd_s hm
  have q := km_Pc_useStep_13   q5.2 (lt_ext hv_x0 q5.1) (lt_ext hv_s0 q5.1) hm
  exact ⟨q5.1.tr q.1, q.2⟩
set_option maxHeartbeats 8000000 in
set_option maxRecDepth 100000 in
theorem km_Pc_useStep {N : Nat}   {π : Sh} {σ : St} {x0 : Int} {r : Sh × St × Int} (hC : Cl π σ) (hv_x0 : x0 < nn π) (hm : Pc_useStep N π σ x0 = some r) : ext π r.1 ∧ Cl r.1 r.2.1 ∧ r.2.2 < nn r.1 := by
  have hS := hC.1
  rw [Pc_useStep] at hm
  have q := km_Pc_useStep_3   ((cl_nO hC (by decide) (by decide) _)) (lt_ext hv_x0 (ext_nO π 10 14)) lt_nO hm
  exact ⟨(ext_nO π 10 14).tr q.1, q.2⟩
set_option maxHeartbeats 8000000 in
set_option maxRecDepth 100000 in
theorem km_Pc_apply_536 {N : Nat} {rApply : Sh → St → Int → Int → Int → Option (Sh × St × Int)} (hmrApply : ∀ {π : Sh} {σ : St} {y0 : Int} {y1 : Int} {y2 : Int} {r : Sh × St × Int}, Cl π σ → y0 < nn π → y1 < nn π → rApply π σ y0 y1 y2 = some r → ext π r.1 ∧ Cl r.1 r.2.1)  {r : Sh × St × Int}  {π : Sh} {σ : St} {s0 : Int} (hC : Cl π σ)  (hm : Pc_apply_536 N rApply π σ s0 = some r) : ext π r.1 ∧ Cl r.1 r.2.1 := by
  have hS := hC.1
  rw [Pc_apply_536] at hm
  cases hm
  exact ⟨ext.rf _, hC⟩
set_option maxHeartbeats 8000000 in
set_option maxRecDepth 100000 in
theorem km_Pc_apply_145 {N : Nat} {rApply : Sh → St → Int → Int → Int → Option (Sh × St × Int)} (hmrApply : ∀ {π : Sh} {σ : St} {y0 : Int} {y1 : Int} {y2 : Int} {r : Sh × St × Int}, Cl π σ → y0 < nn π → y1 < nn π → rApply π σ y0 y1 y2 = some r → ext π r.1 ∧ Cl r.1 r.2.1)  {r : Sh × St × Int}  {π : Sh} {σ : St} {s0 : Int} (hC : Cl π σ)  (hm : Pc_apply_145 N rApply π σ s0 = some r) : ext π r.1 ∧ Cl r.1 r.2.1 := by
  have hS := hC.1
  rw [Pc_apply_145] at hm
  cases hm
  exact ⟨ext.rf _, hC⟩
set_option maxHeartbeats 8000000 in
set_option maxRecDepth 100000 in
theorem km_Pc_apply_142 {N : Nat} {rApply : Sh → St → Int → Int → Int → Option (Sh × St × Int)} (hmrApply : ∀ {π : Sh} {σ : St} {y0 : Int} {y1 : Int} {y2 : Int} {r : Sh × St × Int}, Cl π σ → y0 < nn π → y1 < nn π → rApply π σ y0 y1 y2 = some r → ext π r.1 ∧ Cl r.1 r.2.1)  {r : Sh × St × Int}  {π : Sh} {σ : St} {s0 : Int} {s1 : Int} (hC : Cl π σ) (hv_s0 : s0 < nn π) (hv_s1 : s1 < nn π) (hm : Pc_apply_142 N rApply π σ s0 s1 = some r) : ext π r.1 ∧ Cl r.1 r.2.1 := by
  have hS := hC.1
  rw [Pc_apply_142] at hm
  obtain ⟨r215, e216, hm⟩ := obd_s hm
  have q217 := (km_Df_add hC hv_s1 hv_s0 e216)
  obtain ⟨g218, hm⟩ := grd_s hm
  have q := km_Pc_apply_145 hmrApply  q217.2  hm
  exact ⟨q217.1.tr q.1, q.2⟩
set_option maxHeartbeats 8000000 in
set_option maxRecDepth 100000 in
theorem km_Pc_apply_138 {N : Nat} {rApply : Sh → St → Int → Int → Int → Option (Sh × St × Int)} (hmrApply : ∀ {π : Sh} {σ : St} {y0 : Int} {y1 : Int} {y2 : Int} {r : Sh × St × Int}, Cl π σ → y0 < nn π → y1 < nn π → rApply π σ y0 y1 y2 = some r → ext π r.1 ∧ Cl r.1 r.2.1)  {r : Sh × St × Int}  {π : Sh} {σ : St} {x2 : Int} {s0 : Int} {s1 : Int} (hC : Cl π σ) (hv_s0 : s0 < nn π) (hv_s1 : s1 < nn π) (hm : Pc_apply_138 N rApply π σ x2 s0 s1 = some r) : ext π r.1 ∧ Cl r.1 r.2.1 := by
  have hS := hC.1
  rw [Pc_apply_138] at hm
  obtain ⟨r149, e150, hm⟩ := obd_s hm
  have q151 := (km_Sp_give hC hv_s0 e150)
  obtain ⟨g152, hm⟩ := grd_s hm
  have q := km_Pc_apply_142 hmrApply  q151.2.1 q151.2.2 (lt_ext hv_s1 q151.1) hm
  exact ⟨q151.1.tr q.1, q.2⟩
set_option maxHeartbeats 8000000 in
set_option maxRecDepth 100000 in
theorem km_Pc_apply_120 {N : Nat} {rApply : Sh → St → Int → Int → Int → Option (Sh × St × Int)} (hmrApply : ∀ {π : Sh} {σ : St} {y0 : Int} {y1 : Int} {y2 : Int} {r : Sh × St × Int}, Cl π σ → y0 < nn π → y1 < nn π → rApply π σ y0 y1 y2 = some r → ext π r.1 ∧ Cl r.1 r.2.1)  {r : Sh × St × Int}  {π : Sh} {σ : St} {x0 : Int} {x2 : Int} {s0 : Int} {s1 : Int} (hC : Cl π σ) (hv_x0 : x0 < nn π) (hv_s0 : s0 < nn π) (hv_s1 : s1 < nn π) (hm : Pc_apply_120 N rApply π σ x0 x2 s0 s1 = some r) : ext π r.1 ∧ Cl r.1 r.2.1 := by
  have hS := hC.1
  rw [Pc_apply_120] at hm
  obtain ⟨g76, hm⟩ := grd_s hm
  obtain ⟨r77, e78, hm⟩ := obd_s hm
  have q79 := (km_Sp_initB hC hv_s0 e78)
  obtain ⟨g80, hm⟩ := grd_s hm
  have q := km_Pc_apply_138 hmrApply  q79.2 (lt_ext hv_s0 q79.1) (lt_ext hv_s1 q79.1) hm
  exact ⟨q79.1.tr q.1, q.2⟩
set_option maxHeartbeats 8000000 in
set_option maxRecDepth 100000 in
theorem km_Pc_apply_175 {N : Nat} {rApply : Sh → St → Int → Int → Int → Option (Sh × St × Int)} (hmrApply : ∀ {π : Sh} {σ : St} {y0 : Int} {y1 : Int} {y2 : Int} {r : Sh × St × Int}, Cl π σ → y0 < nn π → y1 < nn π → rApply π σ y0 y1 y2 = some r → ext π r.1 ∧ Cl r.1 r.2.1)  {r : Sh × St × Int}  {π : Sh} {σ : St} {s0 : Int} (hC : Cl π σ)  (hm : Pc_apply_175 N rApply π σ s0 = some r) : ext π r.1 ∧ Cl r.1 r.2.1 := by
  have hS := hC.1
  rw [Pc_apply_175] at hm
  cases hm
  exact ⟨ext.rf _, hC⟩
set_option maxHeartbeats 8000000 in
set_option maxRecDepth 100000 in
theorem km_Pc_apply_172 {N : Nat} {rApply : Sh → St → Int → Int → Int → Option (Sh × St × Int)} (hmrApply : ∀ {π : Sh} {σ : St} {y0 : Int} {y1 : Int} {y2 : Int} {r : Sh × St × Int}, Cl π σ → y0 < nn π → y1 < nn π → rApply π σ y0 y1 y2 = some r → ext π r.1 ∧ Cl r.1 r.2.1)  {r : Sh × St × Int}  {π : Sh} {σ : St} {s0 : Int} {s1 : Int} (hC : Cl π σ) (hv_s0 : s0 < nn π) (hv_s1 : s1 < nn π) (hm : Pc_apply_172 N rApply π σ s0 s1 = some r) : ext π r.1 ∧ Cl r.1 r.2.1 := by
  have hS := hC.1
  rw [Pc_apply_172] at hm
  obtain ⟨r219, e220, hm⟩ := obd_s hm
  have q221 := (km_Df_add hC hv_s1 hv_s0 e220)
  obtain ⟨g222, hm⟩ := grd_s hm
  have q := km_Pc_apply_175 hmrApply  q221.2  hm
  exact ⟨q221.1.tr q.1, q.2⟩
set_option maxHeartbeats 8000000 in
set_option maxRecDepth 100000 in
theorem km_Pc_apply_168 {N : Nat} {rApply : Sh → St → Int → Int → Int → Option (Sh × St × Int)} (hmrApply : ∀ {π : Sh} {σ : St} {y0 : Int} {y1 : Int} {y2 : Int} {r : Sh × St × Int}, Cl π σ → y0 < nn π → y1 < nn π → rApply π σ y0 y1 y2 = some r → ext π r.1 ∧ Cl r.1 r.2.1)  {r : Sh × St × Int}  {π : Sh} {σ : St} {x2 : Int} {s0 : Int} {s1 : Int} (hC : Cl π σ) (hv_s0 : s0 < nn π) (hv_s1 : s1 < nn π) (hm : Pc_apply_168 N rApply π σ x2 s0 s1 = some r) : ext π r.1 ∧ Cl r.1 r.2.1 := by
  have hS := hC.1
  rw [Pc_apply_168] at hm
  obtain ⟨r153, e154, hm⟩ := obd_s hm
  have q155 := (km_Sp_give hC hv_s0 e154)
  obtain ⟨g156, hm⟩ := grd_s hm
  have q := km_Pc_apply_172 hmrApply  q155.2.1 q155.2.2 (lt_ext hv_s1 q155.1) hm
  exact ⟨q155.1.tr q.1, q.2⟩
set_option maxHeartbeats 8000000 in
set_option maxRecDepth 100000 in
theorem km_Pc_apply_150 {N : Nat} {rApply : Sh → St → Int → Int → Int → Option (Sh × St × Int)} (hmrApply : ∀ {π : Sh} {σ : St} {y0 : Int} {y1 : Int} {y2 : Int} {r : Sh × St × Int}, Cl π σ → y0 < nn π → y1 < nn π → rApply π σ y0 y1 y2 = some r → ext π r.1 ∧ Cl r.1 r.2.1)  {r : Sh × St × Int}  {π : Sh} {σ : St} {x0 : Int} {x2 : Int} {s0 : Int} {s1 : Int} (hC : Cl π σ) (hv_x0 : x0 < nn π) (hv_s0 : s0 < nn π) (hv_s1 : s1 < nn π) (hm : Pc_apply_150 N rApply π σ x0 x2 s0 s1 = some r) : ext π r.1 ∧ Cl r.1 r.2.1 := by
  have hS := hC.1
  rw [Pc_apply_150] at hm
  obtain ⟨g81, hm⟩ := grd_s hm
  obtain ⟨r82, e83, hm⟩ := obd_s hm
  have q84 := (km_Sp_initB hC hv_s0 e83)
  obtain ⟨g85, hm⟩ := grd_s hm
  have q := km_Pc_apply_168 hmrApply  q84.2 (lt_ext hv_s0 q84.1) (lt_ext hv_s1 q84.1) hm
  exact ⟨q84.1.tr q.1, q.2⟩
set_option maxHeartbeats 8000000 in
set_option maxRecDepth 100000 in
theorem km_Pc_apply_205 {N : Nat} {rApply : Sh → St → Int → Int → Int → Option (Sh × St × Int)} (hmrApply : ∀ {π : Sh} {σ : St} {y0 : Int} {y1 : Int} {y2 : Int} {r : Sh × St × Int}, Cl π σ → y0 < nn π → y1 < nn π → rApply π σ y0 y1 y2 = some r → ext π r.1 ∧ Cl r.1 r.2.1)  {r : Sh × St × Int}  {π : Sh} {σ : St} {s0 : Int} (hC : Cl π σ)  (hm : Pc_apply_205 N rApply π σ s0 = some r) : ext π r.1 ∧ Cl r.1 r.2.1 := by
  have hS := hC.1
  rw [Pc_apply_205] at hm
  cases hm
  exact ⟨ext.rf _, hC⟩
set_option maxHeartbeats 8000000 in
set_option maxRecDepth 100000 in
theorem km_Pc_apply_202 {N : Nat} {rApply : Sh → St → Int → Int → Int → Option (Sh × St × Int)} (hmrApply : ∀ {π : Sh} {σ : St} {y0 : Int} {y1 : Int} {y2 : Int} {r : Sh × St × Int}, Cl π σ → y0 < nn π → y1 < nn π → rApply π σ y0 y1 y2 = some r → ext π r.1 ∧ Cl r.1 r.2.1)  {r : Sh × St × Int}  {π : Sh} {σ : St} {s0 : Int} {s1 : Int} (hC : Cl π σ) (hv_s0 : s0 < nn π) (hv_s1 : s1 < nn π) (hm : Pc_apply_202 N rApply π σ s0 s1 = some r) : ext π r.1 ∧ Cl r.1 r.2.1 := by
  have hS := hC.1
  rw [Pc_apply_202] at hm
  obtain ⟨r223, e224, hm⟩ := obd_s hm
  have q225 := (km_Df_add hC hv_s1 hv_s0 e224)
  obtain ⟨g226, hm⟩ := grd_s hm
  have q := km_Pc_apply_205 hmrApply  q225.2  hm
  exact ⟨q225.1.tr q.1, q.2⟩
set_option maxHeartbeats 8000000 in
set_option maxRecDepth 100000 in
theorem km_Pc_apply_198 {N : Nat} {rApply : Sh → St → Int → Int → Int → Option (Sh × St × Int)} (hmrApply : ∀ {π : Sh} {σ : St} {y0 : Int} {y1 : Int} {y2 : Int} {r : Sh × St × Int}, Cl π σ → y0 < nn π → y1 < nn π → rApply π σ y0 y1 y2 = some r → ext π r.1 ∧ Cl r.1 r.2.1)  {r : Sh × St × Int}  {π : Sh} {σ : St} {x2 : Int} {s0 : Int} {s1 : Int} (hC : Cl π σ) (hv_s0 : s0 < nn π) (hv_s1 : s1 < nn π) (hm : Pc_apply_198 N rApply π σ x2 s0 s1 = some r) : ext π r.1 ∧ Cl r.1 r.2.1 := by
  have hS := hC.1
  rw [Pc_apply_198] at hm
  obtain ⟨r157, e158, hm⟩ := obd_s hm
  have q159 := (km_Sp_give hC hv_s0 e158)
  obtain ⟨g160, hm⟩ := grd_s hm
  have q := km_Pc_apply_202 hmrApply  q159.2.1 q159.2.2 (lt_ext hv_s1 q159.1) hm
  exact ⟨q159.1.tr q.1, q.2⟩
set_option maxHeartbeats 8000000 in
set_option maxRecDepth 100000 in
theorem km_Pc_apply_180 {N : Nat} {rApply : Sh → St → Int → Int → Int → Option (Sh × St × Int)} (hmrApply : ∀ {π : Sh} {σ : St} {y0 : Int} {y1 : Int} {y2 : Int} {r : Sh × St × Int}, Cl π σ → y0 < nn π → y1 < nn π → rApply π σ y0 y1 y2 = some r → ext π r.1 ∧ Cl r.1 r.2.1)  {r : Sh × St × Int}  {π : Sh} {σ : St} {x0 : Int} {x2 : Int} {s0 : Int} {s1 : Int} (hC : Cl π σ) (hv_x0 : x0 < nn π) (hv_s0 : s0 < nn π) (hv_s1 : s1 < nn π) (hm : Pc_apply_180 N rApply π σ x0 x2 s0 s1 = some r) : ext π r.1 ∧ Cl r.1 r.2.1 := by
  have hS := hC.1
  rw [Pc_apply_180] at hm
  obtain ⟨g86, hm⟩ := grd_s hm
  obtain ⟨r87, e88, hm⟩ := obd_s hm
  have q89 := (km_Sp_initB hC hv_s0 e88)
  obtain ⟨g90, hm⟩ := grd_s hm
  have q := km_Pc_apply_198 hmrApply  q89.2 (lt_ext hv_s0 q89.1) (lt_ext hv_s1 q89.1) hm
  exact ⟨q89.1.tr q.1, q.2⟩
set_option maxHeartbeats 8000000 in
set_option maxRecDepth 100000 in
theorem km_Pc_apply_236 {N : Nat} {rApply : Sh → St → Int → Int → Int → Option (Sh × St × Int)} (hmrApply : ∀ {π : Sh} {σ : St} {y0 : Int} {y1 : Int} {y2 : Int} {r : Sh × St × Int}, Cl π σ → y0 < nn π → y1 < nn π → rApply π σ y0 y1 y2 = some r → ext π r.1 ∧ Cl r.1 r.2.1)  {r : Sh × St × Int}  {π : Sh} {σ : St} {s0 : Int} (hC : Cl π σ)  (hm : Pc_apply_236 N rApply π σ s0 = some r) : ext π r.1 ∧ Cl r.1 r.2.1 := by
  have hS := hC.1
  rw [Pc_apply_236] at hm
  cases hm
  exact ⟨ext.rf _, hC⟩
set_option maxHeartbeats 8000000 in
set_option maxRecDepth 100000 in
theorem km_Pc_apply_233 {N : Nat} {rApply : Sh → St → Int → Int → Int → Option (Sh × St × Int)} (hmrApply : ∀ {π : Sh} {σ : St} {y0 : Int} {y1 : Int} {y2 : Int} {r : Sh × St × Int}, Cl π σ → y0 < nn π → y1 < nn π → rApply π σ y0 y1 y2 = some r → ext π r.1 ∧ Cl r.1 r.2.1)  {r : Sh × St × Int}  {π : Sh} {σ : St} {s0 : Int} {s1 : Int} (hC : Cl π σ) (hv_s0 : s0 < nn π) (hv_s1 : s1 < nn π) (hm : Pc_apply_233 N rApply π σ s0 s1 = some r) : ext π r.1 ∧ Cl r.1 r.2.1 := by
  have hS := hC.1
  rw [Pc_apply_233] at hm
  obtain ⟨r227, e228, hm⟩ := obd_s hm
  have q229 := (km_Df_add hC hv_s1 hv_s0 e228)
  obtain ⟨g230, hm⟩ := grd_s hm
  have q := km_Pc_apply_236 hmrApply  q229.2  hm
  exact ⟨q229.1.tr q.1, q.2⟩
set_option maxHeartbeats 8000000 in
set_option maxRecDepth 100000 in
theorem km_Pc_apply_229 {N : Nat} {rApply : Sh → St → Int → Int → Int → Option (Sh × St × Int)} (hmrApply : ∀ {π : Sh} {σ : St} {y0 : Int} {y1 : Int} {y2 : Int} {r : Sh × St × Int}, Cl π σ → y0 < nn π → y1 < nn π → rApply π σ y0 y1 y2 = some r → ext π r.1 ∧ Cl r.1 r.2.1)  {r : Sh × St × Int}  {π : Sh} {σ : St} {x2 : Int} {s0 : Int} {s1 : Int} (hC : Cl π σ) (hv_s0 : s0 < nn π) (hv_s1 : s1 < nn π) (hm : Pc_apply_229 N rApply π σ x2 s0 s1 = some r) : ext π r.1 ∧ Cl r.1 r.2.1 := by
  have hS := hC.1
  rw [Pc_apply_229] at hm
  obtain ⟨r161, e162, hm⟩ := obd_s hm
  have q163 := (km_Sp_give hC hv_s0 e162)
  obtain ⟨g164, hm⟩ := grd_s hm
  have q := km_Pc_apply_233 hmrApply  q163.2.1 q163.2.2 (lt_ext hv_s1 q163.1) hm
  exact ⟨q163.1.tr q.1, q.2⟩
set_option maxHeartbeats 8000000 in
set_option maxRecDepth 100000 in
theorem km_Pc_apply_210 {N : Nat} {rApply : Sh → St → Int → Int → Int → Option (Sh × St × Int)} (hmrApply : ∀ {π : Sh} {σ : St} {y0 : Int} {y1 : Int} {y2 : Int} {r : Sh × St × Int}, Cl π σ → y0 < nn π → y1 < nn π → rApply π σ y0 y1 y2 = some r → ext π r.1 ∧ Cl r.1 r.2.1)  {r : Sh × St × Int}  {π : Sh} {σ : St} {x0 : Int} {x2 : Int} {s0 : Int} {s1 : Int} (hC : Cl π σ) (hv_x0 : x0 < nn π) (hv_s0 : s0 < nn π) (hv_s1 : s1 < nn π) (hm : Pc_apply_210 N rApply π σ x0 x2 s0 s1 = some r) : ext π r.1 ∧ Cl r.1 r.2.1 := by
  have hS := hC.1
  rw [Pc_apply_210] at hm
  obtain ⟨g91, hm⟩ := grd_s hm
  obtain ⟨r92, e93, hm⟩ := obd_s hm
  have q94 := (km_Sp_initB hC hv_s0 e93)
  obtain ⟨g95, hm⟩ := grd_s hm
  have q := km_Pc_apply_229 hmrApply  q94.2 (lt_ext hv_s0 q94.1) (lt_ext hv_s1 q94.1) hm
  exact ⟨q94.1.tr q.1, q.2⟩
set_option maxHeartbeats 8000000 in
set_option maxRecDepth 100000 in
theorem km_Pc_apply_258 {N : Nat} {rApply : Sh → St → Int → Int → Int → Option (Sh × St × Int)} (hmrApply : ∀ {π : Sh} {σ : St} {y0 : Int} {y1 : Int} {y2 : Int} {r : Sh × St × Int}, Cl π σ → y0 < nn π → y1 < nn π → rApply π σ y0 y1 y2 = some r → ext π r.1 ∧ Cl r.1 r.2.1)  {r : Sh × St × Int}  {π : Sh} {σ : St} {s0 : Int} (hC : Cl π σ)  (hm : Pc_apply_258 N rApply π σ s0 = some r) : ext π r.1 ∧ Cl r.1 r.2.1 := by
  have hS := hC.1
  rw [Pc_apply_258] at hm
  cases hm
  exact ⟨ext.rf _, hC⟩
set_option maxHeartbeats 8000000 in
set_option maxRecDepth 100000 in
theorem km_Pc_apply_255 {N : Nat} {rApply : Sh → St → Int → Int → Int → Option (Sh × St × Int)} (hmrApply : ∀ {π : Sh} {σ : St} {y0 : Int} {y1 : Int} {y2 : Int} {r : Sh × St × Int}, Cl π σ → y0 < nn π → y1 < nn π → rApply π σ y0 y1 y2 = some r → ext π r.1 ∧ Cl r.1 r.2.1)  {r : Sh × St × Int}  {π : Sh} {σ : St} {s0 : Int} {s1 : Int} (hC : Cl π σ) (hv_s0 : s0 < nn π) (hv_s1 : s1 < nn π) (hm : Pc_apply_255 N rApply π σ s0 s1 = some r) : ext π r.1 ∧ Cl r.1 r.2.1 := by
  have hS := hC.1
  rw [Pc_apply_255] at hm
  obtain ⟨r231, e232, hm⟩ := obd_s hm
  have q233 := (km_Df_add hC hv_s1 hv_s0 e232)
  obtain ⟨g234, hm⟩ := grd_s hm
  have q := km_Pc_apply_258 hmrApply  q233.2  hm
  exact ⟨q233.1.tr q.1, q.2⟩
set_option maxHeartbeats 8000000 in
set_option maxRecDepth 100000 in
theorem km_Pc_apply_251 {N : Nat} {rApply : Sh → St → Int → Int → Int → Option (Sh × St × Int)} (hmrApply : ∀ {π : Sh} {σ : St} {y0 : Int} {y1 : Int} {y2 : Int} {r : Sh × St × Int}, Cl π σ → y0 < nn π → y1 < nn π → rApply π σ y0 y1 y2 = some r → ext π r.1 ∧ Cl r.1 r.2.1)  {r : Sh × St × Int}  {π : Sh} {σ : St} {x2 : Int} {s0 : Int} {s1 : Int} (hC : Cl π σ) (hv_s0 : s0 < nn π) (hv_s1 : s1 < nn π) (hm : Pc_apply_251 N rApply π σ x2 s0 s1 = some r) : ext π r.1 ∧ Cl r.1 r.2.1 := by
  have hS := hC.1
  rw [Pc_apply_251] at hm
  obtain ⟨r165, e166, hm⟩ := obd_s hm
  have q167 := (km_Sp_give hC hv_s0 e166)
  obtain ⟨g168, hm⟩ := grd_s hm
  have q := km_Pc_apply_255 hmrApply  q167.2.1 q167.2.2 (lt_ext hv_s1 q167.1) hm
  exact ⟨q167.1.tr q.1, q.2⟩
set_option maxHeartbeats 8000000 in
set_option maxRecDepth 100000 in
theorem km_Pc_apply_241 {N : Nat} {rApply : Sh → St → Int → Int → Int → Option (Sh × St × Int)} (hmrApply : ∀ {π : Sh} {σ : St} {y0 : Int} {y1 : Int} {y2 : Int} {r : Sh × St × Int}, Cl π σ → y0 < nn π → y1 < nn π → rApply π σ y0 y1 y2 = some r → ext π r.1 ∧ Cl r.1 r.2.1)  {r : Sh × St × Int}  {π : Sh} {σ : St} {x0 : Int} {x2 : Int} {s0 : Int} {s1 : Int} (hC : Cl π σ) (hv_x0 : x0 < nn π) (hv_s0 : s0 < nn π) (hv_s1 : s1 < nn π) (hm : Pc_apply_241 N rApply π σ x0 x2 s0 s1 = some r) : ext π r.1 ∧ Cl r.1 r.2.1 := by
  have hS := hC.1
  rw [Pc_apply_241] at hm
  obtain ⟨g96, hm⟩ := grd_s hm
  obtain ⟨r97, e98, hm⟩ := obd_s hm
  have q99 := (km_Sp_init hC hv_s0 e98)
  obtain ⟨g100, hm⟩ := grd_s hm
  have q := km_Pc_apply_251 hmrApply  q99.2 (lt_ext hv_s0 q99.1) (lt_ext hv_s1 q99.1) hm
  exact ⟨q99.1.tr q.1, q.2⟩
set_option maxHeartbeats 8000000 in
set_option maxRecDepth 100000 in
theorem km_Pc_apply_285 {N : Nat} {rApply : Sh → St → Int → Int → Int → Option (Sh × St × Int)} (hmrApply : ∀ {π : Sh} {σ : St} {y0 : Int} {y1 : Int} {y2 : Int} {r : Sh × St × Int}, Cl π σ → y0 < nn π → y1 < nn π → rApply π σ y0 y1 y2 = some r → ext π r.1 ∧ Cl r.1 r.2.1)  {r : Sh × St × Int}  {π : Sh} {σ : St} {s0 : Int} (hC : Cl π σ)  (hm : Pc_apply_285 N rApply π σ s0 = some r) : ext π r.1 ∧ Cl r.1 r.2.1 := by
  have hS := hC.1
  rw [Pc_apply_285] at hm
  cases hm
  exact ⟨ext.rf _, hC⟩
set_option maxHeartbeats 8000000 in
set_option maxRecDepth 100000 in
theorem km_Pc_apply_282 {N : Nat} {rApply : Sh → St → Int → Int → Int → Option (Sh × St × Int)} (hmrApply : ∀ {π : Sh} {σ : St} {y0 : Int} {y1 : Int} {y2 : Int} {r : Sh × St × Int}, Cl π σ → y0 < nn π → y1 < nn π → rApply π σ y0 y1 y2 = some r → ext π r.1 ∧ Cl r.1 r.2.1)  {r : Sh × St × Int}  {π : Sh} {σ : St} {s0 : Int} {s1 : Int} (hC : Cl π σ) (hv_s0 : s0 < nn π) (hv_s1 : s1 < nn π) (hm : Pc_apply_282 N rApply π σ s0 s1 = some r) : ext π r.1 ∧ Cl r.1 r.2.1 := by
  have hS := hC.1
  rw [Pc_apply_282] at hm
  obtain ⟨r235, e236, hm⟩ := obd_s hm
  have q237 := (km_Df_add hC hv_s1 hv_s0 e236)
  obtain ⟨g238, hm⟩ := grd_s hm
  have q := km_Pc_apply_285 hmrApply  q237.2  hm
  exact ⟨q237.1.tr q.1, q.2⟩
set_option maxHeartbeats 8000000 in
set_option maxRecDepth 100000 in
theorem km_Pc_apply_278 {N : Nat} {rApply : Sh → St → Int → Int → Int → Option (Sh × St × Int)} (hmrApply : ∀ {π : Sh} {σ : St} {y0 : Int} {y1 : Int} {y2 : Int} {r : Sh × St × Int}, Cl π σ → y0 < nn π → y1 < nn π → rApply π σ y0 y1 y2 = some r → ext π r.1 ∧ Cl r.1 r.2.1)  {r : Sh × St × Int}  {π : Sh} {σ : St} {x2 : Int} {s0 : Int} {s1 : Int} (hC : Cl π σ) (hv_s0 : s0 < nn π) (hv_s1 : s1 < nn π) (hm : Pc_apply_278 N rApply π σ x2 s0 s1 = some r) : ext π r.1 ∧ Cl r.1 r.2.1 := by
  have hS := hC.1
  rw [Pc_apply_278] at hm
  obtain ⟨r169, e170, hm⟩ := obd_s hm
  have q171 := (km_Sp_give hC hv_s0 e170)
  obtain ⟨g172, hm⟩ := grd_s hm
  have q := km_Pc_apply_282 hmrApply  q171.2.1 q171.2.2 (lt_ext hv_s1 q171.1) hm
  exact ⟨q171.1.tr q.1, q.2⟩
set_option maxHeartbeats 8000000 in
set_option maxRecDepth 100000 in
theorem km_Pc_apply_263 {N : Nat} {rApply : Sh → St → Int → Int → Int → Option (Sh × St × Int)} (hmrApply : ∀ {π : Sh} {σ : St} {y0 : Int} {y1 : Int} {y2 : Int} {r : Sh × St × Int}, Cl π σ → y0 < nn π → y1 < nn π → rApply π σ y0 y1 y2 = some r → ext π r.1 ∧ Cl r.1 r.2.1)  {r : Sh × St × Int}  {π : Sh} {σ : St} {x0 : Int} {x2 : Int} {s0 : Int} {s1 : Int} (hC : Cl π σ) (hv_x0 : x0 < nn π) (hv_s0 : s0 < nn π) (hv_s1 : s1 < nn π) (hm : Pc_apply_263 N rApply π σ x0 x2 s0 s1 = some r) : ext π r.1 ∧ Cl r.1 r.2.1 := by
  have hS := hC.1
  rw [Pc_apply_263] at hm
  obtain ⟨g101, hm⟩ := grd_s hm
  obtain ⟨r102, e103, hm⟩ := obd_s hm
  have q104 := (km_Sp_initB hC hv_s0 e103)
  obtain ⟨g105, hm⟩ := grd_s hm
  have q := km_Pc_apply_278 hmrApply  q104.2 (lt_ext hv_s0 q104.1) (lt_ext hv_s1 q104.1) hm
  exact ⟨q104.1.tr q.1, q.2⟩
set_option maxHeartbeats 8000000 in
set_option maxRecDepth 100000 in
theorem km_Pc_apply_312 {N : Nat} {rApply : Sh → St → Int → Int → Int → Option (Sh × St × Int)} (hmrApply : ∀ {π : Sh} {σ : St} {y0 : Int} {y1 : Int} {y2 : Int} {r : Sh × St × Int}, Cl π σ → y0 < nn π → y1 < nn π → rApply π σ y0 y1 y2 = some r → ext π r.1 ∧ Cl r.1 r.2.1)  {r : Sh × St × Int}  {π : Sh} {σ : St} {s0 : Int} (hC : Cl π σ)  (hm : Pc_apply_312 N rApply π σ s0 = some r) : ext π r.1 ∧ Cl r.1 r.2.1 := by
  have hS := hC.1
  rw [Pc_apply_312] at hm
  cases hm
  exact ⟨ext.rf _, hC⟩
set_option maxHeartbeats 8000000 in
set_option maxRecDepth 100000 in
theorem km_Pc_apply_309 {N : Nat} {rApply : Sh → St → Int → Int → Int → Option (Sh × St × Int)} (hmrApply : ∀ {π : Sh} {σ : St} {y0 : Int} {y1 : Int} {y2 : Int} {r : Sh × St × Int}, Cl π σ → y0 < nn π → y1 < nn π → rApply π σ y0 y1 y2 = some r → ext π r.1 ∧ Cl r.1 r.2.1)  {r : Sh × St × Int}  {π : Sh} {σ : St} {s0 : Int} {s1 : Int} (hC : Cl π σ) (hv_s0 : s0 < nn π) (hv_s1 : s1 < nn π) (hm : Pc_apply_309 N rApply π σ s0 s1 = some r) : ext π r.1 ∧ Cl r.1 r.2.1 := by
  have hS := hC.1
  rw [Pc_apply_309] at hm
  obtain ⟨r239, e240, hm⟩ := obd_s hm
  have q241 := (km_Df_add hC hv_s1 hv_s0 e240)
  obtain ⟨g242, hm⟩ := grd_s hm
  have q := km_Pc_apply_312 hmrApply  q241.2  hm
  exact ⟨q241.1.tr q.1, q.2⟩
set_option maxHeartbeats 8000000 in
set_option maxRecDepth 100000 in
theorem km_Pc_apply_305 {N : Nat} {rApply : Sh → St → Int → Int → Int → Option (Sh × St × Int)} (hmrApply : ∀ {π : Sh} {σ : St} {y0 : Int} {y1 : Int} {y2 : Int} {r : Sh × St × Int}, Cl π σ → y0 < nn π → y1 < nn π → rApply π σ y0 y1 y2 = some r → ext π r.1 ∧ Cl r.1 r.2.1)  {r : Sh × St × Int}  {π : Sh} {σ : St} {x2 : Int} {s0 : Int} {s1 : Int} (hC : Cl π σ) (hv_s0 : s0 < nn π) (hv_s1 : s1 < nn π) (hm : Pc_apply_305 N rApply π σ x2 s0 s1 = some r) : ext π r.1 ∧ Cl r.1 r.2.1 := by
  have hS := hC.1
  rw [Pc_apply_305] at hm
  obtain ⟨r173, e174, hm⟩ := obd_s hm
  have q175 := (km_Sp_give hC hv_s0 e174)
  obtain ⟨g176, hm⟩ := grd_s hm
  have q := km_Pc_apply_309 hmrApply  q175.2.1 q175.2.2 (lt_ext hv_s1 q175.1) hm
  exact ⟨q175.1.tr q.1, q.2⟩
set_option maxHeartbeats 8000000 in
set_option maxRecDepth 100000 in
theorem km_Pc_apply_290 {N : Nat} {rApply : Sh → St → Int → Int → Int → Option (Sh × St × Int)} (hmrApply : ∀ {π : Sh} {σ : St} {y0 : Int} {y1 : Int} {y2 : Int} {r : Sh × St × Int}, Cl π σ → y0 < nn π → y1 < nn π → rApply π σ y0 y1 y2 = some r → ext π r.1 ∧ Cl r.1 r.2.1)  {r : Sh × St × Int}  {π : Sh} {σ : St} {x0 : Int} {x2 : Int} {s0 : Int} {s1 : Int} (hC : Cl π σ) (hv_x0 : x0 < nn π) (hv_s0 : s0 < nn π) (hv_s1 : s1 < nn π) (hm : Pc_apply_290 N rApply π σ x0 x2 s0 s1 = some r) : ext π r.1 ∧ Cl r.1 r.2.1 := by
  have hS := hC.1
  rw [Pc_apply_290] at hm
  obtain ⟨g106, hm⟩ := grd_s hm
  obtain ⟨r107, e108, hm⟩ := obd_s hm
  have q109 := (km_Sp_initB hC hv_s0 e108)
  obtain ⟨g110, hm⟩ := grd_s hm
  have q := km_Pc_apply_305 hmrApply  q109.2 (lt_ext hv_s0 q109.1) (lt_ext hv_s1 q109.1) hm
  exact ⟨q109.1.tr q.1, q.2⟩
set_option maxHeartbeats 8000000 in
set_option maxRecDepth 100000 in
theorem km_Pc_apply_339 {N : Nat} {rApply : Sh → St → Int → Int → Int → Option (Sh × St × Int)} (hmrApply : ∀ {π : Sh} {σ : St} {y0 : Int} {y1 : Int} {y2 : Int} {r : Sh × St × Int}, Cl π σ → y0 < nn π → y1 < nn π → rApply π σ y0 y1 y2 = some r → ext π r.1 ∧ Cl r.1 r.2.1)  {r : Sh × St × Int}  {π : Sh} {σ : St} {s0 : Int} (hC : Cl π σ)  (hm : Pc_apply_339 N rApply π σ s0 = some r) : ext π r.1 ∧ Cl r.1 r.2.1 := by
  have hS := hC.1
  rw [Pc_apply_339] at hm
  cases hm
  exact ⟨ext.rf _, hC⟩
set_option maxHeartbeats 8000000 in
set_option maxRecDepth 100000 in
theorem km_Pc_apply_336 {N : Nat} {rApply : Sh → St → Int → Int → Int → Option (Sh × St × Int)} (hmrApply : ∀ {π : Sh} {σ : St} {y0 : Int} {y1 : Int} {y2 : Int} {r : Sh × St × Int}, Cl π σ → y0 < nn π → y1 < nn π → rApply π σ y0 y1 y2 = some r → ext π r.1 ∧ Cl r.1 r.2.1)  {r : Sh × St × Int}  {π : Sh} {σ : St} {s0 : Int} {s1 : Int} (hC : Cl π σ) (hv_s0 : s0 < nn π) (hv_s1 : s1 < nn π) (hm : Pc_apply_336 N rApply π σ s0 s1 = some r) : ext π r.1 ∧ Cl r.1 r.2.1 := by
  have hS := hC.1
  rw [Pc_apply_336] at hm
  obtain ⟨r243, e244, hm⟩ := obd_s hm
  have q245 := (km_Df_add hC hv_s1 hv_s0 e244)
  obtain ⟨g246, hm⟩ := grd_s hm
  have q := km_Pc_apply_339 hmrApply  q245.2  hm
  exact ⟨q245.1.tr q.1, q.2⟩
set_option maxHeartbeats 8000000 in
set_option maxRecDepth 100000 in
theorem km_Pc_apply_332 {N : Nat} {rApply : Sh → St → Int → Int → Int → Option (Sh × St × Int)} (hmrApply : ∀ {π : Sh} {σ : St} {y0 : Int} {y1 : Int} {y2 : Int} {r : Sh × St × Int}, Cl π σ → y0 < nn π → y1 < nn π → rApply π σ y0 y1 y2 = some r → ext π r.1 ∧ Cl r.1 r.2.1)  {r : Sh × St × Int}  {π : Sh} {σ : St} {x2 : Int} {s0 : Int} {s1 : Int} (hC : Cl π σ) (hv_s0 : s0 < nn π) (hv_s1 : s1 < nn π) (hm : Pc_apply_332 N rApply π σ x2 s0 s1 = some r) : ext π r.1 ∧ Cl r.1 r.2.1 := by
  have hS := hC.1
  rw [Pc_apply_332] at hm
  obtain ⟨r177, e178, hm⟩ := obd_s hm
  have q179 := (km_Sp_give hC hv_s0 e178)
  obtain ⟨g180, hm⟩ := grd_s hm
  have q := km_Pc_apply_336 hmrApply  q179.2.1 q179.2.2 (lt_ext hv_s1 q179.1) hm
  exact ⟨q179.1.tr q.1, q.2⟩
set_option maxHeartbeats 8000000 in
set_option maxRecDepth 100000 in
theorem km_Pc_apply_317 {N : Nat} {rApply : Sh → St → Int → Int → Int → Option (Sh × St × Int)} (hmrApply : ∀ {π : Sh} {σ : St} {y0 : Int} {y1 : Int} {y2 : Int} {r : Sh × St × Int}, Cl π σ → y0 < nn π → y1 < nn π → rApply π σ y0 y1 y2 = some r → ext π r.1 ∧ Cl r.1 r.2.1)  {r : Sh × St × Int}  {π : Sh} {σ : St} {x0 : Int} {x2 : Int} {s0 : Int} {s1 : Int} (hC : Cl π σ) (hv_x0 : x0 < nn π) (hv_s0 : s0 < nn π) (hv_s1 : s1 < nn π) (hm : Pc_apply_317 N rApply π σ x0 x2 s0 s1 = some r) : ext π r.1 ∧ Cl r.1 r.2.1 := by
  have hS := hC.1
  rw [Pc_apply_317] at hm
  obtain ⟨g111, hm⟩ := grd_s hm
  obtain ⟨r112, e113, hm⟩ := obd_s hm
  have q114 := (km_Sp_initB hC hv_s0 e113)
  obtain ⟨g115, hm⟩ := grd_s hm
  have q := km_Pc_apply_332 hmrApply  q114.2 (lt_ext hv_s0 q114.1) (lt_ext hv_s1 q114.1) hm
  exact ⟨q114.1.tr q.1, q.2⟩
set_option maxHeartbeats 8000000 in
set_option maxRecDepth 100000 in
theorem km_Pc_apply_424 {N : Nat} {rApply : Sh → St → Int → Int → Int → Option (Sh × St × Int)} (hmrApply : ∀ {π : Sh} {σ : St} {y0 : Int} {y1 : Int} {y2 : Int} {r : Sh × St × Int}, Cl π σ → y0 < nn π → y1 < nn π → rApply π σ y0 y1 y2 = some r → ext π r.1 ∧ Cl r.1 r.2.1)  {r : Sh × St × Int}  {π : Sh} {σ : St} {s0 : Int} (hC : Cl π σ)  (hm : Pc_apply_424 N rApply π σ s0 = some r) : ext π r.1 ∧ Cl r.1 r.2.1 := by
  have hS := hC.1
  rw [Pc_apply_424] at hm
  cases hm
  exact ⟨ext.rf _, hC⟩
set_option maxHeartbeats 8000000 in
set_option maxRecDepth 100000 in
theorem km_Pc_apply_421 {N : Nat} {rApply : Sh → St → Int → Int → Int → Option (Sh × St × Int)} (hmrApply : ∀ {π : Sh} {σ : St} {y0 : Int} {y1 : Int} {y2 : Int} {r : Sh × St × Int}, Cl π σ → y0 < nn π → y1 < nn π → rApply π σ y0 y1 y2 = some r → ext π r.1 ∧ Cl r.1 r.2.1)  {r : Sh × St × Int}  {π : Sh} {σ : St} {s0 : Int} {s1 : Int} (hC : Cl π σ) (hv_s0 : s0 < nn π) (hv_s1 : s1 < nn π) (hm : Pc_apply_421 N rApply π σ s0 s1 = some r) : ext π r.1 ∧ Cl r.1 r.2.1 := by
  have hS := hC.1
  rw [Pc_apply_421] at hm
  obtain ⟨r270, e271, hm⟩ := obd_s hm
  have q272 := (km_Df_add hC hv_s1 hv_s0 e271)
  obtain ⟨g273, hm⟩ := grd_s hm
  have q := km_Pc_apply_424 hmrApply  q272.2  hm
  exact ⟨q272.1.tr q.1, q.2⟩
set_option maxHeartbeats 8000000 in
set_option maxRecDepth 100000 in
theorem km_Pc_apply_417 {N : Nat} {rApply : Sh → St → Int → Int → Int → Option (Sh × St × Int)} (hmrApply : ∀ {π : Sh} {σ : St} {y0 : Int} {y1 : Int} {y2 : Int} {r : Sh × St × Int}, Cl π σ → y0 < nn π → y1 < nn π → rApply π σ y0 y1 y2 = some r → ext π r.1 ∧ Cl r.1 r.2.1)  {r : Sh × St × Int}  {π : Sh} {σ : St} {x2 : Int} {s0 : Int} {s1 : Int} (hC : Cl π σ) (hv_s0 : s0 < nn π) (hv_s1 : s1 < nn π) (hm : Pc_apply_417 N rApply π σ x2 s0 s1 = some r) : ext π r.1 ∧ Cl r.1 r.2.1 := by
  have hS := hC.1
  rw [Pc_apply_417] at hm
  obtain ⟨r247, e248, hm⟩ := obd_s hm
  have q249 := (km_Sp_give hC hv_s0 e248)
  obtain ⟨g250, hm⟩ := grd_s hm
  have q := km_Pc_apply_421 hmrApply  q249.2.1 q249.2.2 (lt_ext hv_s1 q249.1) hm
  exact ⟨q249.1.tr q.1, q.2⟩
set_option maxHeartbeats 8000000 in
set_option maxRecDepth 100000 in
theorem km_Pc_apply_408 {N : Nat} {rApply : Sh → St → Int → Int → Int → Option (Sh × St × Int)} (hmrApply : ∀ {π : Sh} {σ : St} {y0 : Int} {y1 : Int} {y2 : Int} {r : Sh × St × Int}, Cl π σ → y0 < nn π → y1 < nn π → rApply π σ y0 y1 y2 = some r → ext π r.1 ∧ Cl r.1 r.2.1)  {r : Sh × St × Int}  {π : Sh} {σ : St} {x0 : Int} {x2 : Int} {s0 : Int} {s1 : Int} (hC : Cl π σ) (hv_x0 : x0 < nn π) (hv_s0 : s0 < nn π) (hv_s1 : s1 < nn π) (hm : Pc_apply_408 N rApply π σ x0 x2 s0 s1 = some r) : ext π r.1 ∧ Cl r.1 r.2.1 := by
  have hS := hC.1
  rw [Pc_apply_408] at hm
  obtain ⟨g181, hm⟩ := grd_s hm
  obtain ⟨g182, hm⟩ := grd_s hm
  obtain ⟨g183, hm⟩ := grd_s hm
  obtain ⟨r184, e185, hm⟩ := obd_s hm
  have q186 := (km_Sp_give hC hv_s0 e185)
  obtain ⟨g187, hm⟩ := grd_s hm
  have q := km_Pc_apply_417 hmrApply  q186.2.1 q186.2.2 (lt_ext hv_s1 q186.1) hm
  exact ⟨q186.1.tr q.1, q.2⟩
set_option maxHeartbeats 8000000 in
set_option maxRecDepth 100000 in
theorem km_Pc_apply_398 {N : Nat} {rApply : Sh → St → Int → Int → Int → Option (Sh × St × Int)} (hmrApply : ∀ {π : Sh} {σ : St} {y0 : Int} {y1 : Int} {y2 : Int} {r : Sh × St × Int}, Cl π σ → y0 < nn π → y1 < nn π → rApply π σ y0 y1 y2 = some r → ext π r.1 ∧ Cl r.1 r.2.1)  {r : Sh × St × Int}  {π : Sh} {σ : St} {x0 : Int} {x2 : Int} {s0 : Int} {s1 : Int} (hC : Cl π σ) (hv_x0 : x0 < nn π) (hv_s0 : s0 < nn π) (hv_s1 : s1 < nn π) (hm : Pc_apply_398 N rApply π σ x0 x2 s0 s1 = some r) : ext π r.1 ∧ Cl r.1 r.2.1 := by
  have hS := hC.1
  rw [Pc_apply_398] at hm
  obtain ⟨g116, hm⟩ := grd_s hm
  obtain ⟨r117, e118, hm⟩ := obd_s hm
  have q119 := (km_Sp_init hC hv_s0 e118)
  obtain ⟨g120, hm⟩ := grd_s hm
  have q := km_Pc_apply_408 hmrApply  q119.2 (lt_ext hv_x0 q119.1) (lt_ext hv_s0 q119.1) (lt_ext hv_s1 q119.1) hm
  exact ⟨q119.1.tr q.1, q.2⟩
set_option maxHeartbeats 8000000 in
set_option maxRecDepth 100000 in
theorem km_Pc_apply_455 {N : Nat} {rApply : Sh → St → Int → Int → Int → Option (Sh × St × Int)} (hmrApply : ∀ {π : Sh} {σ : St} {y0 : Int} {y1 : Int} {y2 : Int} {r : Sh × St × Int}, Cl π σ → y0 < nn π → y1 < nn π → rApply π σ y0 y1 y2 = some r → ext π r.1 ∧ Cl r.1 r.2.1)  {r : Sh × St × Int}  {π : Sh} {σ : St} {s0 : Int} (hC : Cl π σ)  (hm : Pc_apply_455 N rApply π σ s0 = some r) : ext π r.1 ∧ Cl r.1 r.2.1 := by
  have hS := hC.1
  rw [Pc_apply_455] at hm
  cases hm
  exact ⟨ext.rf _, hC⟩
set_option maxHeartbeats 8000000 in
set_option maxRecDepth 100000 in
theorem km_Pc_apply_452 {N : Nat} {rApply : Sh → St → Int → Int → Int → Option (Sh × St × Int)} (hmrApply : ∀ {π : Sh} {σ : St} {y0 : Int} {y1 : Int} {y2 : Int} {r : Sh × St × Int}, Cl π σ → y0 < nn π → y1 < nn π → rApply π σ y0 y1 y2 = some r → ext π r.1 ∧ Cl r.1 r.2.1)  {r : Sh × St × Int}  {π : Sh} {σ : St} {s0 : Int} {s1 : Int} (hC : Cl π σ) (hv_s0 : s0 < nn π) (hv_s1 : s1 < nn π) (hm : Pc_apply_452 N rApply π σ s0 s1 = some r) : ext π r.1 ∧ Cl r.1 r.2.1 := by
  have hS := hC.1
  rw [Pc_apply_452] at hm
  obtain ⟨r274, e275, hm⟩ := obd_s hm
  have q276 := (km_Df_add hC hv_s1 hv_s0 e275)
  obtain ⟨g277, hm⟩ := grd_s hm
  have q := km_Pc_apply_455 hmrApply  q276.2  hm
  exact ⟨q276.1.tr q.1, q.2⟩
set_option maxHeartbeats 8000000 in
set_option maxRecDepth 100000 in
theorem km_Pc_apply_448 {N : Nat} {rApply : Sh → St → Int → Int → Int → Option (Sh × St × Int)} (hmrApply : ∀ {π : Sh} {σ : St} {y0 : Int} {y1 : Int} {y2 : Int} {r : Sh × St × Int}, Cl π σ → y0 < nn π → y1 < nn π → rApply π σ y0 y1 y2 = some r → ext π r.1 ∧ Cl r.1 r.2.1)  {r : Sh × St × Int}  {π : Sh} {σ : St} {x2 : Int} {s0 : Int} {s1 : Int} (hC : Cl π σ) (hv_s0 : s0 < nn π) (hv_s1 : s1 < nn π) (hm : Pc_apply_448 N rApply π σ x2 s0 s1 = some r) : ext π r.1 ∧ Cl r.1 r.2.1 := by
  have hS := hC.1
  rw [Pc_apply_448] at hm
  obtain ⟨r251, e252, hm⟩ := obd_s hm
  have q253 := (km_Sp_give hC hv_s0 e252)
  obtain ⟨g254, hm⟩ := grd_s hm
  have q := km_Pc_apply_452 hmrApply  q253.2.1 q253.2.2 (lt_ext hv_s1 q253.1) hm
  exact ⟨q253.1.tr q.1, q.2⟩
set_option maxHeartbeats 8000000 in
set_option maxRecDepth 100000 in
theorem km_Pc_apply_439 {N : Nat} {rApply : Sh → St → Int → Int → Int → Option (Sh × St × Int)} (hmrApply : ∀ {π : Sh} {σ : St} {y0 : Int} {y1 : Int} {y2 : Int} {r : Sh × St × Int}, Cl π σ → y0 < nn π → y1 < nn π → rApply π σ y0 y1 y2 = some r → ext π r.1 ∧ Cl r.1 r.2.1)  {r : Sh × St × Int}  {π : Sh} {σ : St} {x0 : Int} {x2 : Int} {s0 : Int} {s1 : Int} (hC : Cl π σ) (hv_x0 : x0 < nn π) (hv_s0 : s0 < nn π) (hv_s1 : s1 < nn π) (hm : Pc_apply_439 N rApply π σ x0 x2 s0 s1 = some r) : ext π r.1 ∧ Cl r.1 r.2.1 := by
  have hS := hC.1
  rw [Pc_apply_439] at hm
  obtain ⟨g188, hm⟩ := grd_s hm
  obtain ⟨g189, hm⟩ := grd_s hm
  obtain ⟨g190, hm⟩ := grd_s hm
  obtain ⟨r191, e192, hm⟩ := obd_s hm
  have q193 := (km_Sp_give hC hv_s0 e192)
  obtain ⟨g194, hm⟩ := grd_s hm
  have q := km_Pc_apply_448 hmrApply  q193.2.1 q193.2.2 (lt_ext hv_s1 q193.1) hm
  exact ⟨q193.1.tr q.1, q.2⟩
set_option maxHeartbeats 8000000 in
set_option maxRecDepth 100000 in
theorem km_Pc_apply_429 {N : Nat} {rApply : Sh → St → Int → Int → Int → Option (Sh × St × Int)} (hmrApply : ∀ {π : Sh} {σ : St} {y0 : Int} {y1 : Int} {y2 : Int} {r : Sh × St × Int}, Cl π σ → y0 < nn π → y1 < nn π → rApply π σ y0 y1 y2 = some r → ext π r.1 ∧ Cl r.1 r.2.1)  {r : Sh × St × Int}  {π : Sh} {σ : St} {x0 : Int} {x2 : Int} {s0 : Int} {s1 : Int} (hC : Cl π σ) (hv_x0 : x0 < nn π) (hv_s0 : s0 < nn π) (hv_s1 : s1 < nn π) (hm : Pc_apply_429 N rApply π σ x0 x2 s0 s1 = some r) : ext π r.1 ∧ Cl r.1 r.2.1 := by
  have hS := hC.1
  rw [Pc_apply_429] at hm
  obtain ⟨g121, hm⟩ := grd_s hm
  obtain ⟨r122, e123, hm⟩ := obd_s hm
  have q124 := (km_Sp_init hC hv_s0 e123)
  obtain ⟨g125, hm⟩ := grd_s hm
  have q := km_Pc_apply_439 hmrApply  q124.2 (lt_ext hv_x0 q124.1) (lt_ext hv_s0 q124.1) (lt_ext hv_s1 q124.1) hm
  exact ⟨q124.1.tr q.1, q.2⟩
set_option maxHeartbeats 8000000 in
set_option maxRecDepth 100000 in
theorem km_Pc_apply_366 {N : Nat} {rApply : Sh → St → Int → Int → Int → Option (Sh × St × Int)} (hmrApply : ∀ {π : Sh} {σ : St} {y0 : Int} {y1 : Int} {y2 : Int} {r : Sh × St × Int}, Cl π σ → y0 < nn π → y1 < nn π → rApply π σ y0 y1 y2 = some r → ext π r.1 ∧ Cl r.1 r.2.1)  {r : Sh × St × Int}  {π : Sh} {σ : St} {s0 : Int} (hC : Cl π σ)  (hm : Pc_apply_366 N rApply π σ s0 = some r) : ext π r.1 ∧ Cl r.1 r.2.1 := by
  have hS := hC.1
  rw [Pc_apply_366] at hm
  cases hm
  exact ⟨ext.rf _, hC⟩
set_option maxHeartbeats 8000000 in
set_option maxRecDepth 100000 in
theorem km_Pc_apply_363 {N : Nat} {rApply : Sh → St → Int → Int → Int → Option (Sh × St × Int)} (hmrApply : ∀ {π : Sh} {σ : St} {y0 : Int} {y1 : Int} {y2 : Int} {r : Sh × St × Int}, Cl π σ → y0 < nn π → y1 < nn π → rApply π σ y0 y1 y2 = some r → ext π r.1 ∧ Cl r.1 r.2.1)  {r : Sh × St × Int}  {π : Sh} {σ : St} {s0 : Int} {s1 : Int} (hC : Cl π σ) (hv_s0 : s0 < nn π) (hv_s1 : s1 < nn π) (hm : Pc_apply_363 N rApply π σ s0 s1 = some r) : ext π r.1 ∧ Cl r.1 r.2.1 := by
  have hS := hC.1
  rw [Pc_apply_363] at hm
  obtain ⟨r255, e256, hm⟩ := obd_s hm
  have q257 := (km_Df_add hC hv_s1 hv_s0 e256)
  obtain ⟨g258, hm⟩ := grd_s hm
  have q := km_Pc_apply_366 hmrApply  q257.2  hm
  exact ⟨q257.1.tr q.1, q.2⟩
set_option maxHeartbeats 8000000 in
set_option maxRecDepth 100000 in
theorem km_Pc_apply_359 {N : Nat} {rApply : Sh → St → Int → Int → Int → Option (Sh × St × Int)} (hmrApply : ∀ {π : Sh} {σ : St} {y0 : Int} {y1 : Int} {y2 : Int} {r : Sh × St × Int}, Cl π σ → y0 < nn π → y1 < nn π → rApply π σ y0 y1 y2 = some r → ext π r.1 ∧ Cl r.1 r.2.1)  {r : Sh × St × Int}  {π : Sh} {σ : St} {x2 : Int} {s0 : Int} {s1 : Int} (hC : Cl π σ) (hv_s0 : s0 < nn π) (hv_s1 : s1 < nn π) (hm : Pc_apply_359 N rApply π σ x2 s0 s1 = some r) : ext π r.1 ∧ Cl r.1 r.2.1 := by
  have hS := hC.1
  rw [Pc_apply_359] at hm
  obtain ⟨r195, e196, hm⟩ := obd_s hm
  have q197 := (km_Sp_give hC hv_s0 e196)
  obtain ⟨g198, hm⟩ := grd_s hm
  have q := km_Pc_apply_363 hmrApply  q197.2.1 q197.2.2 (lt_ext hv_s1 q197.1) hm
  exact ⟨q197.1.tr q.1, q.2⟩
set_option maxHeartbeats 8000000 in
set_option maxRecDepth 100000 in
theorem km_Pc_apply_344 {N : Nat} {rApply : Sh → St → Int → Int → Int → Option (Sh × St × Int)} (hmrApply : ∀ {π : Sh} {σ : St} {y0 : Int} {y1 : Int} {y2 : Int} {r : Sh × St × Int}, Cl π σ → y0 < nn π → y1 < nn π → rApply π σ y0 y1 y2 = some r → ext π r.1 ∧ Cl r.1 r.2.1)  {r : Sh × St × Int}  {π : Sh} {σ : St} {x0 : Int} {x2 : Int} {s0 : Int} {s1 : Int} (hC : Cl π σ) (hv_x0 : x0 < nn π) (hv_s0 : s0 < nn π) (hv_s1 : s1 < nn π) (hm : Pc_apply_344 N rApply π σ x0 x2 s0 s1 = some r) : ext π r.1 ∧ Cl r.1 r.2.1 := by
  have hS := hC.1
  rw [Pc_apply_344] at hm
  obtain ⟨g126, hm⟩ := grd_s hm
  obtain ⟨r127, e128, hm⟩ := obd_s hm
  have q129 := (km_Sp_initB hC hv_s0 e128)
  obtain ⟨g130, hm⟩ := grd_s hm
  have q := km_Pc_apply_359 hmrApply  q129.2 (lt_ext hv_s0 q129.1) (lt_ext hv_s1 q129.1) hm
  exact ⟨q129.1.tr q.1, q.2⟩
set_option maxHeartbeats 8000000 in
set_option maxRecDepth 100000 in
theorem km_Pc_apply_393 {N : Nat} {rApply : Sh → St → Int → Int → Int → Option (Sh × St × Int)} (hmrApply : ∀ {π : Sh} {σ : St} {y0 : Int} {y1 : Int} {y2 : Int} {r : Sh × St × Int}, Cl π σ → y0 < nn π → y1 < nn π → rApply π σ y0 y1 y2 = some r → ext π r.1 ∧ Cl r.1 r.2.1)  {r : Sh × St × Int}  {π : Sh} {σ : St} {s0 : Int} (hC : Cl π σ)  (hm : Pc_apply_393 N rApply π σ s0 = some r) : ext π r.1 ∧ Cl r.1 r.2.1 := by
  have hS := hC.1
  rw [Pc_apply_393] at hm
  cases hm
  exact ⟨ext.rf _, hC⟩
set_option maxHeartbeats 8000000 in
set_option maxRecDepth 100000 in
theorem km_Pc_apply_390 {N : Nat} {rApply : Sh → St → Int → Int → Int → Option (Sh × St × Int)} (hmrApply : ∀ {π : Sh} {σ : St} {y0 : Int} {y1 : Int} {y2 : Int} {r : Sh × St × Int}, Cl π σ → y0 < nn π → y1 < nn π → rApply π σ y0 y1 y2 = some r → ext π r.1 ∧ Cl r.1 r.2.1)  {r : Sh × St × Int}  {π : Sh} {σ : St} {s0 : Int} {s1 : Int} (hC : Cl π σ) (hv_s0 : s0 < nn π) (hv_s1 : s1 < nn π) (hm : Pc_apply_390 N rApply π σ s0 s1 = some r) : ext π r.1 ∧ Cl r.1 r.2.1 := by
  have hS := hC.1
  rw [Pc_apply_390] at hm
  obtain ⟨r259, e260, hm⟩ := obd_s hm
  have q261 := (km_Df_add hC hv_s1 hv_s0 e260)
  obtain ⟨g262, hm⟩ := grd_s hm
  have q := km_Pc_apply_393 hmrApply  q261.2  hm
  exact ⟨q261.1.tr q.1, q.2⟩
set_option maxHeartbeats 8000000 in
set_option maxRecDepth 100000 in
theorem km_Pc_apply_386 {N : Nat} {rApply : Sh → St → Int → Int → Int → Option (Sh × St × Int)} (hmrApply : ∀ {π : Sh} {σ : St} {y0 : Int} {y1 : Int} {y2 : Int} {r : Sh × St × Int}, Cl π σ → y0 < nn π → y1 < nn π → rApply π σ y0 y1 y2 = some r → ext π r.1 ∧ Cl r.1 r.2.1)  {r : Sh × St × Int}  {π : Sh} {σ : St} {x2 : Int} {s0 : Int} {s1 : Int} (hC : Cl π σ) (hv_s0 : s0 < nn π) (hv_s1 : s1 < nn π) (hm : Pc_apply_386 N rApply π σ x2 s0 s1 = some r) : ext π r.1 ∧ Cl r.1 r.2.1 := by
  have hS := hC.1
  rw [Pc_apply_386] at hm
  obtain ⟨r199, e200, hm⟩ := obd_s hm
  have q201 := (km_Sp_give hC hv_s0 e200)
  obtain ⟨g202, hm⟩ := grd_s hm
  have q := km_Pc_apply_390 hmrApply  q201.2.1 q201.2.2 (lt_ext hv_s1 q201.1) hm
  exact ⟨q201.1.tr q.1, q.2⟩
set_option maxHeartbeats 8000000 in
set_option maxRecDepth 100000 in
theorem km_Pc_apply_371 {N : Nat} {rApply : Sh → St → Int → Int → Int → Option (Sh × St × Int)} (hmrApply : ∀ {π : Sh} {σ : St} {y0 : Int} {y1 : Int} {y2 : Int} {r : Sh × St × Int}, Cl π σ → y0 < nn π → y1 < nn π → rApply π σ y0 y1 y2 = some r → ext π r.1 ∧ Cl r.1 r.2.1)  {r : Sh × St × Int}  {π : Sh} {σ : St} {x0 : Int} {x2 : Int} {s0 : Int} {s1 : Int} (hC : Cl π σ) (hv_x0 : x0 < nn π) (hv_s0 : s0 < nn π) (hv_s1 : s1 < nn π) (hm : Pc_apply_371 N rApply π σ x0 x2 s0 s1 = some r) : ext π r.1 ∧ Cl r.1 r.2.1 := by
  have hS := hC.1
  rw [Pc_apply_371] at hm
  obtain ⟨g131, hm⟩ := grd_s hm
  obtain ⟨r132, e133, hm⟩ := obd_s hm
  have q134 := (km_Sp_initB hC hv_s0 e133)
  obtain ⟨g135, hm⟩ := grd_s hm
  have q := km_Pc_apply_386 hmrApply  q134.2 (lt_ext hv_s0 q134.1) (lt_ext hv_s1 q134.1) hm
  exact ⟨q134.1.tr q.1, q.2⟩
set_option maxHeartbeats 8000000 in
set_option maxRecDepth 100000 in
theorem km_Pc_apply_506 {N : Nat} {rApply : Sh → St → Int → Int → Int → Option (Sh × St × Int)} (hmrApply : ∀ {π : Sh} {σ : St} {y0 : Int} {y1 : Int} {y2 : Int} {r : Sh × St × Int}, Cl π σ → y0 < nn π → y1 < nn π → rApply π σ y0 y1 y2 = some r → ext π r.1 ∧ Cl r.1 r.2.1)  {r : Sh × St × Int}  {π : Sh} {σ : St} {s0 : Int} (hC : Cl π σ)  (hm : Pc_apply_506 N rApply π σ s0 = some r) : ext π r.1 ∧ Cl r.1 r.2.1 := by
  have hS := hC.1
  rw [Pc_apply_506] at hm
  cases hm
  exact ⟨ext.rf _, hC⟩
set_option maxHeartbeats 8000000 in
set_option maxRecDepth 100000 in
theorem km_Pc_apply_503 {N : Nat} {rApply : Sh → St → Int → Int → Int → Option (Sh × St × Int)} (hmrApply : ∀ {π : Sh} {σ : St} {y0 : Int} {y1 : Int} {y2 : Int} {r : Sh × St × Int}, Cl π σ → y0 < nn π → y1 < nn π → rApply π σ y0 y1 y2 = some r → ext π r.1 ∧ Cl r.1 r.2.1)  {r : Sh × St × Int}  {π : Sh} {σ : St} {s0 : Int} {s1 : Int} (hC : Cl π σ) (hv_s0 : s0 < nn π) (hv_s1 : s1 < nn π) (hm : Pc_apply_503 N rApply π σ s0 s1 = some r) : ext π r.1 ∧ Cl r.1 r.2.1 := by
  have hS := hC.1
  rw [Pc_apply_503] at hm
  obtain ⟨r203, e204, hm⟩ := obd_s hm
  have q205 := (km_Df_add hC hv_s1 hv_s0 e204)
  obtain ⟨g206, hm⟩ := grd_s hm
  have q := km_Pc_apply_506 hmrApply  q205.2  hm
  exact ⟨q205.1.tr q.1, q.2⟩
set_option maxHeartbeats 8000000 in
set_option maxRecDepth 100000 in
theorem km_Pc_apply_499 {N : Nat} {rApply : Sh → St → Int → Int → Int → Option (Sh × St × Int)} (hmrApply : ∀ {π : Sh} {σ : St} {y0 : Int} {y1 : Int} {y2 : Int} {r : Sh × St × Int}, Cl π σ → y0 < nn π → y1 < nn π → rApply π σ y0 y1 y2 = some r → ext π r.1 ∧ Cl r.1 r.2.1)  {r : Sh × St × Int}  {π : Sh} {σ : St} {x2 : Int} {s0 : Int} {s1 : Int} (hC : Cl π σ) (hv_s0 : s0 < nn π) (hv_s1 : s1 < nn π) (hm : Pc_apply_499 N rApply π σ x2 s0 s1 = some r) : ext π r.1 ∧ Cl r.1 r.2.1 := by
  have hS := hC.1
  rw [Pc_apply_499] at hm
  obtain ⟨r136, e137, hm⟩ := obd_s hm
  have q138 := (km_Sp_give hC hv_s0 e137)
  obtain ⟨g139, hm⟩ := grd_s hm
  have q := km_Pc_apply_503 hmrApply  q138.2.1 q138.2.2 (lt_ext hv_s1 q138.1) hm
  exact ⟨q138.1.tr q.1, q.2⟩
set_option maxHeartbeats 8000000 in
set_option maxRecDepth 100000 in
theorem km_Pc_apply_491 {N : Nat} {rApply : Sh → St → Int → Int → Int → Option (Sh × St × Int)} (hmrApply : ∀ {π : Sh} {σ : St} {y0 : Int} {y1 : Int} {y2 : Int} {r : Sh × St × Int}, Cl π σ → y0 < nn π → y1 < nn π → rApply π σ y0 y1 y2 = some r → ext π r.1 ∧ Cl r.1 r.2.1)  {r : Sh × St × Int}  {π : Sh} {σ : St} {s0 : Int} (hC : Cl π σ)  (hm : Pc_apply_491 N rApply π σ s0 = some r) : ext π r.1 ∧ Cl r.1 r.2.1 := by
  have hS := hC.1
  rw [Pc_apply_491] at hm
  cases hm
  exact ⟨ext.rf _, hC⟩
set_option maxHeartbeats 8000000 in
set_option maxRecDepth 100000 in
theorem km_Pc_apply_488 {N : Nat} {rApply : Sh → St → Int → Int → Int → Option (Sh × St × Int)} (hmrApply : ∀ {π : Sh} {σ : St} {y0 : Int} {y1 : Int} {y2 : Int} {r : Sh × St × Int}, Cl π σ → y0 < nn π → y1 < nn π → rApply π σ y0 y1 y2 = some r → ext π r.1 ∧ Cl r.1 r.2.1)  {r : Sh × St × Int}  {π : Sh} {σ : St} {s0 : Int} {s1 : Int} (hC : Cl π σ) (hv_s0 : s0 < nn π) (hv_s1 : s1 < nn π) (hm : Pc_apply_488 N rApply π σ s0 s1 = some r) : ext π r.1 ∧ Cl r.1 r.2.1 := by
  have hS := hC.1
  rw [Pc_apply_488] at hm
  obtain ⟨r278, e279, hm⟩ := obd_s hm
  have q280 := (km_Df_add hC hv_s1 hv_s0 e279)
  obtain ⟨g281, hm⟩ := grd_s hm
  have q := km_Pc_apply_491 hmrApply  q280.2  hm
  exact ⟨q280.1.tr q.1, q.2⟩
set_option maxHeartbeats 8000000 in
set_option maxRecDepth 100000 in
theorem km_Pc_apply_479 {N : Nat} {rApply : Sh → St → Int → Int → Int → Option (Sh × St × Int)} (hmrApply : ∀ {π : Sh} {σ : St} {y0 : Int} {y1 : Int} {y2 : Int} {r : Sh × St × Int}, Cl π σ → y0 < nn π → y1 < nn π → rApply π σ y0 y1 y2 = some r → ext π r.1 ∧ Cl r.1 r.2.1)  {r : Sh × St × Int}  {π : Sh} {σ : St} {x0 : Int} {s0 : Int} {s1 : Int} (hC : Cl π σ) (hv_x0 : x0 < nn π) (hv_s0 : s0 < nn π) (hv_s1 : s1 < nn π) (hm : Pc_apply_479 N rApply π σ x0 s0 s1 = some r) : ext π r.1 ∧ Cl r.1 r.2.1 := by
  have hS := hC.1
  rw [Pc_apply_479] at hm
  obtain ⟨g263, hm⟩ := grd_s hm
  obtain ⟨g264, hm⟩ := grd_s hm
  obtain ⟨g265, hm⟩ := grd_s hm
  obtain ⟨r266, e267, hm⟩ := obd_s hm
  have q268 := (km_Sp_give hC hv_s0 e267)
  obtain ⟨g269, hm⟩ := grd_s hm
  have q := km_Pc_apply_488 hmrApply  q268.2.1 q268.2.2 (lt_ext hv_s1 q268.1) hm
  exact ⟨q268.1.tr q.1, q.2⟩
set_option maxHeartbeats 8000000 in
set_option maxRecDepth 100000 in
theorem km_Pc_apply_475 {N : Nat} {rApply : Sh → St → Int → Int → Int → Option (Sh × St × Int)} (hmrApply : ∀ {π : Sh} {σ : St} {y0 : Int} {y1 : Int} {y2 : Int} {r : Sh × St × Int}, Cl π σ → y0 < nn π → y1 < nn π → rApply π σ y0 y1 y2 = some r → ext π r.1 ∧ Cl r.1 r.2.1)  {r : Sh × St × Int}  {π : Sh} {σ : St} {x0 : Int} {x2 : Int} {s0 : Int} {s1 : Int} (hC : Cl π σ) (hv_x0 : x0 < nn π) (hv_s0 : s0 < nn π) (hv_s1 : s1 < nn π) (hm : Pc_apply_475 N rApply π σ x0 x2 s0 s1 = some r) : ext π r.1 ∧ Cl r.1 r.2.1 := by
  have hS := hC.1
  rw [Pc_apply_475] at hm
  obtain ⟨r207, e208, hm⟩ := obd_s hm
  have q209 := (km_Sp_give hC hv_s0 e208)
  obtain ⟨g210, hm⟩ := grd_s hm
  have q := km_Pc_apply_479 hmrApply  q209.2.1 (lt_ext hv_x0 q209.1) q209.2.2 (lt_ext hv_s1 q209.1) hm
  exact ⟨q209.1.tr q.1, q.2⟩
set_option maxHeartbeats 8000000 in
set_option maxRecDepth 100000 in
theorem km_Pc_apply_460 {N : Nat} {rApply : Sh → St → Int → Int → Int → Option (Sh × St × Int)} (hmrApply : ∀ {π : Sh} {σ : St} {y0 : Int} {y1 : Int} {y2 : Int} {r : Sh × St × Int}, Cl π σ → y0 < nn π → y1 < nn π → rApply π σ y0 y1 y2 = some r → ext π r.1 ∧ Cl r.1 r.2.1)  {r : Sh × St × Int}  {π : Sh} {σ : St} {x0 : Int} {x2 : Int} {s0 : Int} {s1 : Int} (hC : Cl π σ) (hv_x0 : x0 < nn π) (hv_s0 : s0 < nn π) (hv_s1 : s1 < nn π) (hm : Pc_apply_460 N rApply π σ x0 x2 s0 s1 = some r) : ext π r.1 ∧ Cl r.1 r.2.1 := by
  have hS := hC.1
  rw [Pc_apply_460] at hm
  obtain ⟨g140, hm⟩ := grd_s hm
  obtain ⟨r141, e142, hm⟩ := obd_s hm
  have q143 := (km_Sp_initB hC hv_s0 e142)
  obtain ⟨g144, hm⟩ := grd_s hm
  have q := km_Pc_apply_475 hmrApply  q143.2 (lt_ext hv_x0 q143.1) (lt_ext hv_s0 q143.1) (lt_ext hv_s1 q143.1) hm
  exact ⟨q143.1.tr q.1, q.2⟩
set_option maxHeartbeats 8000000 in
set_option maxRecDepth 100000 in
theorem km_Pc_apply_519 {N : Nat} {rApply : Sh → St → Int → Int → Int → Option (Sh × St × Int)} (hmrApply : ∀ {π : Sh} {σ : St} {y0 : Int} {y1 : Int} {y2 : Int} {r : Sh × St × Int}, Cl π σ → y0 < nn π → y1 < nn π → rApply π σ y0 y1 y2 = some r → ext π r.1 ∧ Cl r.1 r.2.1)  {r : Sh × St × Int}  {π : Sh} {σ : St} {s0 : Int} (hC : Cl π σ)  (hm : Pc_apply_519 N rApply π σ s0 = some r) : ext π r.1 ∧ Cl r.1 r.2.1 := by
  have hS := hC.1
  rw [Pc_apply_519] at hm
  cases hm
  exact ⟨ext.rf _, hC⟩
set_option maxHeartbeats 8000000 in
set_option maxRecDepth 100000 in
theorem km_Pc_apply_516 {N : Nat} {rApply : Sh → St → Int → Int → Int → Option (Sh × St × Int)} (hmrApply : ∀ {π : Sh} {σ : St} {y0 : Int} {y1 : Int} {y2 : Int} {r : Sh × St × Int}, Cl π σ → y0 < nn π → y1 < nn π → rApply π σ y0 y1 y2 = some r → ext π r.1 ∧ Cl r.1 r.2.1)  {r : Sh × St × Int}  {π : Sh} {σ : St} {s0 : Int} {s1 : Int} (hC : Cl π σ) (hv_s0 : s0 < nn π) (hv_s1 : s1 < nn π) (hm : Pc_apply_516 N rApply π σ s0 s1 = some r) : ext π r.1 ∧ Cl r.1 r.2.1 := by
  have hS := hC.1
  rw [Pc_apply_516] at hm
  obtain ⟨r211, e212, hm⟩ := obd_s hm
  have q213 := (km_Df_add hC hv_s1 hv_s0 e212)
  obtain ⟨g214, hm⟩ := grd_s hm
  have q := km_Pc_apply_519 hmrApply  q213.2  hm
  exact ⟨q213.1.tr q.1, q.2⟩
set_option maxHeartbeats 8000000 in
set_option maxRecDepth 100000 in
theorem km_Pc_apply_512 {N : Nat} {rApply : Sh → St → Int → Int → Int → Option (Sh × St × Int)} (hmrApply : ∀ {π : Sh} {σ : St} {y0 : Int} {y1 : Int} {y2 : Int} {r : Sh × St × Int}, Cl π σ → y0 < nn π → y1 < nn π → rApply π σ y0 y1 y2 = some r → ext π r.1 ∧ Cl r.1 r.2.1)  {r : Sh × St × Int}  {π : Sh} {σ : St} {x2 : Int} {s0 : Int} {s1 : Int} (hC : Cl π σ) (hv_s0 : s0 < nn π) (hv_s1 : s1 < nn π) (hm : Pc_apply_512 N rApply π σ x2 s0 s1 = some r) : ext π r.1 ∧ Cl r.1 r.2.1 := by
  have hS := hC.1
  rw [Pc_apply_512] at hm
  obtain ⟨r145, e146, hm⟩ := obd_s hm
  have q147 := (km_Sp_give hC hv_s0 e146)
  obtain ⟨g148, hm⟩ := grd_s hm
  have q := km_Pc_apply_516 hmrApply  q147.2.1 q147.2.2 (lt_ext hv_s1 q147.1) hm
  exact ⟨q147.1.tr q.1, q.2⟩
set_option maxHeartbeats 8000000 in
set_option maxRecDepth 100000 in
theorem km_Pc_apply_529 {N : Nat} {rApply : Sh → St → Int → Int → Int → Option (Sh × St × Int)} (hmrApply : ∀ {π : Sh} {σ : St} {y0 : Int} {y1 : Int} {y2 : Int} {r : Sh × St × Int}, Cl π σ → y0 < nn π → y1 < nn π → rApply π σ y0 y1 y2 = some r → ext π r.1 ∧ Cl r.1 r.2.1)  {r : Sh × St × Int}  {π : Sh} {σ : St} {s0 : Int} (hC : Cl π σ)  (hm : Pc_apply_529 N rApply π σ s0 = some r) : ext π r.1 ∧ Cl r.1 r.2.1 := by
  have hS := hC.1
  rw [Pc_apply_529] at hm
  cases hm
  exact ⟨ext.rf _, hC⟩
set_option maxHeartbeats 8000000 in
set_option maxRecDepth 100000 in
theorem km_Pc_apply {N : Nat} {rApply : Sh → St → Int → Int → Int → Option (Sh × St × Int)} (hmrApply : ∀ {π : Sh} {σ : St} {y0 : Int} {y1 : Int} {y2 : Int} {r : Sh × St × Int}, Cl π σ → y0 < nn π → y1 < nn π → rApply π σ y0 y1 y2 = some r → ext π r.1 ∧ Cl r.1 r.2.1) {π : Sh} {σ : St} {x0 : Int} {x1 : Int} {x2 : Int} {r : Sh × St × Int} (hC : Cl π σ) (hv_x0 : x0 < nn π) (hv_x1 : x1 < nn π) (hm : Pc_apply N rApply π σ x0 x1 x2 = some r) : ext π r.1 ∧ Cl r.1 r.2.1 := by
  have hS := hC.1
  rw [Pc_apply] at hm
  obtain ⟨g1, hm⟩ := grd_s hm
  obtain ⟨g2, hm⟩ := grd_s hm
  by_cases c3 : (fl σ 120 x0) = 0
  · have hm := ite_t c3 hm
    have q := km_Pc_apply_120 hmrApply  ((cl_nO hC (by decide) (by decide) _)) (lt_ext hv_x0 (ext_nO π 10 14)) lt_nO (lt_ext hv_x1 (ext_nO π 10 14)) hm
    exact ⟨(ext_nO π 10 14).tr q.1, q.2⟩
  have hm := ite_f c3 hm
  by_cases c5 : (fl σ 120 x0) = 1
  · have hm := ite_t c5 hm
    have q := km_Pc_apply_150 hmrApply  ((cl_nO hC (by decide) (by decide) _)) (lt_ext hv_x0 (ext_nO π 10 14)) lt_nO (lt_ext hv_x1 (ext_nO π 10 14)) hm
    exact ⟨(ext_nO π 10 14).tr q.1, q.2⟩
  have hm := ite_f c5 hm
  by_cases c7 : (fl σ 120 x0) = 2
  · have hm := ite_t c7 hm
    have q := km_Pc_apply_180 hmrApply  ((cl_nO hC (by decide) (by decide) _)) (lt_ext hv_x0 (ext_nO π 10 14)) lt_nO (lt_ext hv_x1 (ext_nO π 10 14)) hm
    exact ⟨(ext_nO π 10 14).tr q.1, q.2⟩
  have hm := ite_f c7 hm
  by_cases c9 : (fl σ 120 x0) = 3
  · have hm := ite_t c9 hm
    have q := km_Pc_apply_210 hmrApply  ((cl_nO hC (by decide) (by decide) _)) (lt_ext hv_x0 (ext_nO π 10 14)) lt_nO (lt_ext hv_x1 (ext_nO π 10 14)) hm
    exact ⟨(ext_nO π 10 14).tr q.1, q.2⟩
  have hm := ite_f c9 hm
  by_cases c11 : (fl σ 120 x0) = 4
  · have hm := ite_t c11 hm
    have q := km_Pc_apply_241 hmrApply  ((cl_nO hC (by decide) (by decide) _)) (lt_ext hv_x0 (ext_nO π 10 14)) lt_nO (lt_ext hv_x1 (ext_nO π 10 14)) hm
    exact ⟨(ext_nO π 10 14).tr q.1, q.2⟩
  have hm := ite_f c11 hm
  by_cases c13 : (fl σ 120 x0) = 5
  · have hm := ite_t c13 hm
    obtain ⟨r14, e15, hm⟩ := obd_s hm
    have q16 := (km_Pc_applyWithFun hmrApply hC hv_x0 hv_x1 e15)
    have q := km_Pc_apply_536 hmrApply  q16.2  hm
    exact ⟨q16.1.tr q.1, q.2⟩
  have hm := ite_f c13 hm
  by_cases c17 : (fl σ 120 x0) = 6
  · have hm := ite_t c17 hm
    obtain ⟨r18, e19, hm⟩ := obd_s hm
    have q20 := (km_Pc_applyWithFun hmrApply hC hv_x0 hv_x1 e19)
    have q := km_Pc_apply_536 hmrApply  q20.2  hm
    exact ⟨q20.1.tr q.1, q.2⟩
  have hm := ite_f c17 hm
  by_cases c21 : (fl σ 120 x0) = 7
  · have hm := ite_t c21 hm
    obtain ⟨r22, e23, hm⟩ := obd_s hm
    have q24 := (km_Pc_applyWithFun hmrApply hC hv_x0 hv_x1 e23)
    have q := km_Pc_apply_536 hmrApply  q24.2  hm
    exact ⟨q24.1.tr q.1, q.2⟩
  have hm := ite_f c21 hm
  by_cases c25 : (fl σ 120 x0) = 8
  · have hm := ite_t c25 hm
    obtain ⟨r26, e27, hm⟩ := obd_s hm
    have q28 := (km_Pc_applyWithFun hmrApply hC hv_x0 hv_x1 e27)
    have q := km_Pc_apply_536 hmrApply  q28.2  hm
    exact ⟨q28.1.tr q.1, q.2⟩
  have hm := ite_f c25 hm
  by_cases c29 : (fl σ 120 x0) = 9
  · have hm := ite_t c29 hm
    have q := km_Pc_apply_263 hmrApply  ((cl_nO hC (by decide) (by decide) _)) (lt_ext hv_x0 (ext_nO π 10 14)) lt_nO (lt_ext hv_x1 (ext_nO π 10 14)) hm
    exact ⟨(ext_nO π 10 14).tr q.1, q.2⟩
  have hm := ite_f c29 hm
  by_cases c31 : (fl σ 120 x0) = 10
  · have hm := ite_t c31 hm
    have q := km_Pc_apply_290 hmrApply  ((cl_nO hC (by decide) (by decide) _)) (lt_ext hv_x0 (ext_nO π 10 14)) lt_nO (lt_ext hv_x1 (ext_nO π 10 14)) hm
    exact ⟨(ext_nO π 10 14).tr q.1, q.2⟩
  have hm := ite_f c31 hm
  by_cases c33 : (fl σ 120 x0) = 11
  · have hm := ite_t c33 hm
    obtain ⟨r34, e35, hm⟩ := obd_s hm
    have q36 := (km_Pc_applyWithFun hmrApply hC hv_x0 hv_x1 e35)
    have q := km_Pc_apply_536 hmrApply  q36.2  hm
    exact ⟨q36.1.tr q.1, q.2⟩
  have hm := ite_f c33 hm
  by_cases c37 : (fl σ 120 x0) = 12
  · have hm := ite_t c37 hm
    obtain ⟨r38, e39, hm⟩ := obd_s hm
    have q40 := (km_Pc_applyWithFun hmrApply hC hv_x0 hv_x1 e39)
    have q := km_Pc_apply_536 hmrApply  q40.2  hm
    exact ⟨q40.1.tr q.1, q.2⟩
  have hm := ite_f c37 hm
  by_cases c41 : (fl σ 120 x0) = 13
  · have hm := ite_t c41 hm
    have q := km_Pc_apply_317 hmrApply  ((cl_nO hC (by decide) (by decide) _)) (lt_ext hv_x0 (ext_nO π 10 14)) lt_nO (lt_ext hv_x1 (ext_nO π 10 14)) hm
    exact ⟨(ext_nO π 10 14).tr q.1, q.2⟩
  have hm := ite_f c41 hm
  by_cases c43 : (fl σ 120 x0) = 14
  · have hm := ite_t c43 hm
    have q := km_Pc_apply_398 hmrApply  ((cl_nO hC (by decide) (by decide) _)) (lt_ext hv_x0 (ext_nO π 10 14)) lt_nO (lt_ext hv_x1 (ext_nO π 10 14)) hm
    exact ⟨(ext_nO π 10 14).tr q.1, q.2⟩
  have hm := ite_f c43 hm
  by_cases c45 : (fl σ 120 x0) = 15
  · have hm := ite_t c45 hm
    have q := km_Pc_apply_429 hmrApply  ((cl_nO hC (by decide) (by decide) _)) (lt_ext hv_x0 (ext_nO π 10 14)) lt_nO (lt_ext hv_x1 (ext_nO π 10 14)) hm
    exact ⟨(ext_nO π 10 14).tr q.1, q.2⟩
  have hm := ite_f c45 hm
  by_cases c47 : (fl σ 120 x0) = 16
  · have hm := ite_t c47 hm
    have q := km_Pc_apply_344 hmrApply  ((cl_nO hC (by decide) (by decide) _)) (lt_ext hv_x0 (ext_nO π 10 14)) lt_nO (lt_ext hv_x1 (ext_nO π 10 14)) hm
    exact ⟨(ext_nO π 10 14).tr q.1, q.2⟩
  have hm := ite_f c47 hm
  by_cases c49 : (fl σ 120 x0) = 17
  · have hm := ite_t c49 hm
    have q := km_Pc_apply_371 hmrApply  ((cl_nO hC (by decide) (by decide) _)) (lt_ext hv_x0 (ext_nO π 10 14)) lt_nO (lt_ext hv_x1 (ext_nO π 10 14)) hm
    exact ⟨(ext_nO π 10 14).tr q.1, q.2⟩
  have hm := ite_f c49 hm
  by_cases c51 : (fl σ 120 x0) = 18
  · have hm := ite_t c51 hm
    obtain ⟨r52, e53, hm⟩ := obd_s hm
    have q54 := (km_Pc_applyWithFun hmrApply hC hv_x0 hv_x1 e53)
    have q := km_Pc_apply_536 hmrApply  q54.2  hm
    exact ⟨q54.1.tr q.1, q.2⟩
  have hm := ite_f c51 hm
  by_cases c55 : (fl σ 120 x0) = 19
  · have hm := ite_t c55 hm
    obtain ⟨r56, e57, hm⟩ := obd_s hm
    have q58 := (km_Pc_applyWithFun hmrApply hC hv_x0 hv_x1 e57)
    have q := km_Pc_apply_536 hmrApply  q58.2  hm
    exact ⟨q58.1.tr q.1, q.2⟩
  have hm := ite_f c55 hm
  by_cases c59 : (fl σ 120 x0) = 20
  · have hm := ite_t c59 hm
    obtain ⟨r60, e61, hm⟩ := obd_s hm
    have q62 := (km_Pc_spanStep hC hv_x0 e61)
    have q := km_Pc_apply_499 hmrApply  q62.2.1 q62.2.2 (lt_ext hv_x1 q62.1) hm
    exact ⟨q62.1.tr q.1, q.2⟩
  have hm := ite_f c59 hm
  by_cases c63 : (fl σ 120 x0) = 21
  · have hm := ite_t c63 hm
    have q := km_Pc_apply_460 hmrApply  ((cl_nO hC (by decide) (by decide) _)) (lt_ext hv_x0 (ext_nO π 10 14)) lt_nO (lt_ext hv_x1 (ext_nO π 10 14)) hm
    exact ⟨(ext_nO π 10 14).tr q.1, q.2⟩
  have hm := ite_f c63 hm
  by_cases c65 : (fl σ 120 x0) = 22
  · have hm := ite_t c65 hm
    obtain ⟨r66, e67, hm⟩ := obd_s hm
    have q68 := (km_Pc_useStep hC hv_x0 e67)
    have q := km_Pc_apply_512 hmrApply  q68.2.1 q68.2.2 (lt_ext hv_x1 q68.1) hm
    exact ⟨q68.1.tr q.1, q.2⟩
  have hm := ite_f c65 hm
  by_cases c69 : (fl σ 120 x0) = 23
  · have hm := ite_t c69 hm
    obtain ⟨r70, e71, hm⟩ := obd_s hm
    have q72 := (km_Pc_applyAll hmrApply hC (cl_fl hC (f := 126) rfl x0) hv_x1 e71)
    have q := km_Pc_apply_529 hmrApply  q72.2  hm
    exact ⟨q72.1.tr q.1, q.2⟩
  have hm := ite_f c69 hm
  obtain ⟨r73, e74, hm⟩ := obd_s hm
  have q75 := (km_Pc_applyWithFun hmrApply hC hv_x0 hv_x1 e74)
  have q := km_Pc_apply_536 hmrApply  q75.2  hm
  exact ⟨q75.1.tr q.1, q.2⟩
set_option maxHeartbeats 8000000 in
set_option maxRecDepth 100000 in
theorem km_Pc_applyC {N d : Nat} : ∀ {π : Sh} {σ : St} {y0 : Int} {y1 : Int} {y2 : Int} {r : Sh × St × Int}, Cl π σ → y0 < nn π → y1 < nn π → Pc_applyC N d π σ y0 y1 y2 = some r → ext π r.1 ∧ Cl r.1 r.2.1 := by
  induction d with
  | zero => intro π σ y0 y1 y2 r hC hv_y0 hv_y1 hm; cases (show none = some r from hm)
  | succ d ih => intro π σ y0 y1 y2 r hC hv_y0 hv_y1 hm; exact km_Pc_apply (N := N) ih hC hv_y0 hv_y1 hm
set_option maxHeartbeats 8000000 in
set_option maxRecDepth 100000 in
theorem km_Rd_hasMore {N : Nat}   {π : Sh} {σ : St}  {r : St × Int} (hC : Cl π σ)  (hm : Rd_hasMore N π σ  = some r) : Cl π r.1 := by
  have hS := hC.1
  rw [Rd_hasMore] at hm
  obtain ⟨g1, hm⟩ := grd_s hm
  by_cases c2 : (fl σ 185 1) = 6
  · have hm := ite_t c2 hm
    cases hm
    exact hC
  · have hm := ite_f c2 hm
    cases hm
    exact hC
set_option maxHeartbeats 8000000 in
set_option maxRecDepth 100000 in
theorem km_Sc_fail {N : Nat}   {π : Sh} {σ : St} {x1 : Int} {x2 : Int} {r : St} (hC : Cl π σ)  (hm : Sc_fail N π σ x1 x2 = some r) : Cl π r := by
  have hS := hC.1
  rw [Sc_fail] at hm
  obtain ⟨g1, hm⟩ := grd_s hm
  by_cases c2 : (fl σ 182 1) = 0
  · have hm := ite_t c2 hm
    cases hm
    exact (cl_sfI (cl_sfI hC (f := 182) rfl _ _) (f := 183) rfl _ _)
  · have hm := ite_f c2 hm
    cases hm
    exact hC
set_option maxHeartbeats 8000000 in
set_option maxRecDepth 100000 in
theorem km_Tx_finish {N : Nat}   {π : Sh} {σ : St}  {r : St} (hC : Cl π σ)  (hm : Tx_finish N π σ  = some r) : Cl π r := by
  have hS := hC.1
  rw [Tx_finish] at hm
  obtain ⟨g1, hm⟩ := grd_s hm
  obtain ⟨g2, hm⟩ := grd_s hm
  by_cases c3 : (fl σ 222 50) = (fl σ 223 50)
  · have hm := ite_t c3 hm
    cases hm
    exact hC
  · have hm := ite_f c3 hm
    obtain ⟨r4, e5, hm⟩ := obd_s hm
    have q6 := (km_Sc_fail hC e5)
    have hC7 : Cl π r4 := q6
    cases hm
    exact hC7
set_option maxHeartbeats 8000000 in
set_option maxRecDepth 100000 in
theorem km_Tx_here {N : Nat}   {π : Sh} {σ : St}  {r : St × Int} (hC : Cl π σ)  (hm : Tx_here N π σ  = some r) : Cl π r.1 := by
  have hS := hC.1
  rw [Tx_here] at hm
  obtain ⟨g1, hm⟩ := grd_s hm
  by_cases c2 : (fl σ 222 50) < 2000
  · have hm := ite_t c2 hm
    obtain ⟨g3, hm⟩ := grd_s hm
    cases hm
    exact hC
  · have hm := ite_f c2 hm
    cases hm
    exact hC
set_option maxHeartbeats 8000000 in
set_option maxRecDepth 100000 in
theorem km_Tx_skipBlanks_0 {N : Nat}   {π : Sh} {r : St}  (n : Nat) : ∀ {σ : St} , Cl π σ → Tx_skipBlanks_0 N π n σ  = some r → Cl π r := by
  induction n with
  | zero => intro σ  hC  hm; cases (show none = some r from hm)
  | succ n krec0 =>
    intro σ  hC  hm
    have hS := hC.1
    rw [Tx_skipBlanks_0] at hm
    obtain ⟨g1, hm⟩ := grd_s hm
    obtain ⟨g2, hm⟩ := grd_s hm
    by_cases c3 : (fl σ 222 50) < (fl σ 223 50)
    · have hm := ite_t c3 hm
      by_cases c4 : (fl σ 222 50) < 2000
      · have hm := ite_t c4 hm
        obtain ⟨g5, hm⟩ := grd_s hm
        obtain ⟨g6, hm⟩ := grd_s hm
        by_cases c7 : (el σ 2 (fl σ 222 50)) = 32
        · have hm := ite_t c7 hm
          exact krec0 (cl_sfI hC (f := 222) rfl _ _)  hm
        · have hm := ite_f c7 hm
          cases hm
          exact hC
      · have hm := ite_f c4 hm
        cases hm
        exact hC
    · have hm := ite_f c3 hm
      cases hm
      exact hC
set_option maxHeartbeats 8000000 in
set_option maxRecDepth 100000 in
theorem km_Tx_skipBlanks {N : Nat}   {π : Sh} {σ : St}  {r : St} (hC : Cl π σ)  (hm : Tx_skipBlanks N π σ  = some r) : Cl π r := by
  have hS := hC.1
  rw [Tx_skipBlanks] at hm
  exact km_Tx_skipBlanks_0 N hC hm
set_option maxHeartbeats 8000000 in
set_option maxRecDepth 100000 in
theorem km_Tx_digits_148 {N : Nat}   {π : Sh} {r : St × Int}  {σ : St}  (hC : Cl π σ)  (hm : Tx_digits_148 N π σ  = some r) : Cl π r.1 := by
  have hS := hC.1
  rw [Tx_digits_148] at hm
  cases hm
  exact hC
set_option maxHeartbeats 8000000 in
set_option maxRecDepth 100000 in
theorem km_Tx_digits_130 {N : Nat}   {π : Sh} {r : St × Int}  {σ : St} {x3 : Int} {s0 : Int} (hC : Cl π σ)  (hm : Tx_digits_130 N π σ x3 s0 = some r) : Cl π r.1 := by
  have hS := hC.1
  rw [Tx_digits_130] at hm
  obtain ⟨g20, hm⟩ := grd_s hm
  by_cases c21 : s0 = 0
  · have hm := ite_t c21 hm
    obtain ⟨g22, hm⟩ := grd_s hm
    obtain ⟨g23, hm⟩ := grd_s hm
    by_cases c24 : (fl σ 222 50) = (fl σ 225 50)
    · have hm := ite_t c24 hm
      exact km_Tx_digits_148 hC hm
    · have hm := ite_f c24 hm
      cases hm
      exact hC
  · have hm := ite_f c21 hm
    exact km_Tx_digits_148 hC hm
set_option maxHeartbeats 8000000 in
set_option maxRecDepth 100000 in
theorem km_Tx_digits_129 {N : Nat}   {π : Sh} {r : St × Int}  {σ : St} {x3 : Int} (hC : Cl π σ)  (hm : Tx_digits_129 N π σ x3 = some r) : Cl π r.1 := by
  have hS := hC.1
  rw [Tx_digits_129] at hm
  exact km_Tx_digits_130 hC hm
set_option maxHeartbeats 8000000 in
set_option maxRecDepth 100000 in
theorem km_Tx_digits_92 {N : Nat}   {π : Sh} {r : St × Int}  {σ : St} {x3 : Int} (hC : Cl π σ)  (hm : Tx_digits_92 N π σ x3 = some r) : Cl π r.1 := by
  have hS := hC.1
  rw [Tx_digits_92] at hm
  obtain ⟨g13, hm⟩ := grd_s hm
  obtain ⟨g14, hm⟩ := grd_s hm
  by_cases c15 : (fl σ 222 50) < (fl σ 223 50)
  · have hm := ite_t c15 hm
    obtain ⟨g16, hm⟩ := grd_s hm
    obtain ⟨g17, hm⟩ := grd_s hm
    by_cases c18 : (el σ 2 (fl σ 222 50)) < 48
    · have hm := ite_t c18 hm
      exact km_Tx_digits_129 hC hm
    · have hm := ite_f c18 hm
      by_cases c19 : (57 : Int) < (el σ 2 (fl σ 222 50))
      · have hm := ite_t c19 hm
        exact km_Tx_digits_129 hC hm
      · have hm := ite_f c19 hm
        exact km_Tx_digits_130 hC hm
  · have hm := ite_f c15 hm
    exact km_Tx_digits_129 hC hm
set_option maxHeartbeats 8000000 in
set_option maxRecDepth 100000 in
theorem km_Tx_digits_18 {N : Nat}   {π : Sh} {r : St × Int}  (n : Nat) : ∀ {σ : St} {x1 : Int} {x3 : Int}, Cl π σ → Tx_digits_18 N π n σ x1 x3 = some r → Cl π r.1 := by
  induction n with
  | zero => intro σ x1 x3 hC  hm; cases (show none = some r from hm)
  | succ n krec18 =>
    intro σ x1 x3 hC  hm
    have hS := hC.1
    rw [Tx_digits_18] at hm
    obtain ⟨g1, hm⟩ := grd_s hm
    obtain ⟨g2, hm⟩ := grd_s hm
    by_cases c3 : (fl σ 222 50) < (fl σ 223 50)
    · have hm := ite_t c3 hm
      obtain ⟨g4, hm⟩ := grd_s hm
      obtain ⟨g5, hm⟩ := grd_s hm
      by_cases c6 : ((fl σ 222 50) - (fl σ 225 50)) < x1
      · have hm := ite_t c6 hm
        obtain ⟨g7, hm⟩ := grd_s hm
        obtain ⟨g8, hm⟩ := grd_s hm
        by_cases c9 : (el σ 2 (fl σ 222 50)) < 48
        · have hm := ite_t c9 hm
          exact km_Tx_digits_92 hC hm
        · have hm := ite_f c9 hm
          by_cases c10 : (57 : Int) < (el σ 2 (fl σ 222 50))
          · have hm := ite_t c10 hm
            exact km_Tx_digits_92 hC hm
          · have hm := ite_f c10 hm
            obtain ⟨v11, e12, hm⟩ := bnd_s hm
            exact krec18 (cl_sfI hC (f := 222) rfl _ _)  hm
      · have hm := ite_f c6 hm
        exact km_Tx_digits_92 hC hm
    · have hm := ite_f c3 hm
      exact km_Tx_digits_92 hC hm
set_option maxHeartbeats 8000000 in
set_option maxRecDepth 100000 in
theorem km_Tx_digits {N : Nat}   {π : Sh} {σ : St} {x1 : Int} {r : St × Int} (hC : Cl π σ)  (hm : Tx_digits N π σ x1 = some r) : Cl π r.1 := by
  have hS := hC.1
  rw [Tx_digits] at hm
  exact km_Tx_digits_18 N (cl_sfI hC (f := 225) rfl _ _) hm
set_option maxHeartbeats 8000000 in
set_option maxRecDepth 100000 in
theorem km_Tx_number_40 {N : Nat}   {π : Sh} {r : St × Int}  {σ : St} {x3 : Int} (hC : Cl π σ)  (hm : Tx_number_40 N π σ x3 = some r) : Cl π r.1 := by
  have hS := hC.1
  rw [Tx_number_40] at hm
  obtain ⟨r19, e20, hm⟩ := obd_s hm
  have q21 := (km_Sc_fail hC e20)
  have hC22 : Cl π r19 := q21
  cases hm
  exact hC22
set_option maxHeartbeats 8000000 in
set_option maxRecDepth 100000 in
theorem km_Tx_number {N : Nat}   {π : Sh} {σ : St} {x1 : Int} {x2 : Int} {r : St × Int} (hC : Cl π σ)  (hm : Tx_number N π σ x1 x2 = some r) : Cl π r.1 := by
  have hS := hC.1
  rw [Tx_number] at hm
  obtain ⟨r1, e2, hm⟩ := obd_s hm
  have q3 := (km_Tx_skipBlanks hC e2)
  have hC4 : Cl π r1 := q3
  obtain ⟨r5, e6, hm⟩ := obd_s hm
  have q7 := (km_Tx_digits hC4 e6)
  have hC8 : Cl π r5.1 := q7
  obtain ⟨g9, hm⟩ := grd_s hm
  by_cases c10 : r5.2 = (-1)
  · have hm := ite_t c10 hm
    obtain ⟨r15, e16, hm⟩ := obd_s hm
    have q17 := (km_Sc_fail hC8 e16)
    have hC18 : Cl π r15 := q17
    cases hm
    exact hC18
  · have hm := ite_f c10 hm
    obtain ⟨g11, hm⟩ := grd_s hm
    by_cases c12 : r5.2 < x1
    · have hm := ite_t c12 hm
      exact km_Tx_number_40 hC8 hm
    · have hm := ite_f c12 hm
      obtain ⟨g13, hm⟩ := grd_s hm
      by_cases c14 : x2 < r5.2
      · have hm := ite_t c14 hm
        exact km_Tx_number_40 hC8 hm
      · have hm := ite_f c14 hm
        cases hm
        exact hC8
set_option maxHeartbeats 8000000 in
set_option maxRecDepth 100000 in
theorem km_Tx_behindSign {N : Nat}   {π : Sh} {σ : St} {x1 : Int} {r : St × Int} (hC : Cl π σ)  (hm : Tx_behindSign N π σ x1 = some r) : Cl π r.1 := by
  have hS := hC.1
  rw [Tx_behindSign] at hm
  obtain ⟨r1, e2, hm⟩ := obd_s hm
  have q3 := (km_Tx_skipBlanks hC e2)
  have hC4 : Cl π r1 := q3
  obtain ⟨g5, hm⟩ := grd_s hm
  by_cases c6 : (fl r1 182 1) = 0
  · have hm := ite_t c6 hm
    obtain ⟨r7, e8, hm⟩ := obd_s hm
    have q9 := (km_Tx_here hC4 e8)
    have hC10 : Cl π r7.1 := q9
    obtain ⟨g11, hm⟩ := grd_s hm
    obtain ⟨g12, hm⟩ := grd_s hm
    by_cases c13 : r7.2 = x1
    · have hm := ite_t c13 hm
      obtain ⟨σ14, e15, hm⟩ := bnd_s hm
      have hC16 : Cl π σ14 := e15 ▸ (cl_sfI hC10 (f := 222) rfl _ _)
      obtain ⟨r17, e18, hm⟩ := obd_s hm
      have q19 := (km_Tx_number hC16 e18)
      have hC20 : Cl π r17.1 := q19
      cases hm
      exact hC20
    · have hm := ite_f c13 hm
      cases hm
      exact hC10
  · have hm := ite_f c6 hm
    cases hm
    exact hC4
set_option maxHeartbeats 8000000 in
set_option maxRecDepth 100000 in
theorem km_Tx_take {N : Nat}   {π : Sh} {σ : St} {x1 : Int} {r : St} (hC : Cl π σ)  (hm : Tx_take N π σ x1 = some r) : Cl π r := by
  have hS := hC.1
  rw [Tx_take] at hm
  obtain ⟨r1, e2, hm⟩ := obd_s hm
  have q3 := (km_Tx_skipBlanks hC e2)
  have hC4 : Cl π r1 := q3
  obtain ⟨r5, e6, hm⟩ := obd_s hm
  have q7 := (km_Tx_here hC4 e6)
  have hC8 : Cl π r5.1 := q7
  obtain ⟨g9, hm⟩ := grd_s hm
  obtain ⟨g10, hm⟩ := grd_s hm
  by_cases c11 : r5.2 = x1
  · have hm := ite_t c11 hm
    cases hm
    exact (cl_sfI hC8 (f := 222) rfl _ _)
  · have hm := ite_f c11 hm
    obtain ⟨r12, e13, hm⟩ := obd_s hm
    have q14 := (km_Sc_fail hC8 e13)
    have hC15 : Cl π r12 := q14
    cases hm
    exact hC15
set_option maxHeartbeats 8000000 in
set_option maxRecDepth 100000 in
theorem km_Sc_opens {N : Nat}   {π : Sh} {σ : St} {x1 : Int} {r : St × Int} (hC : Cl π σ)  (hm : Sc_opens N π σ x1 = some r) : Cl π r.1 := by
  have hS := hC.1
  rw [Sc_opens] at hm
  obtain ⟨g1, hm⟩ := grd_s hm
  by_cases c2 : (fl σ 184 1) < 20
  · have hm := ite_t c2 hm
    cases hm
    exact (cl_sfI hC (f := 184) rfl _ _)
  · have hm := ite_f c2 hm
    obtain ⟨r3, e4, hm⟩ := obd_s hm
    have q5 := (km_Sc_fail hC e4)
    have hC6 : Cl π r3 := q5
    cases hm
    exact hC6
set_option maxHeartbeats 8000000 in
set_option maxRecDepth 100000 in
theorem km_Tx_euclid_179 {N : Nat}    {r : Sh × St × Int}  {π : Sh} {σ : St} {s0 : Int} (hC : Cl π σ)  (hm : Tx_euclid_179 N π σ s0 = some r) : ext π r.1 ∧ Cl r.1 r.2.1 := by
  have hS := hC.1
  rw [Tx_euclid_179] at hm
  cases hm
  exact ⟨ext.rf _, hC⟩
set_option maxHeartbeats 8000000 in
set_option maxRecDepth 100000 in
theorem km_Tx_euclid_176 {N : Nat}    {r : Sh × St × Int}  {π : Sh} {σ : St} {s0 : Int} {s1 : Int} (hC : Cl π σ) (hv_s0 : s0 < nn π) (hv_s1 : s1 < nn π) (hm : Tx_euclid_176 N π σ s0 s1 = some r) : ext π r.1 ∧ Cl r.1 r.2.1 := by
  have hS := hC.1
  rw [Tx_euclid_176] at hm
  obtain ⟨r74, e75, hm⟩ := obd_s hm
  have q76 := (km_Df_add hC hv_s1 hv_s0 e75)
  obtain ⟨g77, hm⟩ := grd_s hm
  have q := km_Tx_euclid_179   q76.2  hm
  exact ⟨q76.1.tr q.1, q.2⟩
set_option maxHeartbeats 8000000 in
set_option maxRecDepth 100000 in
theorem km_Tx_euclid_138 {N : Nat}    {r : Sh × St × Int}  {π : Sh} {σ : St} {x1 : Int} {x2 : Int} (hC : Cl π σ) (hv_x2 : x2 < nn π) (hm : Tx_euclid_138 N π σ x1 x2 = some r) : ext π r.1 ∧ Cl r.1 r.2.1 := by
  have hS := hC.1
  rw [Tx_euclid_138] at hm
  obtain ⟨r61, e62, hm⟩ := obd_s hm
  have q63 := (km_Tx_take hC e62)
  have hC64 : Cl π r61 := q63
  obtain ⟨g65, hm⟩ := grd_s hm
  by_cases c66 : (fl r61 182 1) = 0
  · have hm := ite_t c66 hm
    obtain ⟨σ67, e68, hm⟩ := bnd_s hm
    have hC69 : Cl π σ67 := e68 ▸ (cl_sfI hC64 (f := 184) rfl _ _)
    obtain ⟨r70, e71, hm⟩ := obd_s hm
    have q72 := (km_Sp_give hC69 hv_x2 e71)
    obtain ⟨g73, hm⟩ := grd_s hm
    have q := km_Tx_euclid_176   q72.2.1 q72.2.2 (lt_ext (cl_fl hC64 (f := 221) rfl 50) q72.1) hm
    exact ⟨q72.1.tr q.1, q.2⟩
  · have hm := ite_f c66 hm
    cases hm
    exact ⟨ext.rf _, (cl_sfI hC64 (f := 184) rfl _ _)⟩
set_option maxHeartbeats 8000000 in
set_option maxRecDepth 100000 in
theorem km_Tx_euclid_94 {N : Nat}    {r : Sh × St × Int}  {π : Sh} {σ : St} {x1 : Int} {x2 : Int} (hC : Cl π σ) (hv_x2 : x2 < nn π) (hm : Tx_euclid_94 N π σ x1 x2 = some r) : ext π r.1 ∧ Cl r.1 r.2.1 := by
  have hS := hC.1
  rw [Tx_euclid_94] at hm
  obtain ⟨r41, e42, hm⟩ := obd_s hm
  have q43 := (km_Tx_skipBlanks hC e42)
  have hC44 : Cl π r41 := q43
  obtain ⟨g45, hm⟩ := grd_s hm
  by_cases c46 : (fl r41 182 1) = 0
  · have hm := ite_t c46 hm
    obtain ⟨r47, e48, hm⟩ := obd_s hm
    have q49 := (km_Tx_here hC44 e48)
    have hC50 : Cl π r47.1 := q49
    obtain ⟨g51, hm⟩ := grd_s hm
    by_cases c52 : r47.2 = 44
    · have hm := ite_t c52 hm
      obtain ⟨σ53, e54, hm⟩ := bnd_s hm
      have hC55 : Cl π σ53 := e54 ▸ (cl_sfI hC50 (f := 222) rfl _ _)
      obtain ⟨r56, e57, hm⟩ := obd_s hm
      have q58 := (km_Tx_number hC55 e57)
      have hC59 : Cl π r56.1 := q58
      obtain ⟨g60, hm⟩ := grd_s hm
      exact km_Tx_euclid_138 (cl_sfI hC59 (f := 204) rfl _ _) hv_x2 hm
    · have hm := ite_f c52 hm
      exact km_Tx_euclid_138 hC50 hv_x2 hm
  · have hm := ite_f c46 hm
    exact km_Tx_euclid_138 hC44 hv_x2 hm
set_option maxHeartbeats 8000000 in
set_option maxRecDepth 100000 in
theorem km_Tx_euclid_13 {N : Nat}    {r : Sh × St × Int}  {π : Sh} {σ : St} {x1 : Int} {s0 : Int} (hC : Cl π σ) (hv_s0 : s0 < nn π) (hm : Tx_euclid_13 N π σ x1 s0 = some r) : ext π r.1 ∧ Cl r.1 r.2.1 := by
  have hS := hC.1
  rw [Tx_euclid_13] at hm
  obtain ⟨r6, e7, hm⟩ := obd_s hm
  have q8 := (km_Sc_opens hC e7)
  have hC9 : Cl π r6.1 := q8
  obtain ⟨g10, hm⟩ := grd_s hm
  by_cases c11 : r6.2 = 0
  · have hm := ite_t c11 hm
    cases hm
    exact ⟨ext.rf _, hC9⟩
  · have hm := ite_f c11 hm
    obtain ⟨σ12, e13, hm⟩ := bnd_s hm
    have hC14 : Cl π σ12 := e13 ▸ (cl_sfI hC9 (f := 222) rfl _ _)
    obtain ⟨r15, e16, hm⟩ := obd_s hm
    have q17 := (km_Tx_number hC14 e16)
    have hC18 : Cl π r15.1 := q17
    obtain ⟨g19, hm⟩ := grd_s hm
    obtain ⟨σ20, e21, hm⟩ := bnd_s hm
    have hC22 : Cl π σ20 := e21 ▸ (cl_sfI hC18 (f := 202) rfl _ _)
    obtain ⟨r23, e24, hm⟩ := obd_s hm
    have q25 := (km_Tx_take hC22 e24)
    have hC26 : Cl π r23 := q25
    obtain ⟨r27, e28, hm⟩ := obd_s hm
    have q29 := (km_Tx_number hC26 e28)
    have hC30 : Cl π r27.1 := q29
    obtain ⟨g31, hm⟩ := grd_s hm
    obtain ⟨g32, hm⟩ := grd_s hm
    by_cases c33 : r27.2 < (fl r27.1 202 s0)
    · have hm := ite_t c33 hm
      obtain ⟨σ34, e35, hm⟩ := bnd_s hm
      have hC36 : Cl π σ34 := e35 ▸ (cl_sfI hC30 (f := 203) rfl _ _)
      obtain ⟨r37, e38, hm⟩ := obd_s hm
      have q39 := (km_Sc_fail hC36 e38)
      have hC40 : Cl π r37 := q39
      exact km_Tx_euclid_94 hC40 hv_s0 hm
    · have hm := ite_f c33 hm
      exact km_Tx_euclid_94 (cl_sfI hC30 (f := 203) rfl _ _) hv_s0 hm
set_option maxHeartbeats 8000000 in
set_option maxRecDepth 100000 in
theorem km_Tx_euclid_3 {N : Nat}    {r : Sh × St × Int}  {π : Sh} {σ : St} {x1 : Int} {s0 : Int} (hC : Cl π σ) (hv_s0 : s0 < nn π) (hm : Tx_euclid_3 N π σ x1 s0 = some r) : ext π r.1 ∧ Cl r.1 r.2.1 := by
  have hS := hC.1
  rw [Tx_euclid_3] at hm
  obtain ⟨r2, e3, hm⟩ := obd_s hm
  have q4 := (km_Sp_init hC hv_s0 e3)
  obtain ⟨g5, hm⟩ := grd_s hm
  have q := km_Tx_euclid_13   q4.2 (lt_ext hv_s0 q4.1) hm
  exact ⟨q4.1.tr q.1, q.2⟩
set_option maxHeartbeats 8000000 in
set_option maxRecDepth 100000 in
theorem km_Tx_euclid {N : Nat}   {π : Sh} {σ : St} {x1 : Int} {r : Sh × St × Int} (hC : Cl π σ)  (hm : Tx_euclid N π σ x1 = some r) : ext π r.1 ∧ Cl r.1 r.2.1 := by
  have hS := hC.1
  rw [Tx_euclid] at hm
  have q := km_Tx_euclid_3   ((cl_nO hC (by decide) (by decide) _)) lt_nO hm
  exact ⟨(ext_nO π 10 14).tr q.1, q.2⟩
set_option maxHeartbeats 8000000 in
set_option maxRecDepth 100000 in
theorem km_Tx_mods_203 {N : Nat}    {r : Sh × St × Int} {rec4 : Sh → St → Int → Int → Option (Sh × St × Int)} (krec4 : ∀ {π : Sh} {σ : St} {x2 : Int} {x3 : Int}, Cl π σ → rec4 π σ x2 x3 = some r → ext π r.1 ∧ Cl r.1 r.2.1) {π : Sh} {σ : St} {x2 : Int} {x3 : Int} (hC : Cl π σ)  (hm : Tx_mods_203 N rec4 π σ x2 x3 = some r) : ext π r.1 ∧ Cl r.1 r.2.1 := by
  have hS := hC.1
  rw [Tx_mods_203] at hm
  exact krec4 hC  hm
set_option maxHeartbeats 8000000 in
set_option maxRecDepth 100000 in
theorem km_Tx_mods_118 {N : Nat}    {r : Sh × St × Int} {rec4 : Sh → St → Int → Int → Option (Sh × St × Int)} (krec4 : ∀ {π : Sh} {σ : St} {x2 : Int} {x3 : Int}, Cl π σ → rec4 π σ x2 x3 = some r → ext π r.1 ∧ Cl r.1 r.2.1) {π : Sh} {σ : St} {x3 : Int} {s0 : Int} (hC : Cl π σ)  (hm : Tx_mods_118 N rec4 π σ x3 s0 = some r) : ext π r.1 ∧ Cl r.1 r.2.1 := by
  have hS := hC.1
  rw [Tx_mods_118] at hm
  exact km_Tx_mods_203 krec4 hC hm
set_option maxHeartbeats 8000000 in
set_option maxRecDepth 100000 in
theorem km_Tx_mods_115 {N : Nat}    {r : Sh × St × Int} {rec4 : Sh → St → Int → Int → Option (Sh × St × Int)} (krec4 : ∀ {π : Sh} {σ : St} {x2 : Int} {x3 : Int}, Cl π σ → rec4 π σ x2 x3 = some r → ext π r.1 ∧ Cl r.1 r.2.1) {π : Sh} {σ : St} {x3 : Int} {s0 : Int} {s1 : Int} (hC : Cl π σ) (hv_s0 : s0 < nn π) (hv_s1 : s1 < nn π) (hm : Tx_mods_115 N rec4 π σ x3 s0 s1 = some r) : ext π r.1 ∧ Cl r.1 r.2.1 := by
  have hS := hC.1
  rw [Tx_mods_115] at hm
  obtain ⟨r57, e58, hm⟩ := obd_s hm
  have q59 := (km_Df_add hC hv_s1 hv_s0 e58)
  obtain ⟨g60, hm⟩ := grd_s hm
  have q := km_Tx_mods_118  krec4 q59.2  hm
  exact ⟨q59.1.tr q.1, q.2⟩
set_option maxHeartbeats 8000000 in
set_option maxRecDepth 100000 in
theorem km_Tx_mods_111 {N : Nat}    {r : Sh × St × Int} {rec4 : Sh → St → Int → Int → Option (Sh × St × Int)} (krec4 : ∀ {π : Sh} {σ : St} {x2 : Int} {x3 : Int}, Cl π σ → rec4 π σ x2 x3 = some r → ext π r.1 ∧ Cl r.1 r.2.1) {π : Sh} {σ : St} {x2 : Int} {x3 : Int} {s0 : Int} {s1 : Int} (hC : Cl π σ) (hv_s0 : s0 < nn π) (hv_s1 : s1 < nn π) (hm : Tx_mods_111 N rec4 π σ x2 x3 s0 s1 = some r) : ext π r.1 ∧ Cl r.1 r.2.1 := by
  have hS := hC.1
  rw [Tx_mods_111] at hm
  obtain ⟨r53, e54, hm⟩ := obd_s hm
  have q55 := (km_Sp_give hC hv_s0 e54)
  obtain ⟨g56, hm⟩ := grd_s hm
  have q := km_Tx_mods_115  krec4 q55.2.1 q55.2.2 (lt_ext hv_s1 q55.1) hm
  exact ⟨q55.1.tr q.1, q.2⟩
set_option maxHeartbeats 8000000 in
set_option maxRecDepth 100000 in
theorem km_Tx_mods_108 {N : Nat}    {r : Sh × St × Int} {rec4 : Sh → St → Int → Int → Option (Sh × St × Int)} (krec4 : ∀ {π : Sh} {σ : St} {x2 : Int} {x3 : Int}, Cl π σ → rec4 π σ x2 x3 = some r → ext π r.1 ∧ Cl r.1 r.2.1) {π : Sh} {σ : St} {x2 : Int} {x3 : Int} {s0 : Int} {s1 : Int} {s2 : Int} {s3 : Int} {s4 : Int} {s5 : Int} {s6 : Int} (hC : Cl π σ) (hv_s4 : s4 < nn π) (hv_s5 : s5 < nn π) (hv_s6 : s6 < nn π) (hm : Tx_mods_108 N rec4 π σ x2 x3 s0 s1 s2 s3 s4 s5 s6 = some r) : ext π r.1 ∧ Cl r.1 r.2.1 := by
  have hS := hC.1
  rw [Tx_mods_108] at hm
  obtain ⟨r49, e50, hm⟩ := obd_s hm
  have q51 := (km_Sp_initB hC hv_s4 e50)
  obtain ⟨g52, hm⟩ := grd_s hm
  have q := km_Tx_mods_111  krec4 q51.2 (lt_ext hv_s5 q51.1) (lt_ext hv_s6 q51.1) hm
  exact ⟨q51.1.tr q.1, q.2⟩
set_option maxHeartbeats 8000000 in
set_option maxRecDepth 100000 in
theorem km_Tx_mods_95 {N : Nat}    {r : Sh × St × Int} {rec4 : Sh → St → Int → Int → Option (Sh × St × Int)} (krec4 : ∀ {π : Sh} {σ : St} {x2 : Int} {x3 : Int}, Cl π σ → rec4 π σ x2 x3 = some r → ext π r.1 ∧ Cl r.1 r.2.1) {π : Sh} {σ : St} {x2 : Int} {x3 : Int} {x5 : Int} {x6 : Int} {s0 : Int} {s1 : Int} {s2 : Int} {s3 : Int} {s4 : Int} {s5 : Int} (hC : Cl π σ) (hv_s3 : s3 < nn π) (hv_s4 : s4 < nn π) (hv_s5 : s5 < nn π) (hm : Tx_mods_95 N rec4 π σ x2 x3 x5 x6 s0 s1 s2 s3 s4 s5 = some r) : ext π r.1 ∧ Cl r.1 r.2.1 := by
  have hS := hC.1
  rw [Tx_mods_95] at hm
  obtain ⟨g43, hm⟩ := grd_s hm
  by_cases c44 : x5 = 42
  · have hm := ite_t c44 hm
    exact km_Tx_mods_108 krec4 hC hv_s3 hv_s4 hv_s5 hm
  · have hm := ite_f c44 hm
    exact km_Tx_mods_108 krec4 hC hv_s3 hv_s4 hv_s5 hm
set_option maxHeartbeats 8000000 in
set_option maxRecDepth 100000 in
theorem km_Tx_mods_77 {N : Nat}    {r : Sh × St × Int} {rec4 : Sh → St → Int → Int → Option (Sh × St × Int)} (krec4 : ∀ {π : Sh} {σ : St} {x2 : Int} {x3 : Int}, Cl π σ → rec4 π σ x2 x3 = some r → ext π r.1 ∧ Cl r.1 r.2.1) {π : Sh} {σ : St} {x2 : Int} {x3 : Int} {x4 : Int} {x5 : Int} {x6 : Int} {s0 : Int} {s1 : Int} (hC : Cl π σ) (hv_s0 : s0 < nn π) (hv_s1 : s1 < nn π) (hm : Tx_mods_77 N rec4 π σ x2 x3 x4 x5 x6 s0 s1 = some r) : ext π r.1 ∧ Cl r.1 r.2.1 := by
  have hS := hC.1
  rw [Tx_mods_77] at hm
  obtain ⟨g37, hm⟩ := grd_s hm
  by_cases c38 : x5 = 42
  · have hm := ite_t c38 hm
    exact km_Tx_mods_95 krec4 hC hv_s0 hv_s0 hv_s1 hm
  · have hm := ite_f c38 hm
    exact km_Tx_mods_95 krec4 hC hv_s0 hv_s0 hv_s1 hm
set_option maxHeartbeats 8000000 in
set_option maxRecDepth 100000 in
theorem km_Tx_mods_51 {N : Nat}    {r : Sh × St × Int} {rec4 : Sh → St → Int → Int → Option (Sh × St × Int)} (krec4 : ∀ {π : Sh} {σ : St} {x2 : Int} {x3 : Int}, Cl π σ → rec4 π σ x2 x3 = some r → ext π r.1 ∧ Cl r.1 r.2.1) {π : Sh} {σ : St} {x2 : Int} {x3 : Int} {x4 : Int} {x5 : Int} (hC : Cl π σ)  (hm : Tx_mods_51 N rec4 π σ x2 x3 x4 x5 = some r) : ext π r.1 ∧ Cl r.1 r.2.1 := by
  have hS := hC.1
  rw [Tx_mods_51] at hm
  obtain ⟨σ25, e26, hm⟩ := bnd_s hm
  have hC27 : Cl π σ25 := e26 ▸ (cl_sfI hC (f := 222) rfl _ _)
  obtain ⟨r28, e29, hm⟩ := obd_s hm
  have q30 := (km_Tx_number hC27 e29)
  have hC31 : Cl π r28.1 := q30
  have q := km_Tx_mods_77  krec4 ((cl_nO hC31 (by decide) (by decide) _)) lt_nO (lt_ext (cl_fl hC31 (f := 221) rfl 50) (ext_nO π 10 14)) hm
  exact ⟨(ext_nO π 10 14).tr q.1, q.2⟩
set_option maxHeartbeats 8000000 in
set_option maxRecDepth 100000 in
theorem km_Tx_mods_134 {N : Nat}    {r : Sh × St × Int} {rec4 : Sh → St → Int → Int → Option (Sh × St × Int)} (krec4 : ∀ {π : Sh} {σ : St} {x2 : Int} {x3 : Int}, Cl π σ → rec4 π σ x2 x3 = some r → ext π r.1 ∧ Cl r.1 r.2.1) {π : Sh} {σ : St} {x3 : Int} {s0 : Int} (hC : Cl π σ)  (hm : Tx_mods_134 N rec4 π σ x3 s0 = some r) : ext π r.1 ∧ Cl r.1 r.2.1 := by
  have hS := hC.1
  rw [Tx_mods_134] at hm
  exact km_Tx_mods_203 krec4 hC hm
set_option maxHeartbeats 8000000 in
set_option maxRecDepth 100000 in
theorem km_Tx_mods_187 {N : Nat}    {r : Sh × St × Int} {rec4 : Sh → St → Int → Int → Option (Sh × St × Int)} (krec4 : ∀ {π : Sh} {σ : St} {x2 : Int} {x3 : Int}, Cl π σ → rec4 π σ x2 x3 = some r → ext π r.1 ∧ Cl r.1 r.2.1) {π : Sh} {σ : St} {x3 : Int} {s0 : Int} (hC : Cl π σ)  (hm : Tx_mods_187 N rec4 π σ x3 s0 = some r) : ext π r.1 ∧ Cl r.1 r.2.1 := by
  have hS := hC.1
  rw [Tx_mods_187] at hm
  exact km_Tx_mods_203 krec4 (cl_sfI hC (f := 224) rfl _ _) hm
set_option maxHeartbeats 8000000 in
set_option maxRecDepth 100000 in
theorem km_Tx_mods_184 {N : Nat}    {r : Sh × St × Int} {rec4 : Sh → St → Int → Int → Option (Sh × St × Int)} (krec4 : ∀ {π : Sh} {σ : St} {x2 : Int} {x3 : Int}, Cl π σ → rec4 π σ x2 x3 = some r → ext π r.1 ∧ Cl r.1 r.2.1) {π : Sh} {σ : St} {x3 : Int} {s0 : Int} {s1 : Int} (hC : Cl π σ) (hv_s0 : s0 < nn π) (hv_s1 : s1 < nn π) (hm : Tx_mods_184 N rec4 π σ x3 s0 s1 = some r) : ext π r.1 ∧ Cl r.1 r.2.1 := by
  have hS := hC.1
  rw [Tx_mods_184] at hm
  obtain ⟨r45, e46, hm⟩ := obd_s hm
  have q47 := (km_Df_add hC hv_s1 hv_s0 e46)
  obtain ⟨g48, hm⟩ := grd_s hm
  have q := km_Tx_mods_187  krec4 q47.2  hm
  exact ⟨q47.1.tr q.1, q.2⟩
set_option maxHeartbeats 8000000 in
set_option maxRecDepth 100000 in
theorem km_Tx_mods_180 {N : Nat}    {r : Sh × St × Int} {rec4 : Sh → St → Int → Int → Option (Sh × St × Int)} (krec4 : ∀ {π : Sh} {σ : St} {x2 : Int} {x3 : Int}, Cl π σ → rec4 π σ x2 x3 = some r → ext π r.1 ∧ Cl r.1 r.2.1) {π : Sh} {σ : St} {x2 : Int} {x3 : Int} {s0 : Int} {s1 : Int} (hC : Cl π σ) (hv_s0 : s0 < nn π) (hv_s1 : s1 < nn π) (hm : Tx_mods_180 N rec4 π σ x2 x3 s0 s1 = some r) : ext π r.1 ∧ Cl r.1 r.2.1 := by
  have hS := hC.1
  rw [Tx_mods_180] at hm
  obtain ⟨r39, e40, hm⟩ := obd_s hm
  have q41 := (km_Sp_give hC hv_s0 e40)
  obtain ⟨g42, hm⟩ := grd_s hm
  have q := km_Tx_mods_184  krec4 q41.2.1 q41.2.2 (lt_ext hv_s1 q41.1) hm
  exact ⟨q41.1.tr q.1, q.2⟩
set_option maxHeartbeats 8000000 in
set_option maxRecDepth 100000 in
theorem km_Tx_mods_162 {N : Nat}    {r : Sh × St × Int} {rec4 : Sh → St → Int → Int → Option (Sh × St × Int)} (krec4 : ∀ {π : Sh} {σ : St} {x2 : Int} {x3 : Int}, Cl π σ → rec4 π σ x2 x3 = some r → ext π r.1 ∧ Cl r.1 r.2.1) {π : Sh} {σ : St} {x2 : Int} {x3 : Int} {x4 : Int} {s0 : Int} {s1 : Int} (hC : Cl π σ) (hv_s0 : s0 < nn π) (hv_s1 : s1 < nn π) (hm : Tx_mods_162 N rec4 π σ x2 x3 x4 s0 s1 = some r) : ext π r.1 ∧ Cl r.1 r.2.1 := by
  have hS := hC.1
  rw [Tx_mods_162] at hm
  obtain ⟨r33, e34, hm⟩ := obd_s hm
  have q35 := (km_Sp_initB hC hv_s0 e34)
  obtain ⟨g36, hm⟩ := grd_s hm
  have q := km_Tx_mods_180  krec4 q35.2 (lt_ext hv_s0 q35.1) (lt_ext hv_s1 q35.1) hm
  exact ⟨q35.1.tr q.1, q.2⟩
set_option maxHeartbeats 8000000 in
set_option maxRecDepth 100000 in
theorem km_Tx_mods_4 {N : Nat}    {r : Sh × St × Int}  (n : Nat) : ∀ {π : Sh} {σ : St} {x2 : Int} {x3 : Int}, Cl π σ → Tx_mods_4 N n π σ x2 x3 = some r → ext π r.1 ∧ Cl r.1 r.2.1 := by
  induction n with
  | zero => intro π σ x2 x3 hC  hm; cases (show none = some r from hm)
  | succ n krec4 =>
    intro π σ x2 x3 hC  hm
    have hS := hC.1
    rw [Tx_mods_4] at hm
    obtain ⟨g1, hm⟩ := grd_s hm
    by_cases c2 : x3 < 2000
    · have hm := ite_t c2 hm
      obtain ⟨g3, hm⟩ := grd_s hm
      by_cases c4 : (fl σ 182 1) = 0
      · have hm := ite_t c4 hm
        obtain ⟨r5, e6, hm⟩ := obd_s hm
        have q7 := (km_Tx_skipBlanks hC e6)
        have hC8 : Cl π r5 := q7
        obtain ⟨r9, e10, hm⟩ := obd_s hm
        have q11 := (km_Tx_here hC8 e10)
        have hC12 : Cl π r9.1 := q11
        obtain ⟨g13, hm⟩ := grd_s hm
        by_cases c14 : r9.2 = 42
        · have hm := ite_t c14 hm
          exact km_Tx_mods_51 krec4 hC12 hm
        · have hm := ite_f c14 hm
          by_cases c15 : r9.2 = 47
          · have hm := ite_t c15 hm
            exact km_Tx_mods_51 krec4 hC12 hm
          · have hm := ite_f c15 hm
            by_cases c16 : r9.2 = 40
            · have hm := ite_t c16 hm
              obtain ⟨r22, e23, hm⟩ := obd_s hm
              have q24 := (km_Tx_euclid hC12 e23)
              have q := km_Tx_mods_134  krec4 q24.2  hm
              exact ⟨q24.1.tr q.1, q.2⟩
            · have hm := ite_f c16 hm
              by_cases c17 : r9.2 = 63
              · have hm := ite_t c17 hm
                obtain ⟨σ18, e19, hm⟩ := bnd_s hm
                have hC20 : Cl π σ18 := e19 ▸ (cl_sfI hC12 (f := 222) rfl _ _)
                have q := km_Tx_mods_162  krec4 ((cl_nO hC20 (by decide) (by decide) _)) lt_nO (lt_ext (cl_fl hC12 (f := 221) rfl 50) (ext_nO π 10 14)) hm
                exact ⟨(ext_nO π 10 14).tr q.1, q.2⟩
              · have hm := ite_f c17 hm
                cases hm
                exact ⟨ext.rf _, hC12⟩
      · have hm := ite_f c4 hm
        cases hm
        exact ⟨ext.rf _, hC⟩
    · have hm := ite_f c2 hm
      cases hm
      exact ⟨ext.rf _, hC⟩
set_option maxHeartbeats 8000000 in
set_option maxRecDepth 100000 in
theorem km_Tx_mods {N : Nat}   {π : Sh} {σ : St} {x1 : Int} {r : Sh × St × Int} (hC : Cl π σ)  (hm : Tx_mods N π σ x1 = some r) : ext π r.1 ∧ Cl r.1 r.2.1 := by
  have hS := hC.1
  rw [Tx_mods] at hm
  exact km_Tx_mods_4 N hC hm



set_option maxHeartbeats 8000000 in
set_option maxRecDepth 100000 in
theorem km_Sc_byteAt {N : Nat}   {π : Sh} {σ : St} {x1 : Int} {r : St × Int} (hC : Cl π σ)  (hm : Sc_byteAt N π σ x1 = some r) : Cl π r.1 := by
  have hS := hC.1
  rw [Sc_byteAt] at hm
  obtain ⟨g1, hm⟩ := grd_s hm
  by_cases c2 : x1 < 0
  · have hm := ite_t c2 hm
    cases hm
    exact hC
  · have hm := ite_f c2 hm
    obtain ⟨g3, hm⟩ := grd_s hm
    by_cases c4 : x1 < (fl σ 181 1)
    · have hm := ite_t c4 hm
      obtain ⟨g5, hm⟩ := grd_s hm
      cases hm
      exact hC
    · have hm := ite_f c4 hm
      cases hm
      exact hC
set_option maxHeartbeats 8000000 in
set_option maxRecDepth 100000 in
theorem km_Sp_giveWeighted_123 {N : Nat}    {r : Sh × St}  {π : Sh} {σ : St} {x0 : Int} {x2 : Int} {x3 : Int} (hC : Cl π σ) (hv_x0 : x0 < nn π) (hm : Sp_giveWeighted_123 N π σ x0 x2 x3 = some r) : ext π r.1 ∧ Cl r.1 r.2 := by
  have hS := hC.1
  rw [Sp_giveWeighted_123] at hm
  obtain ⟨g25, hm⟩ := grd_s hm
  obtain ⟨g26, hm⟩ := grd_s hm
  obtain ⟨g27, hm⟩ := grd_s hm
  obtain ⟨g28, hm⟩ := grd_s hm
  obtain ⟨g29, hm⟩ := grd_s hm
  obtain ⟨g30, hm⟩ := grd_s hm
  obtain ⟨g31, hm⟩ := grd_s hm
  cases hm
  exact ⟨ext.rf _, (cl_seI (cl_seI (cl_seI (cl_sfI hC (f := 202) rfl _ _) g26 (by decide) _ _) g28 (by decide) _ _) g30 (by decide) _ _)⟩
set_option maxHeartbeats 8000000 in
set_option maxRecDepth 100000 in
theorem km_Sp_giveWeighted_57 {N : Nat}    {r : Sh × St}  {π : Sh} {σ : St} {x0 : Int} {x2 : Int} {x3 : Int} {s0 : Int} {s1 : Int} (hC : Cl π σ) (hv_x0 : x0 < nn π) (hv_s0 : s0 < nn π) (hv_s1 : s1 < nn π) (hm : Sp_giveWeighted_57 N π σ x0 x2 x3 s0 s1 = some r) : ext π r.1 ∧ Cl r.1 r.2 := by
  have hS := hC.1
  rw [Sp_giveWeighted_57] at hm
  obtain ⟨g73, hm⟩ := grd_s hm
  exact km_Sp_giveWeighted_123 (cl_sfR hC _ _ hv_s0) hv_x0 hm
set_option maxHeartbeats 8000000 in
set_option maxRecDepth 100000 in
theorem km_Sp_giveWeighted_46 {N : Nat}    {r : Sh × St}  {π : Sh} {σ : St} {x0 : Int} {x2 : Int} {x3 : Int} {s0 : Int} {s1 : Int} (hC : Cl π σ) (hv_x0 : x0 < nn π) (hv_s0 : s0 < nn π) (hv_s1 : s1 < nn π) (hm : Sp_giveWeighted_46 N π σ x0 x2 x3 s0 s1 = some r) : ext π r.1 ∧ Cl r.1 r.2 := by
  have hS := hC.1
  rw [Sp_giveWeighted_46] at hm
  obtain ⟨g62, hm⟩ := grd_s hm
  obtain ⟨g63, hm⟩ := grd_s hm
  obtain ⟨g64, hm⟩ := grd_s hm
  obtain ⟨g65, hm⟩ := grd_s hm
  obtain ⟨σ66, e67, hm⟩ := bnd_s hm
  have hC68 : Cl π σ66 := e67 ▸ (cl_sfR hC _ _ hv_s0)
  obtain ⟨g70, hm⟩ := grd_s hm
  obtain ⟨g71, hm⟩ := grd_s hm
  have q := km_Sp_giveWeighted_57   ((cl_nA hC68 (t := 2) (by decide) _)) (lt_ext hv_x0 (ext_nA π 2 (ln π (fl σ 210 x0)))) lt_nA (lt_ext hv_x0 (ext_nA π 2 (ln π (fl σ 210 x0)))) hm
  exact ⟨(ext_nA π 2 (ln π (fl σ 210 x0))).tr q.1, q.2⟩
set_option maxHeartbeats 8000000 in
set_option maxRecDepth 100000 in
theorem km_Sp_giveWeighted_35 {N : Nat}    {r : Sh × St}  {π : Sh} {σ : St} {x0 : Int} {x2 : Int} {x3 : Int} {s0 : Int} {s1 : Int} (hC : Cl π σ) (hv_x0 : x0 < nn π) (hv_s0 : s0 < nn π) (hv_s1 : s1 < nn π) (hm : Sp_giveWeighted_35 N π σ x0 x2 x3 s0 s1 = some r) : ext π r.1 ∧ Cl r.1 r.2 := by
  have hS := hC.1
  rw [Sp_giveWeighted_35] at hm
  obtain ⟨g42, hm⟩ := grd_s hm
  obtain ⟨g43, hm⟩ := grd_s hm
  obtain ⟨g44, hm⟩ := grd_s hm
  obtain ⟨g45, hm⟩ := grd_s hm
  obtain ⟨σ46, e47, hm⟩ := bnd_s hm
  have hC48 : Cl π σ46 := e47 ▸ (cl_sfR hC _ _ hv_s0)
  obtain ⟨g50, hm⟩ := grd_s hm
  obtain ⟨g51, hm⟩ := grd_s hm
  have q := km_Sp_giveWeighted_46   ((cl_nA hC48 (t := 2) (by decide) _)) (lt_ext hv_x0 (ext_nA π 2 (ln π (fl σ 210 x0)))) lt_nA (lt_ext hv_x0 (ext_nA π 2 (ln π (fl σ 210 x0)))) hm
  exact ⟨(ext_nA π 2 (ln π (fl σ 210 x0))).tr q.1, q.2⟩
set_option maxHeartbeats 8000000 in
set_option maxRecDepth 100000 in
theorem km_Sp_giveWeighted_27 {N : Nat}    {r : Sh × St}  {π : Sh} {σ : St} {x0 : Int} {x2 : Int} {x3 : Int} (hC : Cl π σ) (hv_x0 : x0 < nn π) (hm : Sp_giveWeighted_27 N π σ x0 x2 x3 = some r) : ext π r.1 ∧ Cl r.1 r.2 := by
  have hS := hC.1
  rw [Sp_giveWeighted_27] at hm
  obtain ⟨g19, hm⟩ := grd_s hm
  obtain ⟨g20, hm⟩ := grd_s hm
  obtain ⟨g21, hm⟩ := grd_s hm
  obtain ⟨g23, hm⟩ := grd_s hm
  obtain ⟨g24, hm⟩ := grd_s hm
  have q := km_Sp_giveWeighted_35   ((cl_nA hC (t := 2) (by decide) _)) (lt_ext hv_x0 (ext_nA π 2 (ln π (fl σ 210 x0)))) lt_nA (lt_ext hv_x0 (ext_nA π 2 (ln π (fl σ 210 x0)))) hm
  exact ⟨(ext_nA π 2 (ln π (fl σ 210 x0))).tr q.1, q.2⟩
set_option maxHeartbeats 8000000 in
set_option maxRecDepth 100000 in
theorem km_Sp_giveWeighted_120 {N : Nat}    {r : Sh × St}  {π : Sh} {σ : St} {x0 : Int} {x2 : Int} {x3 : Int} {s0 : Int} {s1 : Int} (hC : Cl π σ) (hv_x0 : x0 < nn π) (hv_s0 : s0 < nn π) (hv_s1 : s1 < nn π) (hm : Sp_giveWeighted_120 N π σ x0 x2 x3 s0 s1 = some r) : ext π r.1 ∧ Cl r.1 r.2 := by
  have hS := hC.1
  rw [Sp_giveWeighted_120] at hm
  obtain ⟨g72, hm⟩ := grd_s hm
  exact km_Sp_giveWeighted_123 (cl_sfR hC _ _ hv_s0) hv_x0 hm
set_option maxHeartbeats 8000000 in
set_option maxRecDepth 100000 in
theorem km_Sp_giveWeighted_104 {N : Nat}    {r : Sh × St}  {π : Sh} {σ : St} {x0 : Int} {x2 : Int} {x3 : Int} {s0 : Int} {s1 : Int} (hC : Cl π σ) (hv_x0 : x0 < nn π) (hv_s0 : s0 < nn π) (hv_s1 : s1 < nn π) (hm : Sp_giveWeighted_104 N π σ x0 x2 x3 s0 s1 = some r) : ext π r.1 ∧ Cl r.1 r.2 := by
  have hS := hC.1
  rw [Sp_giveWeighted_104] at hm
  obtain ⟨g52, hm⟩ := grd_s hm
  obtain ⟨g53, hm⟩ := grd_s hm
  obtain ⟨g54, hm⟩ := grd_s hm
  obtain ⟨g55, hm⟩ := grd_s hm
  obtain ⟨σ56, e57, hm⟩ := bnd_s hm
  have hC58 : Cl π σ56 := e57 ▸ (cl_sfR hC _ _ hv_s0)
  obtain ⟨r59, e60, hm⟩ := obd_s hm
  have q61 := (km_A_copy hC58 (cl_fl hC (f := 213) rfl x0) e60)
  have q := km_Sp_giveWeighted_120   q61.2.1 (lt_ext hv_x0 q61.1) q61.2.2 (lt_ext hv_x0 q61.1) hm
  exact ⟨q61.1.tr q.1, q.2⟩
set_option maxHeartbeats 8000000 in
set_option maxRecDepth 100000 in
theorem km_Sp_giveWeighted_88 {N : Nat}    {r : Sh × St}  {π : Sh} {σ : St} {x0 : Int} {x2 : Int} {x3 : Int} {s0 : Int} {s1 : Int} (hC : Cl π σ) (hv_x0 : x0 < nn π) (hv_s0 : s0 < nn π) (hv_s1 : s1 < nn π) (hm : Sp_giveWeighted_88 N π σ x0 x2 x3 s0 s1 = some r) : ext π r.1 ∧ Cl r.1 r.2 := by
  have hS := hC.1
  rw [Sp_giveWeighted_88] at hm
  obtain ⟨g32, hm⟩ := grd_s hm
  obtain ⟨g33, hm⟩ := grd_s hm
  obtain ⟨g34, hm⟩ := grd_s hm
  obtain ⟨g35, hm⟩ := grd_s hm
  obtain ⟨σ36, e37, hm⟩ := bnd_s hm
  have hC38 : Cl π σ36 := e37 ▸ (cl_sfR hC _ _ hv_s0)
  obtain ⟨r39, e40, hm⟩ := obd_s hm
  have q41 := (km_A_copy hC38 (cl_fl hC (f := 212) rfl x0) e40)
  have q := km_Sp_giveWeighted_104   q41.2.1 (lt_ext hv_x0 q41.1) q41.2.2 (lt_ext hv_x0 q41.1) hm
  exact ⟨q41.1.tr q.1, q.2⟩
set_option maxHeartbeats 8000000 in
set_option maxRecDepth 100000 in
theorem km_Sp_giveWeighted_5 {N : Nat}    {r : Sh × St}  {π : Sh} {σ : St} {x0 : Int} {x2 : Int} {x3 : Int} {s0 : Int} (hC : Cl π σ) (hv_x0 : x0 < nn π) (hv_s0 : s0 < nn π) (hm : Sp_giveWeighted_5 N π σ x0 x2 x3 s0 = some r) : ext π r.1 ∧ Cl r.1 r.2 := by
  have hS := hC.1
  rw [Sp_giveWeighted_5] at hm
  obtain ⟨g5, hm⟩ := grd_s hm
  by_cases c6 : (fl σ 211 x0) < 0
  · have hm := ite_t c6 hm
    exact km_Sp_giveWeighted_27 hC hv_x0 hm
  · have hm := ite_f c6 hm
    by_cases c7 : (fl σ 212 x0) < 0
    · have hm := ite_t c7 hm
      exact km_Sp_giveWeighted_27 hC hv_x0 hm
    · have hm := ite_f c7 hm
      by_cases c8 : (fl σ 213 x0) < 0
      · have hm := ite_t c8 hm
        exact km_Sp_giveWeighted_27 hC hv_x0 hm
      · have hm := ite_f c8 hm
        obtain ⟨g9, hm⟩ := grd_s hm
        obtain ⟨g10, hm⟩ := grd_s hm
        obtain ⟨g11, hm⟩ := grd_s hm
        obtain ⟨g12, hm⟩ := grd_s hm
        by_cases c13 : (ln π (fl σ 211 x0)) < (fl σ 209 x0)
        · have hm := ite_t c13 hm
          obtain ⟨g14, hm⟩ := grd_s hm
          obtain ⟨g15, hm⟩ := grd_s hm
          obtain ⟨r16, e17, hm⟩ := obd_s hm
          have q18 := (km_A_copy hC (cl_fl hC (f := 211) rfl x0) e17)
          have q := km_Sp_giveWeighted_88   q18.2.1 (lt_ext hv_x0 q18.1) q18.2.2 (lt_ext hv_x0 q18.1) hm
          exact ⟨q18.1.tr q.1, q.2⟩
        · have hm := ite_f c13 hm
          exact km_Sp_giveWeighted_123 hC hv_x0 hm
set_option maxHeartbeats 8000000 in
set_option maxRecDepth 100000 in
theorem km_Sp_giveWeighted {N : Nat}   {π : Sh} {σ : St} {x0 : Int} {x1 : Int} {x2 : Int} {x3 : Int} {r : Sh × St} (hC : Cl π σ) (hv_x0 : x0 < nn π) (hm : Sp_giveWeighted N π σ x0 x1 x2 x3 = some r) : ext π r.1 ∧ Cl r.1 r.2 := by
  have hS := hC.1
  rw [Sp_giveWeighted] at hm
  obtain ⟨r1, e2, hm⟩ := obd_s hm
  have q3 := (km_Sp_give hC hv_x0 e2)
  obtain ⟨g4, hm⟩ := grd_s hm
  have q := km_Sp_giveWeighted_5   q3.2.1 (lt_ext hv_x0 q3.1) q3.2.2 hm
  exact ⟨q3.1.tr q.1, q.2⟩
set_option maxHeartbeats 8000000 in
set_option maxRecDepth 100000 in
theorem km_Tx_steps_120 {N : Nat} {rPart : Sh → St → Option (Sh × St × Int)} (hmrPart : ∀ {π : Sh} {σ : St}  {r : Sh × St × Int}, Cl π σ → rPart π σ  = some r → ext π r.1 ∧ Cl r.1 r.2.1)  {r : Sh × St} {rec8 : Sh → St → Int → Int → Int → Option (Sh × St)} (krec8 : ∀ {π : Sh} {σ : St} {x1 : Int} {x2 : Int} {x3 : Int}, Cl π σ → x1 < nn π → rec8 π σ x1 x2 x3 = some r → ext π r.1 ∧ Cl r.1 r.2) {π : Sh} {σ : St} {x1 : Int} {x3 : Int} {s0 : Int} (hC : Cl π σ) (hv_x1 : x1 < nn π) (hm : Tx_steps_120 N rPart rec8 π σ x1 x3 s0 = some r) : ext π r.1 ∧ Cl r.1 r.2 := by
  have hS := hC.1
  rw [Tx_steps_120] at hm
  exact krec8 hC hv_x1 hm
set_option maxHeartbeats 8000000 in
set_option maxRecDepth 100000 in
theorem km_Tx_steps_119 {N : Nat} {rPart : Sh → St → Option (Sh × St × Int)} (hmrPart : ∀ {π : Sh} {σ : St}  {r : Sh × St × Int}, Cl π σ → rPart π σ  = some r → ext π r.1 ∧ Cl r.1 r.2.1)  {r : Sh × St} {rec8 : Sh → St → Int → Int → Int → Option (Sh × St)} (krec8 : ∀ {π : Sh} {σ : St} {x1 : Int} {x2 : Int} {x3 : Int}, Cl π σ → x1 < nn π → rec8 π σ x1 x2 x3 = some r → ext π r.1 ∧ Cl r.1 r.2) {π : Sh} {σ : St} {x1 : Int} {x3 : Int} (hC : Cl π σ) (hv_x1 : x1 < nn π) (hm : Tx_steps_119 N rPart rec8 π σ x1 x3 = some r) : ext π r.1 ∧ Cl r.1 r.2 := by
  have hS := hC.1
  rw [Tx_steps_119] at hm
  exact km_Tx_steps_120 hmrPart krec8 hC hv_x1 hm
set_option maxHeartbeats 8000000 in
set_option maxRecDepth 100000 in
theorem km_Tx_steps_73 {N : Nat} {rPart : Sh → St → Option (Sh × St × Int)} (hmrPart : ∀ {π : Sh} {σ : St}  {r : Sh × St × Int}, Cl π σ → rPart π σ  = some r → ext π r.1 ∧ Cl r.1 r.2.1)  {r : Sh × St} {rec8 : Sh → St → Int → Int → Int → Option (Sh × St)} (krec8 : ∀ {π : Sh} {σ : St} {x1 : Int} {x2 : Int} {x3 : Int}, Cl π σ → x1 < nn π → rec8 π σ x1 x2 x3 = some r → ext π r.1 ∧ Cl r.1 r.2) {π : Sh} {σ : St} {x1 : Int} {x3 : Int} (hC : Cl π σ) (hv_x1 : x1 < nn π) (hm : Tx_steps_73 N rPart rec8 π σ x1 x3 = some r) : ext π r.1 ∧ Cl r.1 r.2 := by
  have hS := hC.1
  rw [Tx_steps_73] at hm
  obtain ⟨r29, e30, hm⟩ := obd_s hm
  have q31 := (km_Tx_skipBlanks hC e30)
  have hC32 : Cl π r29 := q31
  obtain ⟨g33, hm⟩ := grd_s hm
  by_cases c34 : (fl r29 182 1) = 0
  · have hm := ite_t c34 hm
    obtain ⟨r35, e36, hm⟩ := obd_s hm
    have q37 := (km_Tx_here hC32 e36)
    have hC38 : Cl π r35.1 := q37
    obtain ⟨r39, e40, hm⟩ := obd_s hm
    obtain ⟨g41, hm⟩ := grd_s hm
    by_cases c42 : r39 = 0
    · have hm := ite_t c42 hm
      exact km_Tx_steps_119 hmrPart krec8 hC38 hv_x1 hm
    · have hm := ite_f c42 hm
      obtain ⟨r43, e44, hm⟩ := obd_s hm
      have q45 := (km_Sc_byteAt hC38 e44)
      have hC46 : Cl π r43.1 := q45
      obtain ⟨g47, hm⟩ := grd_s hm
      by_cases c48 : r43.2 = 32
      · have hm := ite_t c48 hm
        exact km_Tx_steps_120 hmrPart krec8 hC46 hv_x1 hm
      · have hm := ite_f c48 hm
        exact km_Tx_steps_119 hmrPart krec8 hC46 hv_x1 hm
  · have hm := ite_f c34 hm
    exact km_Tx_steps_119 hmrPart krec8 hC32 hv_x1 hm
set_option maxHeartbeats 8000000 in
set_option maxRecDepth 100000 in
theorem km_Tx_steps_45 {N : Nat} {rPart : Sh → St → Option (Sh × St × Int)} (hmrPart : ∀ {π : Sh} {σ : St}  {r : Sh × St × Int}, Cl π σ → rPart π σ  = some r → ext π r.1 ∧ Cl r.1 r.2.1)  {r : Sh × St} {rec8 : Sh → St → Int → Int → Int → Option (Sh × St)} (krec8 : ∀ {π : Sh} {σ : St} {x1 : Int} {x2 : Int} {x3 : Int}, Cl π σ → x1 < nn π → rec8 π σ x1 x2 x3 = some r → ext π r.1 ∧ Cl r.1 r.2) {π : Sh} {σ : St} {x1 : Int} {x3 : Int} {s0 : Int} (hC : Cl π σ) (hv_x1 : x1 < nn π) (hm : Tx_steps_45 N rPart rec8 π σ x1 x3 s0 = some r) : ext π r.1 ∧ Cl r.1 r.2 := by
  have hS := hC.1
  rw [Tx_steps_45] at hm
  obtain ⟨r17, e18, hm⟩ := obd_s hm
  have q19 := (km_Tx_behindSign hC e18)
  have hC20 : Cl π r17.1 := q19
  obtain ⟨r21, e22, hm⟩ := obd_s hm
  have q23 := (km_Tx_behindSign hC20 e22)
  have hC24 : Cl π r21.1 := q23
  obtain ⟨r25, e26, hm⟩ := obd_s hm
  have q27 := (km_Sp_giveWeighted hC24 hv_x1 e26)
  obtain ⟨g28, hm⟩ := grd_s hm
  have q := km_Tx_steps_73 hmrPart krec8 q27.2 (lt_ext hv_x1 q27.1) hm
  exact ⟨q27.1.tr q.1, q.2⟩
set_option maxHeartbeats 8000000 in
set_option maxRecDepth 100000 in
theorem km_Tx_steps_41 {N : Nat} {rPart : Sh → St → Option (Sh × St × Int)} (hmrPart : ∀ {π : Sh} {σ : St}  {r : Sh × St × Int}, Cl π σ → rPart π σ  = some r → ext π r.1 ∧ Cl r.1 r.2.1)  {r : Sh × St} {rec8 : Sh → St → Int → Int → Int → Option (Sh × St)} (krec8 : ∀ {π : Sh} {σ : St} {x1 : Int} {x2 : Int} {x3 : Int}, Cl π σ → x1 < nn π → rec8 π σ x1 x2 x3 = some r → ext π r.1 ∧ Cl r.1 r.2) {π : Sh} {σ : St} {x1 : Int} {x3 : Int} {s0 : Int} (hC : Cl π σ) (hv_x1 : x1 < nn π) (hm : Tx_steps_41 N rPart rec8 π σ x1 x3 s0 = some r) : ext π r.1 ∧ Cl r.1 r.2 := by
  have hS := hC.1
  rw [Tx_steps_41] at hm
  exact km_Tx_steps_45 hmrPart krec8 hC hv_x1 hm
set_option maxHeartbeats 8000000 in
set_option maxRecDepth 100000 in
theorem km_Tx_steps_23 {N : Nat} {rPart : Sh → St → Option (Sh × St × Int)} (hmrPart : ∀ {π : Sh} {σ : St}  {r : Sh × St × Int}, Cl π σ → rPart π σ  = some r → ext π r.1 ∧ Cl r.1 r.2.1)  {r : Sh × St} {rec8 : Sh → St → Int → Int → Int → Option (Sh × St)} (krec8 : ∀ {π : Sh} {σ : St} {x1 : Int} {x2 : Int} {x3 : Int}, Cl π σ → x1 < nn π → rec8 π σ x1 x2 x3 = some r → ext π r.1 ∧ Cl r.1 r.2) {π : Sh} {σ : St} {x1 : Int} {x3 : Int} {s0 : Int} (hC : Cl π σ) (hv_x1 : x1 < nn π) (hm : Tx_steps_23 N rPart rec8 π σ x1 x3 s0 = some r) : ext π r.1 ∧ Cl r.1 r.2 := by
  have hS := hC.1
  rw [Tx_steps_23] at hm
  obtain ⟨g12, hm⟩ := grd_s hm
  by_cases c13 : (fl σ 182 1) = 0
  · have hm := ite_t c13 hm
    obtain ⟨r14, e15, hm⟩ := obd_s hm
    have q16 := (km_Tx_mods hC e15)
    have q := km_Tx_steps_41 hmrPart krec8 q16.2 (lt_ext hv_x1 q16.1) hm
    exact ⟨q16.1.tr q.1, q.2⟩
  · have hm := ite_f c13 hm
    exact km_Tx_steps_45 hmrPart krec8 hC hv_x1 hm
set_option maxHeartbeats 8000000 in
set_option maxRecDepth 100000 in
theorem km_Tx_steps_8 {N : Nat} {rPart : Sh → St → Option (Sh × St × Int)} (hmrPart : ∀ {π : Sh} {σ : St}  {r : Sh × St × Int}, Cl π σ → rPart π σ  = some r → ext π r.1 ∧ Cl r.1 r.2.1)  {r : Sh × St}  (n : Nat) : ∀ {π : Sh} {σ : St} {x1 : Int} {x2 : Int} {x3 : Int}, Cl π σ → x1 < nn π → Tx_steps_8 N rPart n π σ x1 x2 x3 = some r → ext π r.1 ∧ Cl r.1 r.2 := by
  induction n with
  | zero => intro π σ x1 x2 x3 hC hv_x1 hm; cases (show none = some r from hm)
  | succ n krec8 =>
    intro π σ x1 x2 x3 hC hv_x1 hm
    have hS := hC.1
    rw [Tx_steps_8] at hm
    obtain ⟨g5, hm⟩ := grd_s hm
    by_cases c6 : x3 < 2000
    · have hm := ite_t c6 hm
      obtain ⟨g7, hm⟩ := grd_s hm
      by_cases c8 : x2 = 0
      · have hm := ite_t c8 hm
        cases hm
        exact ⟨ext.rf _, hC⟩
      · have hm := ite_f c8 hm
        obtain ⟨r9, e10, hm⟩ := obd_s hm
        have q11 := (hmrPart hC e10)
        have q := km_Tx_steps_23 hmrPart krec8 q11.2 (lt_ext hv_x1 q11.1) hm
        exact ⟨q11.1.tr q.1, q.2⟩
    · have hm := ite_f c6 hm
      cases hm
      exact ⟨ext.rf _, hC⟩
set_option maxHeartbeats 8000000 in
set_option maxRecDepth 100000 in
theorem km_Tx_steps {N : Nat} {rPart : Sh → St → Option (Sh × St × Int)} (hmrPart : ∀ {π : Sh} {σ : St}  {r : Sh × St × Int}, Cl π σ → rPart π σ  = some r → ext π r.1 ∧ Cl r.1 r.2.1) {π : Sh} {σ : St} {x1 : Int} {r : Sh × St} (hC : Cl π σ) (hv_x1 : x1 < nn π) (hm : Tx_steps N rPart π σ x1 = some r) : ext π r.1 ∧ Cl r.1 r.2 := by
  have hS := hC.1
  rw [Tx_steps] at hm
  obtain ⟨r1, e2, hm⟩ := obd_s hm
  have q3 := (km_Tx_skipBlanks hC e2)
  have hC4 : Cl π r1 := q3
  exact km_Tx_steps_8 hmrPart N hC4 hv_x1 hm
set_option maxHeartbeats 8000000 in
set_option maxRecDepth 100000 in
theorem km_Tx_seq_40 {N : Nat} {rPart : Sh → St → Option (Sh × St × Int)} (hmrPart : ∀ {π : Sh} {σ : St}  {r : Sh × St × Int}, Cl π σ → rPart π σ  = some r → ext π r.1 ∧ Cl r.1 r.2.1)  {r : Sh × St × Int}  {π : Sh} {σ : St} {s0 : Int} (hC : Cl π σ)  (hm : Tx_seq_40 N rPart π σ s0 = some r) : ext π r.1 ∧ Cl r.1 r.2.1 := by
  have hS := hC.1
  rw [Tx_seq_40] at hm
  cases hm
  exact ⟨ext.rf _, hC⟩
set_option maxHeartbeats 8000000 in
set_option maxRecDepth 100000 in
theorem km_Tx_seq_22 {N : Nat} {rPart : Sh → St → Option (Sh × St × Int)} (hmrPart : ∀ {π : Sh} {σ : St}  {r : Sh × St × Int}, Cl π σ → rPart π σ  = some r → ext π r.1 ∧ Cl r.1 r.2.1)  {r : Sh × St × Int}  {π : Sh} {σ : St} {x1 : Int} (hC : Cl π σ) (hv_x1 : x1 < nn π) (hm : Tx_seq_22 N rPart π σ x1 = some r) : ext π r.1 ∧ Cl r.1 r.2.1 := by
  have hS := hC.1
  rw [Tx_seq_22] at hm
  obtain ⟨g13, hm⟩ := grd_s hm
  by_cases c14 : (fl σ 182 1) = 0
  · have hm := ite_t c14 hm
    obtain ⟨r15, e16, hm⟩ := obd_s hm
    have q17 := (km_Df_add hC (cl_fl hC (f := 221) rfl 50) hv_x1 e16)
    obtain ⟨g18, hm⟩ := grd_s hm
    have q := km_Tx_seq_40 hmrPart  q17.2  hm
    exact ⟨q17.1.tr q.1, q.2⟩
  · have hm := ite_f c14 hm
    cases hm
    exact ⟨ext.rf _, hC⟩
set_option maxHeartbeats 8000000 in
set_option maxRecDepth 100000 in
theorem km_Tx_seq_16 {N : Nat} {rPart : Sh → St → Option (Sh × St × Int)} (hmrPart : ∀ {π : Sh} {σ : St}  {r : Sh × St × Int}, Cl π σ → rPart π σ  = some r → ext π r.1 ∧ Cl r.1 r.2.1)  {r : Sh × St × Int}  {π : Sh} {σ : St} {s0 : Int} (hC : Cl π σ) (hv_s0 : s0 < nn π) (hm : Tx_seq_16 N rPart π σ s0 = some r) : ext π r.1 ∧ Cl r.1 r.2.1 := by
  have hS := hC.1
  rw [Tx_seq_16] at hm
  obtain ⟨r10, e11, hm⟩ := obd_s hm
  have q12 := (km_Tx_steps hmrPart hC hv_s0 e11)
  have q := km_Tx_seq_22 hmrPart  q12.2 (lt_ext hv_s0 q12.1) hm
  exact ⟨q12.1.tr q.1, q.2⟩
set_option maxHeartbeats 8000000 in
set_option maxRecDepth 100000 in
theorem km_Tx_seq_7 {N : Nat} {rPart : Sh → St → Option (Sh × St × Int)} (hmrPart : ∀ {π : Sh} {σ : St}  {r : Sh × St × Int}, Cl π σ → rPart π σ  = some r → ext π r.1 ∧ Cl r.1 r.2.1)  {r : Sh × St × Int}  {π : Sh} {σ : St} {s0 : Int} (hC : Cl π σ) (hv_s0 : s0 < nn π) (hm : Tx_seq_7 N rPart π σ s0 = some r) : ext π r.1 ∧ Cl r.1 r.2.1 := by
  have hS := hC.1
  rw [Tx_seq_7] at hm
  obtain ⟨r6, e7, hm⟩ := obd_s hm
  have q8 := (km_Sp_init hC hv_s0 e7)
  obtain ⟨g9, hm⟩ := grd_s hm
  have q := km_Tx_seq_16 hmrPart  q8.2 (lt_ext hv_s0 q8.1) hm
  exact ⟨q8.1.tr q.1, q.2⟩
set_option maxHeartbeats 8000000 in
set_option maxRecDepth 100000 in
theorem km_Tx_seq {N : Nat} {rPart : Sh → St → Option (Sh × St × Int)} (hmrPart : ∀ {π : Sh} {σ : St}  {r : Sh × St × Int}, Cl π σ → rPart π σ  = some r → ext π r.1 ∧ Cl r.1 r.2.1) {π : Sh} {σ : St}  {r : Sh × St × Int} (hC : Cl π σ)  (hm : Tx_seq N rPart π σ  = some r) : ext π r.1 ∧ Cl r.1 r.2.1 := by
  have hS := hC.1
  rw [Tx_seq] at hm
  obtain ⟨r1, e2, hm⟩ := obd_s hm
  have q3 := (km_Tx_skipBlanks hC e2)
  have hC4 : Cl π r1 := q3
  have q := km_Tx_seq_7 hmrPart  ((cl_nO hC4 (by decide) (by decide) _)) lt_nO hm
  exact ⟨(ext_nO π 10 14).tr q.1, q.2⟩
set_option maxHeartbeats 8000000 in
set_option maxRecDepth 100000 in
theorem km_Tx_bracket_72 {N : Nat} {rPart : Sh → St → Option (Sh × St × Int)} (hmrPart : ∀ {π : Sh} {σ : St}  {r : Sh × St × Int}, Cl π σ → rPart π σ  = some r → ext π r.1 ∧ Cl r.1 r.2.1)  {r : Sh × St × Int} {rec18 : Sh → St → Int → Int → Int → Option (Sh × St × Int)} (krec18 : ∀ {π : Sh} {σ : St} {x1 : Int} {x2 : Int} {x3 : Int}, Cl π σ → x1 < nn π → rec18 π σ x1 x2 x3 = some r → ext π r.1 ∧ Cl r.1 r.2.1) {π : Sh} {σ : St} {x1 : Int} {x3 : Int} {s0 : Int} (hC : Cl π σ) (hv_x1 : x1 < nn π) (hm : Tx_bracket_72 N rPart rec18 π σ x1 x3 s0 = some r) : ext π r.1 ∧ Cl r.1 r.2.1 := by
  have hS := hC.1
  rw [Tx_bracket_72] at hm
  exact krec18 hC hv_x1 hm
set_option maxHeartbeats 8000000 in
set_option maxRecDepth 100000 in
theorem km_Tx_bracket_57 {N : Nat} {rPart : Sh → St → Option (Sh × St × Int)} (hmrPart : ∀ {π : Sh} {σ : St}  {r : Sh × St × Int}, Cl π σ → rPart π σ  = some r → ext π r.1 ∧ Cl r.1 r.2.1)  {r : Sh × St × Int} {rec18 : Sh → St → Int → Int → Int → Option (Sh × St × Int)} (krec18 : ∀ {π : Sh} {σ : St} {x1 : Int} {x2 : Int} {x3 : Int}, Cl π σ → x1 < nn π → rec18 π σ x1 x2 x3 = some r → ext π r.1 ∧ Cl r.1 r.2.1) {π : Sh} {σ : St} {x1 : Int} {x3 : Int} {s0 : Int} (hC : Cl π σ) (hv_x1 : x1 < nn π) (hv_s0 : s0 < nn π) (hm : Tx_bracket_57 N rPart rec18 π σ x1 x3 s0 = some r) : ext π r.1 ∧ Cl r.1 r.2.1 := by
  have hS := hC.1
  rw [Tx_bracket_57] at hm
  obtain ⟨r40, e41, hm⟩ := obd_s hm
  have q42 := (km_Tx_here hC e41)
  have hC43 : Cl π r40.1 := q42
  obtain ⟨g44, hm⟩ := grd_s hm
  by_cases c45 : r40.2 = 44
  · have hm := ite_t c45 hm
    exact km_Tx_bracket_72 hmrPart krec18 hC43 hv_x1 hm
  · have hm := ite_f c45 hm
    exact km_Tx_bracket_72 hmrPart krec18 hC43 hv_x1 hm
set_option maxHeartbeats 8000000 in
set_option maxRecDepth 100000 in
theorem km_Tx_bracket_54 {N : Nat} {rPart : Sh → St → Option (Sh × St × Int)} (hmrPart : ∀ {π : Sh} {σ : St}  {r : Sh × St × Int}, Cl π σ → rPart π σ  = some r → ext π r.1 ∧ Cl r.1 r.2.1)  {r : Sh × St × Int} {rec18 : Sh → St → Int → Int → Int → Option (Sh × St × Int)} (krec18 : ∀ {π : Sh} {σ : St} {x1 : Int} {x2 : Int} {x3 : Int}, Cl π σ → x1 < nn π → rec18 π σ x1 x2 x3 = some r → ext π r.1 ∧ Cl r.1 r.2.1) {π : Sh} {σ : St} {x1 : Int} {x3 : Int} {s0 : Int} {s1 : Int} (hC : Cl π σ) (hv_x1 : x1 < nn π) (hv_s1 : s1 < nn π) (hm : Tx_bracket_54 N rPart rec18 π σ x1 x3 s0 s1 = some r) : ext π r.1 ∧ Cl r.1 r.2.1 := by
  have hS := hC.1
  rw [Tx_bracket_54] at hm
  obtain ⟨r36, e37, hm⟩ := obd_s hm
  have q38 := (km_Sp_give hC hv_s1 e37)
  obtain ⟨g39, hm⟩ := grd_s hm
  have q := km_Tx_bracket_57 hmrPart krec18 q38.2.1 (lt_ext hv_x1 q38.1) q38.2.2 hm
  exact ⟨q38.1.tr q.1, q.2⟩
set_option maxHeartbeats 8000000 in
set_option maxRecDepth 100000 in
theorem km_Tx_bracket_135 {N : Nat} {rPart : Sh → St → Option (Sh × St × Int)} (hmrPart : ∀ {π : Sh} {σ : St}  {r : Sh × St × Int}, Cl π σ → rPart π σ  = some r → ext π r.1 ∧ Cl r.1 r.2.1)  {r : Sh × St × Int}  {π : Sh} {σ : St} {s0 : Int} (hC : Cl π σ)  (hm : Tx_bracket_135 N rPart π σ s0 = some r) : ext π r.1 ∧ Cl r.1 r.2.1 := by
  have hS := hC.1
  rw [Tx_bracket_135] at hm
  cases hm
  exact ⟨ext.rf _, hC⟩
set_option maxHeartbeats 8000000 in
set_option maxRecDepth 100000 in
theorem km_Tx_bracket_79 {N : Nat} {rPart : Sh → St → Option (Sh × St × Int)} (hmrPart : ∀ {π : Sh} {σ : St}  {r : Sh × St × Int}, Cl π σ → rPart π σ  = some r → ext π r.1 ∧ Cl r.1 r.2.1)  {r : Sh × St × Int}  {π : Sh} {σ : St} {x1 : Int} (hC : Cl π σ) (hv_x1 : x1 < nn π) (hm : Tx_bracket_79 N rPart π σ x1 = some r) : ext π r.1 ∧ Cl r.1 r.2.1 := by
  have hS := hC.1
  rw [Tx_bracket_79] at hm
  obtain ⟨r18, e19, hm⟩ := obd_s hm
  have q20 := (km_Tx_take hC e19)
  have hC21 : Cl π r18 := q20
  obtain ⟨g22, hm⟩ := grd_s hm
  by_cases c23 : (fl r18 182 1) = 0
  · have hm := ite_t c23 hm
    obtain ⟨g24, hm⟩ := grd_s hm
    obtain ⟨g25, hm⟩ := grd_s hm
    by_cases c26 : (fl r18 209 x1) = 1
    · have hm := ite_t c26 hm
      obtain ⟨g34, hm⟩ := grd_s hm
      obtain ⟨g35, hm⟩ := grd_s hm
      exact km_Tx_bracket_135 hmrPart (cl_sfI hC21 (f := 184) rfl _ _) hm
    · have hm := ite_f c26 hm
      obtain ⟨σ27, e28, hm⟩ := bnd_s hm
      have hC29 : Cl π σ27 := e28 ▸ (cl_sfI hC21 (f := 184) rfl _ _)
      obtain ⟨r30, e31, hm⟩ := obd_s hm
      have q32 := (km_Df_add hC29 (cl_fl hC21 (f := 221) rfl 50) hv_x1 e31)
      obtain ⟨g33, hm⟩ := grd_s hm
      have q := km_Tx_bracket_135 hmrPart  q32.2  hm
      exact ⟨q32.1.tr q.1, q.2⟩
  · have hm := ite_f c23 hm
    cases hm
    exact ⟨ext.rf _, (cl_sfI hC21 (f := 184) rfl _ _)⟩
set_option maxHeartbeats 8000000 in
set_option maxRecDepth 100000 in
theorem km_Tx_bracket_18 {N : Nat} {rPart : Sh → St → Option (Sh × St × Int)} (hmrPart : ∀ {π : Sh} {σ : St}  {r : Sh × St × Int}, Cl π σ → rPart π σ  = some r → ext π r.1 ∧ Cl r.1 r.2.1)  {r : Sh × St × Int}  (n : Nat) : ∀ {π : Sh} {σ : St} {x1 : Int} {x2 : Int} {x3 : Int}, Cl π σ → x1 < nn π → Tx_bracket_18 N rPart n π σ x1 x2 x3 = some r → ext π r.1 ∧ Cl r.1 r.2.1 := by
  induction n with
  | zero => intro π σ x1 x2 x3 hC hv_x1 hm; cases (show none = some r from hm)
  | succ n krec18 =>
    intro π σ x1 x2 x3 hC hv_x1 hm
    have hS := hC.1
    rw [Tx_bracket_18] at hm
    obtain ⟨g6, hm⟩ := grd_s hm
    by_cases c7 : x3 < 2000
    · have hm := ite_t c7 hm
      obtain ⟨g8, hm⟩ := grd_s hm
      by_cases c9 : x2 = 0
      · have hm := ite_t c9 hm
        exact km_Tx_bracket_79 hmrPart hC hv_x1 hm
      · have hm := ite_f c9 hm
        obtain ⟨g10, hm⟩ := grd_s hm
        by_cases c11 : (fl σ 182 1) = 0
        · have hm := ite_t c11 hm
          obtain ⟨σ12, e13, hm⟩ := bnd_s hm
          have hC14 : Cl π σ12 := e13 ▸ (cl_sfI hC (f := 222) rfl _ _)
          obtain ⟨r15, e16, hm⟩ := obd_s hm
          have q17 := (km_Tx_seq hmrPart hC14 e16)
          have q := km_Tx_bracket_54 hmrPart krec18 q17.2 (lt_ext hv_x1 q17.1) (lt_ext hv_x1 q17.1) hm
          exact ⟨q17.1.tr q.1, q.2⟩
        · have hm := ite_f c11 hm
          exact km_Tx_bracket_79 hmrPart hC hv_x1 hm
    · have hm := ite_f c7 hm
      exact km_Tx_bracket_79 hmrPart hC hv_x1 hm
set_option maxHeartbeats 8000000 in
set_option maxRecDepth 100000 in
theorem km_Tx_bracket_13 {N : Nat} {rPart : Sh → St → Option (Sh × St × Int)} (hmrPart : ∀ {π : Sh} {σ : St}  {r : Sh × St × Int}, Cl π σ → rPart π σ  = some r → ext π r.1 ∧ Cl r.1 r.2.1)  {r : Sh × St × Int}  {π : Sh} {σ : St} {s0 : Int} (hC : Cl π σ) (hv_s0 : s0 < nn π) (hm : Tx_bracket_13 N rPart π σ s0 = some r) : ext π r.1 ∧ Cl r.1 r.2.1 := by
  have hS := hC.1
  rw [Tx_bracket_13] at hm
  exact km_Tx_bracket_18 hmrPart N hC hv_s0 hm
set_option maxHeartbeats 8000000 in
set_option maxRecDepth 100000 in
theorem km_Tx_bracket_3 {N : Nat} {rPart : Sh → St → Option (Sh × St × Int)} (hmrPart : ∀ {π : Sh} {σ : St}  {r : Sh × St × Int}, Cl π σ → rPart π σ  = some r → ext π r.1 ∧ Cl r.1 r.2.1)  {r : Sh × St × Int}  {π : Sh} {σ : St} {s0 : Int} (hC : Cl π σ) (hv_s0 : s0 < nn π) (hm : Tx_bracket_3 N rPart π σ s0 = some r) : ext π r.1 ∧ Cl r.1 r.2.1 := by
  have hS := hC.1
  rw [Tx_bracket_3] at hm
  obtain ⟨r2, e3, hm⟩ := obd_s hm
  have q4 := (km_Sp_init hC hv_s0 e3)
  obtain ⟨g5, hm⟩ := grd_s hm
  have q := km_Tx_bracket_13 hmrPart  q4.2 (lt_ext hv_s0 q4.1) hm
  exact ⟨q4.1.tr q.1, q.2⟩
set_option maxHeartbeats 8000000 in
set_option maxRecDepth 100000 in
theorem km_Tx_bracket {N : Nat} {rPart : Sh → St → Option (Sh × St × Int)} (hmrPart : ∀ {π : Sh} {σ : St}  {r : Sh × St × Int}, Cl π σ → rPart π σ  = some r → ext π r.1 ∧ Cl r.1 r.2.1) {π : Sh} {σ : St}  {r : Sh × St × Int} (hC : Cl π σ)  (hm : Tx_bracket N rPart π σ  = some r) : ext π r.1 ∧ Cl r.1 r.2.1 := by
  have hS := hC.1
  rw [Tx_bracket] at hm
  have q := km_Tx_bracket_3 hmrPart  ((cl_nO hC (by decide) (by decide) _)) lt_nO hm
  exact ⟨(ext_nO π 10 14).tr q.1, q.2⟩
set_option maxHeartbeats 8000000 in
set_option maxRecDepth 100000 in
theorem km_Tx_poly_97 {N : Nat} {rPart : Sh → St → Option (Sh × St × Int)} (hmrPart : ∀ {π : Sh} {σ : St}  {r : Sh × St × Int}, Cl π σ → rPart π σ  = some r → ext π r.1 ∧ Cl r.1 r.2.1)  {r : Sh × St × Int}  {π : Sh} {σ : St} {s0 : Int} (hC : Cl π σ)  (hm : Tx_poly_97 N rPart π σ s0 = some r) : ext π r.1 ∧ Cl r.1 r.2.1 := by
  have hS := hC.1
  rw [Tx_poly_97] at hm
  cases hm
  exact ⟨ext.rf _, hC⟩
set_option maxHeartbeats 8000000 in
set_option maxRecDepth 100000 in
theorem km_Tx_poly_76 {N : Nat} {rPart : Sh → St → Option (Sh × St × Int)} (hmrPart : ∀ {π : Sh} {σ : St}  {r : Sh × St × Int}, Cl π σ → rPart π σ  = some r → ext π r.1 ∧ Cl r.1 r.2.1)  {r : Sh × St × Int}  {π : Sh} {σ : St} {x1 : Int} {s0 : Int} {s1 : Int} (hC : Cl π σ) (hv_x1 : x1 < nn π) (hv_s1 : s1 < nn π) (hm : Tx_poly_76 N rPart π σ x1 s0 s1 = some r) : ext π r.1 ∧ Cl r.1 r.2.1 := by
  have hS := hC.1
  rw [Tx_poly_76] at hm
  obtain ⟨g29, hm⟩ := grd_s hm
  obtain ⟨g30, hm⟩ := grd_s hm
  by_cases c31 : (fl σ 182 1) = 0
  · have hm := ite_t c31 hm
    obtain ⟨σ32, e33, hm⟩ := bnd_s hm
    have hC34 : Cl π σ32 := e33 ▸ (cl_sfI hC (f := 203) rfl _ _)
    obtain ⟨r35, e36, hm⟩ := obd_s hm
    have q37 := (km_Df_add hC34 (cl_fl hC (f := 221) rfl 50) hv_x1 e36)
    obtain ⟨g38, hm⟩ := grd_s hm
    have q := km_Tx_poly_97 hmrPart  q37.2  hm
    exact ⟨q37.1.tr q.1, q.2⟩
  · have hm := ite_f c31 hm
    cases hm
    exact ⟨ext.rf _, (cl_sfI hC (f := 203) rfl _ _)⟩
set_option maxHeartbeats 8000000 in
set_option maxRecDepth 100000 in
theorem km_Tx_poly_29 {N : Nat} {rPart : Sh → St → Option (Sh × St × Int)} (hmrPart : ∀ {π : Sh} {σ : St}  {r : Sh × St × Int}, Cl π σ → rPart π σ  = some r → ext π r.1 ∧ Cl r.1 r.2.1)  {r : Sh × St × Int}  {π : Sh} {σ : St} {x1 : Int} (hC : Cl π σ) (hv_x1 : x1 < nn π) (hm : Tx_poly_29 N rPart π σ x1 = some r) : ext π r.1 ∧ Cl r.1 r.2.1 := by
  have hS := hC.1
  rw [Tx_poly_29] at hm
  obtain ⟨r12, e13, hm⟩ := obd_s hm
  have q14 := (km_Tx_take hC e13)
  have hC15 : Cl π r12 := q14
  obtain ⟨σ16, e17, hm⟩ := bnd_s hm
  have hC18 : Cl π σ16 := e17 ▸ (cl_sfI hC15 (f := 184) rfl _ _)
  obtain ⟨r19, e20, hm⟩ := obd_s hm
  have q21 := (km_Tx_take hC18 e20)
  have hC22 : Cl π r19 := q21
  obtain ⟨g23, hm⟩ := grd_s hm
  by_cases c24 : (fl r19 182 1) = 0
  · have hm := ite_t c24 hm
    obtain ⟨r25, e26, hm⟩ := obd_s hm
    have q27 := (km_Tx_number hC22 e26)
    have hC28 : Cl π r25.1 := q27
    exact km_Tx_poly_76 hmrPart hC28 hv_x1 hv_x1 hm
  · have hm := ite_f c24 hm
    exact km_Tx_poly_76 hmrPart hC22 hv_x1 hv_x1 hm
set_option maxHeartbeats 8000000 in
set_option maxRecDepth 100000 in
theorem km_Tx_poly_13 {N : Nat} {rPart : Sh → St → Option (Sh × St × Int)} (hmrPart : ∀ {π : Sh} {σ : St}  {r : Sh × St × Int}, Cl π σ → rPart π σ  = some r → ext π r.1 ∧ Cl r.1 r.2.1)  {r : Sh × St × Int}  {π : Sh} {σ : St} {s0 : Int} (hC : Cl π σ) (hv_s0 : s0 < nn π) (hm : Tx_poly_13 N rPart π σ s0 = some r) : ext π r.1 ∧ Cl r.1 r.2.1 := by
  have hS := hC.1
  rw [Tx_poly_13] at hm
  obtain ⟨σ6, e7, hm⟩ := bnd_s hm
  have hC8 : Cl π σ6 := e7 ▸ (cl_sfI hC (f := 222) rfl _ _)
  obtain ⟨r9, e10, hm⟩ := obd_s hm
  have q11 := (km_Tx_steps hmrPart hC8 hv_s0 e10)
  have q := km_Tx_poly_29 hmrPart  q11.2 (lt_ext hv_s0 q11.1) hm
  exact ⟨q11.1.tr q.1, q.2⟩
set_option maxHeartbeats 8000000 in
set_option maxRecDepth 100000 in
theorem km_Tx_poly_3 {N : Nat} {rPart : Sh → St → Option (Sh × St × Int)} (hmrPart : ∀ {π : Sh} {σ : St}  {r : Sh × St × Int}, Cl π σ → rPart π σ  = some r → ext π r.1 ∧ Cl r.1 r.2.1)  {r : Sh × St × Int}  {π : Sh} {σ : St} {s0 : Int} (hC : Cl π σ) (hv_s0 : s0 < nn π) (hm : Tx_poly_3 N rPart π σ s0 = some r) : ext π r.1 ∧ Cl r.1 r.2.1 := by
  have hS := hC.1
  rw [Tx_poly_3] at hm
  obtain ⟨r2, e3, hm⟩ := obd_s hm
  have q4 := (km_Sp_init hC hv_s0 e3)
  obtain ⟨g5, hm⟩ := grd_s hm
  have q := km_Tx_poly_13 hmrPart  q4.2 (lt_ext hv_s0 q4.1) hm
  exact ⟨q4.1.tr q.1, q.2⟩
set_option maxHeartbeats 8000000 in
set_option maxRecDepth 100000 in
theorem km_Tx_poly {N : Nat} {rPart : Sh → St → Option (Sh × St × Int)} (hmrPart : ∀ {π : Sh} {σ : St}  {r : Sh × St × Int}, Cl π σ → rPart π σ  = some r → ext π r.1 ∧ Cl r.1 r.2.1) {π : Sh} {σ : St}  {r : Sh × St × Int} (hC : Cl π σ)  (hm : Tx_poly N rPart π σ  = some r) : ext π r.1 ∧ Cl r.1 r.2.1 := by
  have hS := hC.1
  rw [Tx_poly] at hm
  have q := km_Tx_poly_3 hmrPart  ((cl_nO hC (by decide) (by decide) _)) lt_nO hm
  exact ⟨(ext_nO π 10 14).tr q.1, q.2⟩
