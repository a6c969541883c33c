set_option maxHeartbeats 8000000 in
set_option maxRecDepth 100000 in
theorem km_Cs_solo {N : Nat}   {π : Sh} {σ : St} {x1 : Int} {x2 : Int} {r : St × Int} (hC : Cl π σ)  (hm : Cs_solo N π σ x1 x2 = some r) : Cl π r.1 := by
  have hS := hC.1
  rw [Cs_solo] at hm
  obtain ⟨r1, e2, hm⟩ := obd_s hm
  obtain ⟨g3, hm⟩ := grd_s hm
  by_cases c4 : r1 = 0
  · have hm := ite_t c4 hm
    cases hm
    exact hC
  · have hm := ite_f c4 hm
    obtain ⟨g5, hm⟩ := grd_s hm
    obtain ⟨v6, e7, hm⟩ := bnd_s hm
    obtain ⟨g8, hm⟩ := grd_s hm
    obtain ⟨g9, hm⟩ := grd_s hm
    cases hm
    exact (cl_seI hC (sh_55 hS) (by decide) _ _)
set_option maxHeartbeats 8000000 in
set_option maxRecDepth 100000 in
theorem km_Cs_seed {N : Nat}   {π : Sh} {σ : St} {x1 : Int} {r : St} (hC : Cl π σ)  (hm : Cs_seed N π σ x1 = some r) : Cl π r := by
  have hS := hC.1
  rw [Cs_seed] at hm
  cases hm
  exact (cl_sfI hC (f := 161) rfl _ _)
set_option maxHeartbeats 8000000 in
set_option maxRecDepth 100000 in
theorem km_Cs_tracksWaiting_25 {N : Nat}   {π : Sh} {r : St × Int} {rec4 : St → Int → Int → Option (St × Int)} (krec4 : ∀ {σ : St} {x1 : Int} {x2 : Int}, Cl π σ → rec4 σ x1 x2 = some r → Cl π r.1) {σ : St} {x2 : Int} {s0 : Int} {s1 : Int} (hC : Cl π σ)  (hm : Cs_tracksWaiting_25 N π rec4 σ x2 s0 s1 = some r) : Cl π r.1 := by
  have hS := hC.1
  rw [Cs_tracksWaiting_25] at hm
  obtain ⟨v6, e7, hm⟩ := bnd_s hm
  exact krec4 hC  hm
set_option maxHeartbeats 8000000 in
set_option maxRecDepth 100000 in
theorem km_Cs_tracksWaiting_4 {N : Nat}   {π : Sh} {r : St × Int}  (n : Nat) : ∀ {σ : St} {x1 : Int} {x2 : Int}, Cl π σ → Cs_tracksWaiting_4 N π n σ x1 x2 = some r → Cl π r.1 := by
  induction n with
  | zero => intro σ x1 x2 hC  hm; cases (show none = some r from hm)
  | succ n krec4 =>
    intro σ x1 x2 hC  hm
    have hS := hC.1
    rw [Cs_tracksWaiting_4] at hm
    obtain ⟨g1, hm⟩ := grd_s hm
    by_cases c2 : x2 < 8
    · have hm := ite_t c2 hm
      obtain ⟨g3, hm⟩ := grd_s hm
      obtain ⟨g4, hm⟩ := grd_s hm
      by_cases c5 : (el σ 53 x2) = 0
      · have hm := ite_t c5 hm
        exact km_Cs_tracksWaiting_25 krec4 hC hm
      · have hm := ite_f c5 hm
        exact km_Cs_tracksWaiting_25 krec4 hC hm
    · have hm := ite_f c2 hm
      cases hm
      exact hC
set_option maxHeartbeats 8000000 in
set_option maxRecDepth 100000 in
theorem km_Cs_tracksWaiting {N : Nat}   {π : Sh} {σ : St}  {r : St × Int} (hC : Cl π σ)  (hm : Cs_tracksWaiting N π σ  = some r) : Cl π r.1 := by
  have hS := hC.1
  rw [Cs_tracksWaiting] at hm
  exact km_Cs_tracksWaiting_4 N hC hm
set_option maxHeartbeats 8000000 in
set_option maxRecDepth 100000 in
theorem km_Cs_tracksWithPattern_25 {N : Nat}   {π : Sh} {r : St × Int} {rec4 : St → Int → Int → Option (St × Int)} (krec4 : ∀ {σ : St} {x1 : Int} {x2 : Int}, Cl π σ → rec4 σ x1 x2 = some r → Cl π r.1) {σ : St} {x2 : Int} {s0 : Int} {s1 : Int} (hC : Cl π σ)  (hm : Cs_tracksWithPattern_25 N π rec4 σ x2 s0 s1 = some r) : Cl π r.1 := by
  have hS := hC.1
  rw [Cs_tracksWithPattern_25] at hm
  obtain ⟨v5, e6, hm⟩ := bnd_s hm
  exact krec4 hC  hm
set_option maxHeartbeats 8000000 in
set_option maxRecDepth 100000 in
theorem km_Cs_tracksWithPattern_4 {N : Nat}   {π : Sh} {r : St × Int}  (n : Nat) : ∀ {σ : St} {x1 : Int} {x2 : Int}, Cl π σ → Cs_tracksWithPattern_4 N π n σ x1 x2 = some r → Cl π r.1 := by
  induction n with
  | zero => intro σ x1 x2 hC  hm; cases (show none = some r from hm)
  | succ n krec4 =>
    intro σ x1 x2 hC  hm
    have hS := hC.1
    rw [Cs_tracksWithPattern_4] at hm
    obtain ⟨g1, hm⟩ := grd_s hm
    by_cases c2 : x2 < 8
    · have hm := ite_t c2 hm
      obtain ⟨g3, hm⟩ := grd_s hm
      by_cases c4 : (el σ 51 x2) < 0
      · have hm := ite_t c4 hm
        exact km_Cs_tracksWithPattern_25 krec4 hC hm
      · have hm := ite_f c4 hm
        exact km_Cs_tracksWithPattern_25 krec4 hC hm
    · have hm := ite_f c2 hm
      cases hm
      exact hC
set_option maxHeartbeats 8000000 in
set_option maxRecDepth 100000 in
theorem km_Cs_tracksWithPattern {N : Nat}   {π : Sh} {σ : St}  {r : St × Int} (hC : Cl π σ)  (hm : Cs_tracksWithPattern N π σ  = some r) : Cl π r.1 := by
  have hS := hC.1
  rw [Cs_tracksWithPattern] at hm
  exact km_Cs_tracksWithPattern_4 N hC hm
set_option maxHeartbeats 8000000 in
set_option maxRecDepth 100000 in
theorem km_Cs_about {N : Nat}   {π : Sh} {σ : St} {x1 : Int} {r : St × Int} (hC : Cl π σ)  (hm : Cs_about N π σ x1 = some r) : Cl π r.1 := by
  have hS := hC.1
  rw [Cs_about] at hm
  obtain ⟨g1, hm⟩ := grd_s hm
  by_cases c2 : x1 = 0
  · have hm := ite_t c2 hm
    obtain ⟨g3, hm⟩ := grd_s hm
    cases hm
    exact hC
  have hm := ite_f c2 hm
  by_cases c4 : x1 = 1
  · have hm := ite_t c4 hm
    obtain ⟨g5, hm⟩ := grd_s hm
    cases hm
    exact hC
  have hm := ite_f c4 hm
  by_cases c6 : x1 = 2
  · have hm := ite_t c6 hm
    obtain ⟨r7, e8, hm⟩ := obd_s hm
    have q9 := (km_L_size hC (sh_42 hS).2.1 e8)
    have hC10 : Cl π r7.1 := q9
    cases hm
    exact hC10
  have hm := ite_f c6 hm
  by_cases c11 : x1 = 3
  · have hm := ite_t c11 hm
    obtain ⟨r12, e13, hm⟩ := obd_s hm
    have q14 := (km_Cs_tracksWithPattern hC e13)
    have hC15 : Cl π r12.1 := q14
    cases hm
    exact hC15
  have hm := ite_f c11 hm
  by_cases c16 : x1 = 4
  · have hm := ite_t c16 hm
    obtain ⟨r17, e18, hm⟩ := obd_s hm
    have q19 := (km_Cs_tracksWaiting hC e18)
    have hC20 : Cl π r17.1 := q19
    cases hm
    exact hC20
  have hm := ite_f c16 hm
  by_cases c21 : x1 = 5
  · have hm := ite_t c21 hm
    cases hm
    exact hC
  have hm := ite_f c21 hm
  by_cases c22 : x1 = 6
  · have hm := ite_t c22 hm
    cases hm
    exact hC
  have hm := ite_f c22 hm
  cases hm
  exact hC
