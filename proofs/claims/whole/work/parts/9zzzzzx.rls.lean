/-! every call keeps the relation -/
section RX9
theorem rls_all {N : Nat} (hB : Big N) (hN : 30000001 ≤ N) : Rls N (RO PRn (DRn N) RWd) := by
  refine ⟨fun n _ π σ τ h => ?_, fun n π σ τ hn h => h.up inn_n hn, fun n hn => ⟨st_feed (by omega) inn_n hn, st_end inn_n hn, st_read hN hn, st_hang hN hn, st_hush (by omega) inn_n hn, st_told inn_n hn, st_bound inn_n hn, st_ask hB inn_n hn, st_event (by omega) inn_n hn, st_letter (by omega) inn_n hn, st_play hB inn_n hn, st_heard (by omega) inn_n hn, st_heardLetter (by omega) inn_n hn, st_jump (by omega) inn_n hn, st_mute inn_n hn, st_solo inn_n hn, st_seed inn_n hn, st_about (by omega) inn_n hn⟩⟩
  have q := (inn_n (N := N)).2.2.2.2.2 n π σ τ h.2.2.2.2.2.2.2
  exact ⟨h.1, q.1, q.2.1⟩
/-- the states before any call -/
theorem ro_0 {N : Nat} {π : Sh} {σ τ : St} (hCl : Cl π σ) (hn : nn π = 56) (hs : sw π ≤ 57000) (hF : ∀ f : Nat, ¬ (118 ≤ f ∧ f ≤ 120) → fl τ f 0 = 0) (hT : fl τ 118 0 = -1 ∧ fl τ 119 0 = -1 ∧ fl τ 120 0 = -1) (h0 : ∀ f : Nat, f = 253 ∨ f = 254 ∨ f = 255 → fl σ f 0 = 0) (h1 : fl σ 181 1 = 0) (h9 : fl σ 161 9 = 0) (h10 : fl σ 52 10 = 22 ∧ fl σ 53 10 = 23) (h68 : fl σ 68 24 = 0 ∧ fl σ 68 33 = 0) (h42 : fl σ 1 42 = -1 ∧ fl σ 2 42 = 0 ∧ fl σ 1 43 = -1 ∧ fl σ 2 43 = 0) (hE : ∀ t : Int, 0 ≤ t → t < 8 → el σ 51 t = -1 ∧ el σ 53 t = 0 ∧ el σ 54 t = 0 ∧ el σ 55 t = 0) (hR : ∀ t : Int, 0 ≤ t → t < 8 → el τ 28 t = -1 ∧ el τ 27 t = -2 ∧ el τ 26 t = 0 ∧ el τ 25 t = 0) (hFn : FNc σ ∧ FNr τ ∧ WTr τ) : RO PRn (DRn N) RWd 0 π σ τ := by
  have hS := hCl.1
  have o42 : ob π 42 0 := SHs.ob hS (i := 42) (n := 0) (by decide) rfl
  have o43 : ob π 43 0 := SHs.ob hS (i := 43) (n := 0) (by decide) rfl
  have z : ∀ f : Nat, f < 118 ∨ 120 < f → fl τ f 0 = 0 := fun f hf => hF f (by omega)
  have c42 : cpc π σ 42 = 0 := by unfold cpc; rw [h42.1]; rfl
  have c43 : cpc π σ 43 = 0 := by unfold cpc; rw [h42.2.2.1]; rfl
  refine ⟨hCl, ⟨by rw [h1, z 1 (by omega)], by rw [z 1 (by omega)]; decide, by rw [z 1 (by omega)]; decide, fun j j0 j1 => by rw [z 1 (by omega)] at j1; omega⟩, ⟨⟨by rw [h0 253 (by omega), z 115 (by omega), z 116 (by omega)]; rfl, by rw [z 115 (by omega)]; decide, by rw [z 116 (by omega)]; decide, by rw [z 116 (by omega)]; decide, by rw [h0 253 (by omega)]; decide⟩, ⟨by rw [h0 254 (by omega), z 117 (by omega)], by rw [z 117 (by omega)]; decide, by rw [z 117 (by omega)]; decide⟩, ⟨by rw [h9, z 95 (by omega)], by rw [z 95 (by omega)]; decide, Or.inl h10⟩, Or.inl ⟨h0 255 (by omega), hT⟩⟩, fun t t0 t8 => ?_, fun t t0 t8 => ?_, ?_, ?_, ⟨by omega, [], [], ⟨?_, ?_, ?_⟩, ⟨?_, by simp, trivial, fun e he => absurd he (by simp)⟩, hFn, ?_, ?_, ?_, ?_, ?_, Or.inl ⟨z 1 (by omega), ?_, ?_⟩⟩⟩
  · obtain ⟨-, -, a1, a2⟩ := hE t t0 t8
    obtain ⟨-, -, b1, b2⟩ := hR t t0 t8
    rw [a1, a2, b1, b2]
    decide
  · obtain ⟨a1, a2, -⟩ := hE t t0 t8
    obtain ⟨b1, b2, -⟩ := hR t t0 t8
    rw [a1, a2, b1, b2]
    exact ⟨Or.inl ⟨rfl, rfl⟩, Or.inl ⟨rfl, rfl⟩⟩
  · refine ⟨by rw [h68.1, z 121 (by omega)], by rw [z 121 (by omega)]; decide, by rw [z 121 (by omega)]; decide, fun q => by rw [z 121 (by omega)] at q; omega, by rw [z 128 (by omega)]; decide, fun k k0 k1 => by rw [z 121 (by omega)] at k1; omega⟩
  · refine ⟨by rw [h68.2, z 129 (by omega)], by rw [z 129 (by omega)]; decide, by rw [z 129 (by omega)]; decide, fun k k0 k1 => by rw [z 129 (by omega)] at k1; omega⟩
  · exact ⟨o42, h42.2.1, by simp, Or.inl ⟨by omega, rfl⟩, fun D hD => absurd hD (by simp)⟩
  · exact ⟨o43, h42.2.2.2, by simp, Or.inl ⟨by omega, rfl⟩, fun D hD => absurd hD (by simp)⟩
  · intro q
    omega
  · rw [z 34 (by omega)]; rfl
  · rw [z 28 (by omega), z 1 (by omega)]; decide
  · rw [z 16 (by omega), z 1 (by omega)]; decide
  · rw [z 48 (by omega)]; decide
  · rw [z 61 (by omega)]; decide
  · rw [z 1 (by omega)]; decide
  · omega
  · rw [c42, c43]; omega
end RX9
