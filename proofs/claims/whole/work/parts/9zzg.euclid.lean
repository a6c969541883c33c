/-! the sign ( behind a part: the class alone, behind a fault -/
/-- what is left alone while such a change is read: s is its step -/
def EUf (s : Int) (σ σ' : St) : Prop := (∀ (f : Nat) (i : Int), ¬ (i = 50 ∧ (f = 222 ∨ f = 225)) → ¬ (i = 1 ∧ 182 ≤ f ∧ f ≤ 184) → ¬ (i = s ∧ 202 ≤ f ∧ f ≤ 204) → fl σ' f i = fl σ f i) ∧ ∀ a j : Int, el σ' a j = el σ a j
theorem EUf.rf (s : Int) (σ : St) : EUf s σ σ := ⟨fun _ _ _ _ _ => rfl, fun _ _ => rfl⟩
theorem EUf.tr {s : Int} {σ σ1 σ2 : St} (h : EUf s σ σ1) (k : EUf s σ1 σ2) : EUf s σ σ2 := ⟨fun f i x y z => (k.1 f i x y z).trans (h.1 f i x y z), fun a j => (k.2 a j).trans (h.2 a j)⟩
theorem EUf.xf {s : Int} {σ σ1 σ2 : St} (h : EUf s σ σ1) (k : XFc σ1 σ2) : EUf s σ σ2 := h.tr ⟨fun f i x y _ => k.1 f i x (by omega), k.2⟩
theorem EUf.fld {s : Int} {σ σ1 : St} (h : EUf s σ σ1) (f : Nat) (v : Int) (hf : 202 ≤ f ∧ f ≤ 204) : EUf s σ (sf σ1 f s v) := h.tr ⟨fun g i _ _ z => by rw [fl_sf, if_neg (by rintro ⟨rfl, rfl⟩; exact z ⟨rfl, hf⟩)], fun _ _ => rfl⟩
theorem EUf.op {s : Int} {σ σ1 : St} (h : EUf s σ σ1) (v : Int) : EUf s σ (sf σ1 184 1 v) := h.tr ⟨fun g i _ y _ => by rw [fl_sf, if_neg (by rintro ⟨rfl, rfl⟩; exact y ⟨rfl, by decide, by decide⟩)], fun _ _ => rfl⟩
theorem EUf.at {s : Int} {σ σ1 : St} (h : EUf s σ σ1) (v : Int) : EUf s σ (sf σ1 222 50 v) := h.xf ((XFc.rf σ1).at v)
theorem XB.eu {σ σ' τ : St} {st cl s : Int} (h : XB σ τ st cl) (k : EUf s σ σ') (hs : 56 ≤ s) (h1 : st ≤ fl σ' 222 50 ∧ fl σ' 222 50 ≤ cl) : XB σ' τ st cl := h.mv (RDr.rf 0 0 τ) ⟨k.1 181 1 (by omega) (by omega) (by omega), k.1 223 50 (by omega) (by omega) (by omega), fun j => k.2 2 j⟩ h1
section EU
variable {N : Nat} {Xo : Int → Prop}
theorem eu138_any {π : Sh} {σ τ : St} {st cl o s : Int} (hN : 3000 ≤ N) (h : XB σ τ st cl) (hs : 56 ≤ s) (hf : i32 (fl σ 182 1)) (hn : fl σ 182 1 ≠ 0) : ∃ σ', Tx_euclid_138 N π σ o s = some (π, σ', 0) ∧ EUf s σ σ' ∧ XB σ' τ st cl ∧ fl σ' 182 1 = fl σ 182 1 ∧ fl σ' 183 1 = fl σ 183 1 ∧ fl σ' 184 1 = fl σ 184 1 - 1 := by
  obtain ⟨σ1, t1, t2, t3, t4, t5⟩ := x_tak_any (N := N) (π := π) (s := 41) hN h hf (by decide) hn
  have e : EUf s σ (sf σ1 184 1 (fl σ1 184 1 - 1)) := ((EUf.rf s σ).xf t2).op _
  refine ⟨sf σ1 184 1 (fl σ1 184 1 - 1), ?_, e, h.eu e hs (by rw [fl_sfn _ _ _ _ (by decide)]; exact ⟨t3.2.1.2.2.1, t3.2.1.2.2.2.1⟩), by rw [fl_sfn _ _ _ _ (by decide)]; exact t4, by rw [fl_sfn _ _ _ _ (by decide)]; exact t5, by rw [fl_sfs, t2.1 184 1 (by omega) (by omega)]⟩
  rw [Tx_euclid_138, t1, Option.bind_some, t4, grd_t hf, if_neg hn]
theorem eu94_any {π : Sh} {σ τ : St} {st cl o s : Int} (hN : 3000 ≤ N) (h : XB σ τ st cl) (hs : 56 ≤ s) (hf : i32 (fl σ 182 1)) (hn : fl σ 182 1 ≠ 0) : ∃ σ', Tx_euclid_94 N π σ o s = some (π, σ', 0) ∧ EUf s σ σ' ∧ XB σ' τ st cl ∧ fl σ' 182 1 = fl σ 182 1 ∧ fl σ' 183 1 = fl σ 183 1 ∧ fl σ' 184 1 = fl σ 184 1 - 1 := by
  obtain ⟨q1, q2, q3, q4⟩ := nb_in h
  have b := h.2.1
  obtain ⟨σ1, hσ1⟩ : ∃ σ1, σ1 = sf σ 222 50 (nb τ cl (fl σ 222 50)) := ⟨_, rfl⟩
  have e1 : EUf s σ σ1 := by rw [hσ1]; exact (EUf.rf s σ).at _
  have x1 : XB σ1 τ st cl := h.eu e1 hs (by rw [hσ1, fl_sfs]; omega)
  have f1 : ∀ f i, ¬ (f = 222 ∧ i = 50) → fl σ1 f i = fl σ f i := fun f i hx => by rw [hσ1, fl_sf, if_neg hx]
  obtain ⟨σ', r1, r2, r3, r4, r5, r6⟩ := eu138_any (N := N) (π := π) (o := o) (s := s) hN x1 hs (by rw [f1 182 1 (by omega)]; exact hf) (by rw [f1 182 1 (by omega)]; exact hn)
  refine ⟨σ', ?_, e1.tr r2, r3, by rw [r4, f1 182 1 (by omega)], by rw [r5, f1 183 1 (by omega)], by rw [r6, f1 184 1 (by omega)]⟩
  rw [Tx_euclid_94, c_skip hN h, ← hσ1, Option.bind_some, f1 182 1 (by omega), grd_t hf, if_neg hn, r1]
/-- from the sign , on -/
def eu23 (N : Nat) (π : Sh) (σ : St) (o s fa : Int) : Option (Sh × St × Int) := Option.bind (Tx_take N π σ 44) (fun r23 => Option.bind (Tx_number N π r23 1 32) (fun r27 => grd (i32 (fl r27.1 202 s)) (grd (i32 r27.2) (if r27.2 < (fl r27.1 202 s) then bnd (sf r27.1 203 s r27.2) (fun σ34 => Option.bind (Sc_fail N π σ34 3 fa) (fun r37 => Tx_euclid_94 N π r37 o s)) else Tx_euclid_94 N π (sf r27.1 203 s r27.2) o s))))
theorem eu27_any {π : Sh} {σ τ : St} {st cl o s fa : Int} (hN : 3000 ≤ N) (h : XB σ τ st cl) (hs : 56 ≤ s) (hf : i32 (fl σ 182 1)) (hn : fl σ 182 1 ≠ 0) (h202 : i32 (fl σ 202 s)) : ∃ σ', Option.bind (Tx_number N π σ 1 32) (fun r27 => grd (i32 (fl r27.1 202 s)) (grd (i32 r27.2) (if r27.2 < (fl r27.1 202 s) then bnd (sf r27.1 203 s r27.2) (fun σ34 => Option.bind (Sc_fail N π σ34 3 fa) (fun r37 => Tx_euclid_94 N π r37 o s)) else Tx_euclid_94 N π (sf r27.1 203 s r27.2) o s))) = some (π, σ', 0) ∧ EUf s σ σ' ∧ XB σ' τ st cl ∧ fl σ' 182 1 = fl σ 182 1 ∧ fl σ' 183 1 = fl σ 183 1 ∧ fl σ' 184 1 = fl σ 184 1 - 1 := by
  obtain ⟨σ1, v, n1, n2, n3, n4, n5, n6, n7⟩ := c_num_any (N := N) (π := π) (a := 1) (b := 32) hN h hf ⟨by decide, by decide⟩ hn
  have e1 : EUf s σ (sf σ1 203 s v) := ((EUf.rf s σ).xf n2).fld 203 _ (by decide)
  have x1 : XB (sf σ1 203 s v) τ st cl := h.eu e1 hs (by rw [fl_sfn _ _ _ _ (by decide)]; exact ⟨n3.2.1.2.2.1, n3.2.1.2.2.2.1⟩)
  have f182 : fl (sf σ1 203 s v) 182 1 = fl σ 182 1 := by rw [fl_sfn _ _ _ _ (by decide)]; exact n6
  have f183 : fl (sf σ1 203 s v) 183 1 = fl σ 183 1 := by rw [fl_sfn _ _ _ _ (by decide)]; exact n7
  have f184 : fl (sf σ1 203 s v) 184 1 = fl σ 184 1 := by rw [fl_sfn _ _ _ _ (by decide)]; exact n2.1 184 1 (by omega) (by omega)
  have f202 : fl σ1 202 s = fl σ 202 s := n2.1 202 s (by omega) (by omega)
  obtain ⟨σ', r1, r2, r3, r4, r5, r6⟩ := eu94_any (N := N) (π := π) (o := o) (s := s) hN x1 hs (by rw [f182]; exact hf) (by rw [f182]; exact hn)
  refine ⟨σ', ?_, e1.tr r2, r3, by rw [r4, f182], by rw [r5, f183], by rw [r6, f184]⟩
  rw [n1, Option.bind_some]
  simp only
  rw [f202, grd_t h202, grd_t n5, bnd, c_fail (by rw [f182]; exact hf), flS_n (by rw [f182]; exact hn), Option.bind_some, r1, ite_self]
theorem eu23_any {π : Sh} {σ τ : St} {st cl o s fa : Int} (hN : 3000 ≤ N) (h : XB σ τ st cl) (hs : 56 ≤ s) (hf : i32 (fl σ 182 1)) (hn : fl σ 182 1 ≠ 0) (h202 : i32 (fl σ 202 s)) : ∃ σ', eu23 N π σ o s fa = some (π, σ', 0) ∧ EUf s σ σ' ∧ XB σ' τ st cl ∧ fl σ' 182 1 = fl σ 182 1 ∧ fl σ' 183 1 = fl σ 183 1 ∧ fl σ' 184 1 = fl σ 184 1 - 1 := by
  obtain ⟨σ1, t1, t2, t3, t4, t5⟩ := x_tak_any (N := N) (π := π) (s := 44) hN h hf (by decide) hn
  obtain ⟨σ', r1, r2, r3, r4, r5, r6⟩ := eu27_any (N := N) (π := π) (o := o) (s := s) (fa := fa) hN t3 hs (by rw [t4]; exact hf) (by rw [t4]; exact hn) (by rw [t2.1 202 s (by omega) (by omega)]; exact h202)
  refine ⟨σ', ?_, ((EUf.rf s σ).xf t2).tr r2, r3, by rw [r4, t4], by rw [r5, t5], by rw [r6, t2.1 184 1 (by omega) (by omega)]⟩
  rw [eu23, t1, Option.bind_some, r1]
/-- the reference behind a fault -/
theorem r_need_any {σ τ : St} {st cl x : Int} (hN : 3000 ≤ N) (h : XB σ τ st cl) (hat : st ≤ fl τ 2 0 ∧ fl τ 2 0 ≤ cl) (hf : i32 (fl τ 11 0)) (hn : fl τ 11 0 ≠ 0) : ∃ τ', r_need N τ x = some τ' ∧ XFr τ τ' ∧ fl τ' 11 0 = fl τ 11 0 ∧ fl τ' 12 0 = fl τ 12 0 ∧ (st ≤ fl τ' 2 0 ∧ fl τ' 2 0 ≤ cl) := by
  have e : XFc σ (sf σ 222 50 (fl τ 2 0)) := (XFc.rf σ).at _
  have x1 : XB (sf σ 222 50 (fl τ 2 0)) τ st cl := h.xf e (XFr.rf τ) (by rw [fl_sfs]; exact hat.1) (by rw [fl_sfs]; exact hat.2)
  obtain ⟨q1, q2, q3, q4⟩ := nb_in x1
  have sk := r_skip' (N := N) hN x1 (by rw [fl_sfs])
  rw [fl_sfs] at sk q1 q2
  have f11 : fl (sf τ 2 0 (nb τ cl (fl τ 2 0))) 11 0 = fl τ 11 0 := fl_sfn _ _ _ _ (by decide)
  refine ⟨sf τ 2 0 (nb τ cl (fl τ 2 0)), ?_, (XFr.rf τ).at _, f11, fl_sfn _ _ _ _ (by decide), by rw [fl_sfs]; omega⟩
  rw [r_need, sk, Option.bind_some, f11, grd_t hf, if_neg hn]
end EU
