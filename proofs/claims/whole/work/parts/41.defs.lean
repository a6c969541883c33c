/-! lists and copies of the JDK -/
abbrev anyO (π : Sh) (v : Int) : Prop := ob π v 1 ∨ ob π v 5 ∨ ob π v 10
/-- elements from 0 up to n of a are null, or such objects -/
abbrev allO (π : Sh) (σ : St) (a n : Int) : Prop := ∀ j : Nat, j < n.toNat → el σ a j < 0 ∨ anyO π (el σ a j)
/-- elements from 0 up to n of a are null -/
def cle (σ : St) (a n : Int) : St := (σ.1, fun a' j => if a' = a ∧ 0 ≤ j ∧ j < n then -1 else σ.2 a' j)
/-- elements from 0 up to n of a are those of b -/
def cpe (σ : St) (a b n : Int) : St := (σ.1, fun a' j => if a' = a ∧ 0 ≤ j ∧ j < n then σ.2 b j else σ.2 a' j)
def L_size (π : Sh) (σ : St) (x : Int) : Option (St × Int) := grd (ob π x 0) (some (σ, fl σ 2 x))
def L_get (π : Sh) (σ : St) (x i : Int) : Option (St × Int) := grd (ob π x 0) (grd (i32 i) (grd (i32 (fl σ 2 x)) (grd (0 ≤ i ∧ i < fl σ 2 x) (grd (ob π (fl σ 1 x) 27) (grd (ina π (fl σ 1 x) i) (some (σ, el σ (fl σ 1 x) i)))))))
def L_set (π : Sh) (σ : St) (x i v : Int) : Option (St × Int) := grd (ob π x 0) (grd (i32 i) (grd (i32 (fl σ 2 x)) (grd (0 ≤ i ∧ i < fl σ 2 x) (grd (ob π (fl σ 1 x) 27) (grd (ina π (fl σ 1 x) i) (grd (anyO π v) (some (se σ (fl σ 1 x) i v, el σ (fl σ 1 x) i))))))))
def L_clear (π : Sh) (σ : St) (x : Int) : Option St := grd (ob π x 0) (grd (0 ≤ fl σ 2 x ∧ i32 (fl σ 2 x)) (grd (fl σ 2 x = 0 ∨ ob π (fl σ 1 x) 27 ∧ fl σ 2 x ≤ ln π (fl σ 1 x)) (some (sf (sf (cle σ (fl σ 1 x) (fl σ 2 x)) 0 x (fl σ 0 x + 1)) 2 x 0))))
def L_cap (n : Int) : Int := n + max 1 (n / 2)
def L_add (π : Sh) (σ : St) (x v : Int) : Option (Sh × St × Int) := grd (ob π x 0) (grd (anyO π v) (grd (0 ≤ fl σ 2 x ∧ fl σ 2 x < 30000000) (
  if fl σ 1 x < 0 then grd (fl σ 2 x = 0) (some (nA π 7 10, sf (se (sf (zA (sf σ 0 x (fl σ 0 x + 1)) (nn π) (-1)) 1 x (nn π)) (nn π) 0 v) 2 x 1, 1))
  else grd (ob π (fl σ 1 x) 27) (grd (ln π (fl σ 1 x) < 60000001) (
    if fl σ 2 x < ln π (fl σ 1 x) then some (π, sf (se (sf σ 0 x (fl σ 0 x + 1)) (fl σ 1 x) (fl σ 2 x) v) 2 x (fl σ 2 x + 1), 1)
    else grd (fl σ 2 x = ln π (fl σ 1 x) ∧ 0 < fl σ 2 x ∧ allO π σ (fl σ 1 x) (fl σ 2 x)) (some (nA π 7 (L_cap (fl σ 2 x)), sf (se (sf (cpe (zA (sf σ 0 x (fl σ 0 x + 1)) (nn π) (-1)) (nn π) (fl σ 1 x) (fl σ 2 x)) 1 x (nn π)) (nn π) (fl σ 2 x) v) 2 x (fl σ 2 x + 1), 1)))))))
def A_copy (π : Sh) (σ : St) (a m : Int) : Option (Sh × St × Int) := grd (ob π a 22) (grd (0 ≤ m ∧ m < 30000000) (grd (0 ≤ ln π a ∧ ln π a < 30000000) (grd (¬ m = ln π a) (some (nA π 2 m, cpe (zA σ (nn π) 0) (nn π) a (min (ln π a) m), nn π)))))
def Df_init_35 (N : Nat)    (π : Sh) (σ : St) (x0 : Int) (x1 : Int) (s0 : Int) (s1 : Int) : Option (Sh × St) := grd (ob π s1 1) (
 grd (ob π x0 1) (
 some (π, (sf (sf (sf (sf σ 24 s1 s0) 25 x0 0) 26 x0 (-1)) 20 x0 x1))))
def Df_init_24 (N : Nat)    (π : Sh) (σ : St) (x0 : Int) (x1 : Int) (s0 : Int) (s1 : Int) : Option (Sh × St) := grd (ob π s1 1) (
 bnd (sf σ 23 s1 s0) (fun σ10 =>
 Df_init_35 N (nO π 0 3) (zO σ10 (nn π) dfl) x0 x1 (nn π) x0))
def Df_init_8 (N : Nat)    (π : Sh) (σ : St) (x0 : Int) (x1 : Int) (s0 : Int) (s1 : Int) : Option (Sh × St) := grd (ob π s1 1) (
 grd (ob π x0 1) (
 bnd (sf (sf σ 21 s1 s0) 22 x0 0) (fun σ5 =>
 Df_init_24 N (nO π 0 3) (zO σ5 (nn π) dfl) x0 x1 (nn π) x0)))
def Df_init (N : Nat)  (π : Sh) (σ : St) (x0 : Int) (x1 : Int) : Option (Sh × St) := grd (ob π x0 1) (
 Df_init_8 N (nA π 3 4) (zA σ (nn π) 0) x0 x1 (nn π) x0)
def Df_add_8 (N : Nat)    (π : Sh) (σ : St) (x0 : Int) (s0 : Int) : Option (Sh × St × Int) := grd (ob π x0 1) (
 Option.bind (L_size π σ (fl σ 23 x0)) (fun r7 =>
 grd (ob π (fl σ 23 x0) 0) (
 some (π, r7.1, (((fl σ 22 x0) + r7.2) - 1)))))
def Df_add (N : Nat)  (π : Sh) (σ : St) (x0 : Int) (x1 : Int) : Option (Sh × St × Int) := grd (ob π x0 1) (
 Option.bind (L_add π σ (fl σ 23 x0) x1) (fun r2 =>
 grd (ob π (fl σ 23 x0) 0) (
 Df_add_8 N r2.1 r2.2.1 x0 r2.2.2)))
def Df_addKnown_8 (N : Nat)    (π : Sh) (σ : St) (x0 : Int) (s0 : Int) : Option (Sh × St × Int) := grd (ob π x0 1) (
 Option.bind (L_size π σ (fl σ 24 x0)) (fun r7 =>
 grd (ob π (fl σ 24 x0) 0) (
 some (π, r7.1, (-r7.2)))))
def Df_addKnown (N : Nat)  (π : Sh) (σ : St) (x0 : Int) (x1 : Int) : Option (Sh × St × Int) := grd (ob π x0 1) (
 Option.bind (L_add π σ (fl σ 24 x0) x1) (fun r2 =>
 grd (ob π (fl σ 24 x0) 0) (
 Df_addKnown_8 N r2.1 r2.2.1 x0 r2.2.2)))
def Df_parameterIndex_2 (N : Nat)  (π : Sh)  : Nat → St → Int → Int → Int → Option (St × Int)
  | 0, _, _, _, _ => none
  | n + 1, σ, x0, x1, x3 => grd (ob π x0 1) (
 grd (i32 x3) (
 grd (i32 (fl σ 22 x0)) (
 if x3 < (fl σ 22 x0) then
 grd (ob π (fl σ 21 x0) 23) (
 grd (ina π (fl σ 21 x0) x3) (
 grd (i64 (el σ (fl σ 21 x0) x3)) (
 grd (i64 x1) (
 if (el σ (fl σ 21 x0) x3) = x1 then
 some (σ, x3)
 else
 (Df_parameterIndex_2 N π n) σ x0 x1 (x3 + 1)))))
 else
 some (σ, (-1)))))
def Df_parameterIndex (N : Nat)  (π : Sh) (σ : St) (x0 : Int) (x1 : Int) : Option (St × Int) := Df_parameterIndex_2 N π N σ x0 x1 0
def Df_hasName_17 (N : Nat)  (π : Sh)  (σ : St)  : Option (St × Int) := some (σ, 1)
def Df_hasName (N : Nat)  (π : Sh) (σ : St) (x0 : Int) (x1 : Int) : Option (St × Int) := grd (ob π x0 1) (
 grd (i64 (fl σ 20 x0)) (
 grd (i64 x1) (
 if (fl σ 20 x0) = x1 then
 Df_hasName_17 N π σ
 else
 Option.bind (Df_parameterIndex N π σ x0 x1) (fun r5 =>
 grd (i32 r5.2) (
 if r5.2 < 0 then
 some (r5.1, 0)
 else
 Df_hasName_17 N π r5.1)))))
def Es_push (N : Nat)  (π : Sh) (σ : St) (x1 : Int) (x3 : Int) (x5 : Int) (x7 : Int) (x8 : Int) : Option St := grd (i32 (fl σ 46 10)) (
 if (fl σ 46 10) < 6000 then
 grd (inb (fl σ 46 10) 6000) (
 grd (isZ x8) (
 some (sf (se (se (se (se (se σ 11 (fl σ 46 10) x1) 12 (fl σ 46 10) x3) 13 (fl σ 46 10) x5) 14 (fl σ 46 10) x7) 15 (fl σ 46 10) x8) 46 10 ((fl σ 46 10) + 1))))
 else
 some σ)
def Es_pushAgain_3 (N : Nat)  (π : Sh)  : Nat → St → Int → Int → Int → Int → Option St
  | 0, _, _, _, _, _ => none
  | n + 1, σ, x2, x3, x5, x7 => grd (i32 x7) (
 grd (i32 x2) (
 if x7 < x2 then
 grd (inb x7 6000) (
 Option.bind (Es_push N π σ (((el σ 11 x7) * x3) + x5) ((el σ 12 x7) * x3) (el σ 13 x7) (el σ 14 x7) (el σ 15 x7)) (fun r5 =>
 (Es_pushAgain_3 N π n) r5 x2 x3 x5 (x7 + 1)))
 else
 some σ))
def Es_pushAgain (N : Nat)  (π : Sh) (σ : St) (x1 : Int) (x2 : Int) (x3 : Int) (x5 : Int) : Option St := Es_pushAgain_3 N π N σ x2 x3 x5 x1
def Es_scale_17 (N : Nat)  (π : Sh)  : Nat → St → Int → Int → Int → Option St
  | 0, _, _, _, _ => none
  | n + 1, σ, x2, x4, x6 => grd (i32 x6) (
 grd (i32 (fl σ 46 10)) (
 if x6 < (fl σ 46 10) then
 grd (inb x6 6000) (
 (Es_scale_17 N π n) (se (se σ 11 x6 (((el σ 11 x6) * x2) + x4)) 12 x6 ((el σ 12 x6) * x2)) x2 x4 (x6 + 1))
 else
 some σ))
def Es_scale_14 (N : Nat)  (π : Sh)  (σ : St) (x1 : Int) (x2 : Int) (x4 : Int) : Option St := Es_scale_17 N π N σ x2 x4 x1
def Es_scale (N : Nat)  (π : Sh) (σ : St) (x1 : Int) (x2 : Int) (x4 : Int) : Option St := grd (i64 x2) (
 if x2 = 1 then
 grd (i64 x4) (
 if x4 = 0 then
 some σ
 else
 Es_scale_14 N π σ x1 x2 x4)
 else
 Es_scale_14 N π σ x1 x2 x4)
def Es_move (N : Nat)  (π : Sh) (σ : St) (x1 : Int) (x2 : Int) : Option St := grd (i32 x1) (
 grd (i32 x2) (
 if x1 = x2 then
 some σ
 else
 grd (inb x1 6000) (
 grd (inb x2 6000) (
 grd (isZ (el σ 15 x1)) (
 some (se (se (se (se (se (se σ 11 x2 (el σ 11 x1)) 12 x2 (el σ 12 x1)) 13 x2 (el σ 13 x1)) 14 x2 (el σ 14 x1)) 15 x2 (el σ 15 x1)) 16 x2 (el σ 16 x1)))))))
def Es_choose_61 (N : Nat)  (π : Sh) (rec6 : St → Int → Int → Int → Int → Int → Option St) (σ : St) (x2 : Int) (x4 : Int) (x6 : Int) (x7 : Int) (x8 : Int) : Option St := rec6 σ x2 x4 x6 x7 (x8 + 1)
def Es_choose_45 (N : Nat)  (π : Sh) (rec6 : St → Int → Int → Int → Int → Int → Option St) (σ : St) (x2 : Int) (x4 : Int) (x6 : Int) (x7 : Int) (x8 : Int) (s0 : Int) : Option St := grd (i32 s0) (
 grd (i32 x6) (
 if s0 = x6 then
 Option.bind (Es_move N π σ x8 x7) (fun r13 =>
 Es_choose_61 N π rec6 r13 x2 x4 x6 (x7 + 1) x8)
 else
 Es_choose_61 N π rec6 σ x2 x4 x6 x7 x8))
def Es_choose_44 (N : Nat)  (π : Sh) (rec6 : St → Int → Int → Int → Int → Int → Option St) (σ : St) (x2 : Int) (x4 : Int) (x6 : Int) (x7 : Int) (x8 : Int) : Option St := Es_choose_45 N π rec6 σ x2 x4 x6 x7 x8 0
def Es_choose_6 (N : Nat)  (π : Sh)  : Nat → St → Int → Int → Int → Int → Int → Option St
  | 0, _, _, _, _, _, _ => none
  | n + 1, σ, x2, x4, x6, x7, x8 => grd (i32 x8) (
 grd (i32 (fl σ 46 10)) (
 if x8 < (fl σ 46 10) then
 grd (inb x8 6000) (
 grd (i64 (el σ 11 x8)) (
 grd (i64 x2) (
 if (el σ 11 x8) < x2 then
 Es_choose_44 N π (Es_choose_6 N π n) σ x2 x4 x6 x7 x8
 else
 grd (i64 x4) (
 if (el σ 11 x8) < x4 then
 Es_choose_45 N π (Es_choose_6 N π n) σ x2 x4 x6 x7 x8 1
 else
 Es_choose_44 N π (Es_choose_6 N π n) σ x2 x4 x6 x7 x8))))
 else
 some (sf σ 46 10 x7)))
def Es_choose (N : Nat)  (π : Sh) (σ : St) (x1 : Int) (x2 : Int) (x4 : Int) (x6 : Int) : Option St := Es_choose_6 N π N σ x2 x4 x6 x1 x1
def Es_chooseMarked_35 (N : Nat)  (π : Sh) (rec5 : St → Int → Int → Int → Option St) (σ : St) (x2 : Int) (x3 : Int) (x4 : Int) : Option St := rec5 σ x2 x3 (x4 + 1)
def Es_chooseMarked_5 (N : Nat)  (π : Sh)  : Nat → St → Int → Int → Int → Option St
  | 0, _, _, _, _ => none
  | n + 1, σ, x2, x3, x4 => grd (i32 x4) (
 grd (i32 (fl σ 46 10)) (
 if x4 < (fl σ 46 10) then
 grd (inb x4 6000) (
 grd (i32 (el σ 16 x4)) (
 grd (i32 x2) (
 if (el σ 16 x4) = x2 then
 Option.bind (Es_move N π σ x4 x3) (fun r8 =>
 Es_chooseMarked_35 N π (Es_chooseMarked_5 N π n) r8 x2 (x3 + 1) x4)
 else
 Es_chooseMarked_35 N π (Es_chooseMarked_5 N π n) σ x2 x3 x4)))
 else
 some (sf σ 46 10 x3)))
def Es_chooseMarked (N : Nat)  (π : Sh) (σ : St) (x1 : Int) (x2 : Int) : Option St := Es_chooseMarked_5 N π N σ x2 x1 x1
def Es_remove_5 (N : Nat)  (π : Sh)  : Nat → St → Int → Int → Option St
  | 0, _, _, _ => none
  | n + 1, σ, x3, x4 => grd (i32 x4) (
 grd (i32 (fl σ 46 10)) (
 if x4 < (fl σ 46 10) then
 Option.bind (Es_move N π σ x4 x3) (fun r4 =>
 (Es_remove_5 N π n) r4 (x3 + 1) (x4 + 1))
 else
 some (sf σ 46 10 x3)))
def Es_remove (N : Nat)  (π : Sh) (σ : St) (x1 : Int) (x2 : Int) : Option St := Es_remove_5 N π N σ x1 x2
def Es_isLoud_29 (N : Nat)  (π : Sh)  (σ : St)  : Option (St × Int) := some (σ, 1)
def Es_isLoud (N : Nat)  (π : Sh) (σ : St) (x1 : Int) : Option (St × Int) := grd (inb x1 6000) (
 grd (i64 (el σ 13 x1)) (
 if (el σ 13 x1) = 0 then
 grd (i32 (el σ 15 x1)) (
 if (el σ 15 x1) = 0 then
 some (σ, 0)
 else
 grd (i32 (el σ 14 x1)) (
 if (el σ 14 x1) = 0 then
 some (σ, 0)
 else
 Es_isLoud_29 N π σ))
 else
 Es_isLoud_29 N π σ))
def Es_copyToSpare_2 (N : Nat)  (π : Sh)  : Nat → St → Int → Int → Int → Option St
  | 0, _, _, _, _ => none
  | n + 1, σ, x1, x2, x3 => grd (i32 x3) (
 grd (i32 x2) (
 if x3 < x2 then
 grd (inb (x1 + x3) 6000) (
 grd (inb x3 1024) (
 grd (isZ (el σ 15 (x1 + x3))) (
 (Es_copyToSpare_2 N π n) (se (se (se (se (se σ 20 x3 (el σ 11 (x1 + x3))) 21 x3 (el σ 12 (x1 + x3))) 19 x3 (el σ 13 (x1 + x3))) 17 x3 (el σ 14 (x1 + x3))) 18 x3 (el σ 15 (x1 + x3))) x1 x2 (x3 + 1))))
 else
 some σ))
def Es_copyToSpare (N : Nat)  (π : Sh) (σ : St) (x1 : Int) (x2 : Int) : Option St := Es_copyToSpare_2 N π N σ x1 x2 0
def Es_isSorted_4 (N : Nat)  (π : Sh)  : Nat → St → Int → Option (St × Int)
  | 0, _, _ => none
  | n + 1, σ, x2 => grd (i32 x2) (
 grd (i32 (fl σ 46 10)) (
 if x2 < (fl σ 46 10) then
 grd (inb (x2 - 1) 6000) (
 grd (inb x2 6000) (
 grd (i64 (el σ 11 (x2 - 1))) (
 grd (i64 (el σ 11 x2)) (
 if (el σ 11 x2) < (el σ 11 (x2 - 1)) then
 some (σ, 0)
 else
 (Es_isSorted_4 N π n) σ (x2 + 1)))))
 else
 some (σ, 1)))
def Es_isSorted (N : Nat)  (π : Sh) (σ : St) (x1 : Int) : Option (St × Int) := bnd (x1 + 1) (fun v1 =>
 Es_isSorted_4 N π N σ v1)
def Es_mergeRuns_82 (N : Nat)  (π : Sh) (rec9 : St → Int → Int → Int → Int → Int → Option St) (σ : St) (x2 : Int) (x3 : Int) (x4 : Int) (x5 : Int) (x6 : Int) : Option St := rec9 σ x2 x3 x4 x5 (x6 + 1)
def Es_mergeRuns_45 (N : Nat)  (π : Sh) (rec9 : St → Int → Int → Int → Int → Int → Option St) (σ : St) (x2 : Int) (x3 : Int) (x4 : Int) (x5 : Int) (x6 : Int) : Option St := grd (ob π (fl σ 52 10) 23) (
 grd (ina π (fl σ 52 10) x4) (
 grd (ob π (fl σ 53 10) 23) (
 grd (ina π (fl σ 53 10) x6) (
 Es_mergeRuns_82 N π rec9 (se σ (fl σ 53 10) x6 (el σ (fl σ 52 10) x4)) x2 x3 (x4 + 1) x5 x6))))
def Es_mergeRuns_65 (N : Nat)  (π : Sh) (rec9 : St → Int → Int → Int → Int → Int → Option St) (σ : St) (x2 : Int) (x3 : Int) (x4 : Int) (x5 : Int) (x6 : Int) : Option St := grd (ob π (fl σ 52 10) 23) (
 grd (ina π (fl σ 52 10) x5) (
 grd (ob π (fl σ 53 10) 23) (
 grd (ina π (fl σ 53 10) x6) (
 Es_mergeRuns_82 N π rec9 (se σ (fl σ 53 10) x6 (el σ (fl σ 52 10) x5)) x2 x3 x4 (x5 + 1) x6))))
def Es_mergeRuns_9 (N : Nat)  (π : Sh)  : Nat → St → Int → Int → Int → Int → Int → Option St
  | 0, _, _, _, _, _, _ => none
  | n + 1, σ, x2, x3, x4, x5, x6 => grd (i32 x6) (
 grd (i32 x3) (
 if x6 < x3 then
 grd (i32 x5) (
 if x5 < x3 then
 grd (i32 x4) (
 grd (i32 x2) (
 if x4 < x2 then
 grd (ob π (fl σ 52 10) 23) (
 grd (ina π (fl σ 52 10) x4) (
 grd (ina π (fl σ 52 10) x5) (
 grd (i64 (el σ (fl σ 52 10) x4)) (
 grd (i64 (el σ (fl σ 52 10) x5)) (
 if (el σ (fl σ 52 10) x4) < (el σ (fl σ 52 10) x5) then
 Es_mergeRuns_45 N π (Es_mergeRuns_9 N π n) σ x2 x3 x4 x5 x6
 else
 Es_mergeRuns_65 N π (Es_mergeRuns_9 N π n) σ x2 x3 x4 x5 x6)))))
 else
 Es_mergeRuns_65 N π (Es_mergeRuns_9 N π n) σ x2 x3 x4 x5 x6))
 else
 Es_mergeRuns_45 N π (Es_mergeRuns_9 N π n) σ x2 x3 x4 x5 x6)
 else
 some σ))
def Es_mergeRuns (N : Nat)  (π : Sh) (σ : St) (x1 : Int) (x2 : Int) (x3 : Int) : Option St := Es_mergeRuns_9 N π N σ x2 x3 x1 x2 x1
def Es_runEnd_33 (N : Nat)  (π : Sh)  (σ : St) (x2 : Int) (x3 : Int) : Option (St × Int) := grd (i32 x3) (
 grd (i32 x2) (
 some (σ, (min x3 x2))))
def Es_runEnd_4 (N : Nat)  (π : Sh)  : Nat → St → Int → Int → Option (St × Int)
  | 0, _, _, _ => none
  | n + 1, σ, x2, x3 => grd (i32 x3) (
 grd (i32 x2) (
 if x3 < x2 then
 grd (ob π (fl σ 52 10) 23) (
 grd (ina π (fl σ 52 10) (x3 - 1)) (
 grd (ina π (fl σ 52 10) x3) (
 grd (i64 (el σ (fl σ 52 10) (x3 - 1))) (
 grd (i64 (el σ (fl σ 52 10) x3)) (
 if (el σ (fl σ 52 10) (x3 - 1)) < (el σ (fl σ 52 10) x3) then
 (Es_runEnd_4 N π n) σ x2 (x3 + 1)
 else
 Es_runEnd_33 N π σ x2 x3)))))
 else
 Es_runEnd_33 N π σ x2 x3))
def Es_runEnd (N : Nat)  (π : Sh) (σ : St) (x1 : Int) (x2 : Int) : Option (St × Int) := bnd (x1 + 1) (fun v1 =>
 Es_runEnd_4 N π N σ x2 v1)
def Es_mergePass_34 (N : Nat)  (π : Sh) (rec4 : St → Int → Int → Int → Option (St × Int)) (σ : St) (x1 : Int) (x2 : Int) (x3 : Int) (x4 : Int) : Option (St × Int) := Option.bind (Es_runEnd N π σ x4 x1) (fun r13 =>
 Option.bind (Es_mergeRuns N π r13.1 x2 x4 r13.2) (fun r17 =>
 rec4 r17 x1 r13.2 (x3 + 1)))
def Es_mergePass_61 (N : Nat)  (π : Sh)  (σ : St)  : Option (St × Int) := some ((sf (sf σ 53 10 (fl σ 52 10)) 52 10 (fl σ 53 10)), 0)
def Es_mergePass_4 (N : Nat)  (π : Sh)  : Nat → St → Int → Int → Int → Option (St × Int)
  | 0, _, _, _, _ => none
  | n + 1, σ, x1, x2, x3 => grd (i32 x3) (
 grd (i32 x1) (
 if x3 < x1 then
 grd (i32 x2) (
 if x2 < x1 then
 Option.bind (Es_runEnd N π σ x2 x1) (fun r6 =>
 if x2 = 0 then
 grd (i32 r6.2) (
 if r6.2 = x1 then
 some (r6.1, 1)
 else
 Es_mergePass_34 N π (Es_mergePass_4 N π n) r6.1 x1 x2 x3 r6.2)
 else
 Es_mergePass_34 N π (Es_mergePass_4 N π n) r6.1 x1 x2 x3 r6.2)
 else
 Es_mergePass_61 N π σ)
 else
 Es_mergePass_61 N π σ))
def Es_mergePass (N : Nat)  (π : Sh) (σ : St) (x1 : Int) : Option (St × Int) := Es_mergePass_4 N π N σ x1 0 0
def Es_takeValue (N : Nat)  (π : Sh) (σ : St) (x1 : Int) (x2 : Int) : Option St := grd (inb x2 1024) (
 grd (inb x1 6000) (
 grd (isZ (el σ 18 x2)) (
 some (se (se (se σ 13 x1 (el σ 19 x2)) 14 x1 (el σ 17 x2)) 15 x1 (el σ 18 x2)))))
def Es_sort_88 (N : Nat)  (π : Sh)  : Nat → St → Int → Int → Int → Option St
  | 0, _, _, _, _ => none
  | n + 1, σ, x1, x2, x3 => grd (i32 x3) (
 grd (i32 x2) (
 if x3 < x2 then
 grd (ob π (fl σ 52 10) 23) (
 grd (ina π (fl σ 52 10) x3) (
 grd (i64 (el σ (fl σ 52 10) x3)) (
 bnd (Int.tmod (el σ (fl σ 52 10) x3) 1024) (fun v35 =>
 grd (inb v35 1024) (
 grd (inb (x1 + x3) 6000) (
 bnd (se (se σ 11 (x1 + x3) (el σ 20 v35)) 12 (x1 + x3) (el σ 21 v35)) (fun σ39 =>
 Option.bind (Es_takeValue N π σ39 (x1 + x3) v35) (fun r42 =>
 (Es_sort_88 N π n) r42 x1 x2 (x3 + 1)))))))))
 else
 some σ))
def Es_sort_80 (N : Nat)  (π : Sh)  (σ : St) (x1 : Int) (x2 : Int) : Option St := Option.bind (Es_copyToSpare N π σ x1 x2) (fun r25 =>
 Es_sort_88 N π N r25 x1 x2 0)
def Es_sort_59 (N : Nat)  (π : Sh)  : Nat → St → Int → Int → Int → Option St
  | 0, _, _, _, _ => none
  | n + 1, σ, x1, x2, x3 => grd (i32 x3) (
 if x3 < 1024 then
 Option.bind (Es_mergePass N π σ x2) (fun r19 =>
 grd (i32 r19.2) (
 if r19.2 = 0 then
 (Es_sort_59 N π n) r19.1 x1 x2 (x3 + 1)
 else
 Es_sort_80 N π r19.1 x1 x2))
 else
 Es_sort_80 N π σ x1 x2)
def Es_sort_25 (N : Nat)  (π : Sh)  : Nat → St → Int → Int → Int → Option St
  | 0, _, _, _, _ => none
  | n + 1, σ, x1, x2, x3 => grd (i32 x3) (
 grd (i32 x2) (
 if x3 < x2 then
 grd (inb (x1 + x3) 6000) (
 grd (ob π (fl σ 52 10) 23) (
 grd (ina π (fl σ 52 10) x3) (
 (Es_sort_25 N π n) (se σ (fl σ 52 10) x3 (((el σ 11 (x1 + x3)) * 1024) + x3)) x1 x2 (x3 + 1))))
 else
 Es_sort_59 N π N σ x1 x2 0))
def Es_sort (N : Nat)  (π : Sh) (σ : St) (x1 : Int) : Option St := bnd ((fl σ 46 10) - x1) (fun v1 =>
 grd (i32 v1) (
 if (1024 : Int) < v1 then
 some σ
 else
 Option.bind (Es_isSorted N π σ x1) (fun r5 =>
 grd (i32 r5.2) (
 if r5.2 = 0 then
 Es_sort_25 N π N r5.1 x1 v1 0
 else
 some r5.1))))
def Es_rotateValues_28 (N : Nat)  (π : Sh)  : Nat → St → Int → Int → Int → Int → Option St
  | 0, _, _, _, _, _ => none
  | n + 1, σ, x1, x2, x3, x4 => grd (i32 x4) (
 grd (i32 x3) (
 if x4 < x3 then
 grd (i32 (x4 + x2)) (
 grd (¬ x3 = 0) (
 Option.bind (Es_takeValue N π σ (x1 + x4) (Int.tmod (x4 + x2) x3)) (fun r15 =>
 (Es_rotateValues_28 N π n) r15 x1 x2 x3 (x4 + 1))))
 else
 some σ))
def Es_rotateValues (N : Nat)  (π : Sh) (σ : St) (x1 : Int) (x2 : Int) : Option St := bnd ((fl σ 46 10) - x1) (fun v1 =>
 grd (i32 v1) (
 if v1 = 0 then
 some σ
 else
 if (1024 : Int) < v1 then
 some σ
 else
 Option.bind (Es_copyToSpare N π σ x1 v1) (fun r6 =>
 Es_rotateValues_28 N π N r6 x1 x2 v1 0)))
def Ka_move (N : Nat)  (π : Sh) (σ : St) (x1 : Int) (x2 : Int) : Option St := grd (i32 x2) (
 if x2 < 400 then
 grd (inb x1 400) (
 grd (inb x2 400) (
 grd (isZ (el σ 32 x1)) (
 some (se (se (se (se (se (se (se (se σ 25 x2 (el σ 25 x1)) 26 x2 (el σ 26 x1)) 27 x2 (el σ 27 x1)) 28 x2 (el σ 28 x1)) 29 x2 (el σ 29 x1)) 30 x2 (el σ 30 x1)) 31 x2 (el σ 31 x1)) 32 x2 (el σ 32 x1)))))
 else
 some σ)
def Kh_move (N : Nat)  (π : Sh) (σ : St) (x1 : Int) (x2 : Int) : Option St := grd (i32 x2) (
 if x2 < 400 then
 grd (inb x1 400) (
 grd (inb x2 400) (
 grd (isZ (el σ 41 x1)) (
 some (se (se (se (se (se (se (se (se σ 34 x2 (el σ 34 x1)) 35 x2 (el σ 35 x1)) 36 x2 (el σ 36 x1)) 37 x2 (el σ 37 x1)) 38 x2 (el σ 38 x1)) 39 x2 (el σ 39 x1)) 40 x2 (el σ 40 x1)) 41 x2 (el σ 41 x1)))))
 else
 some σ)
def Ka_take (N : Nat)  (π : Sh) (σ : St) (x1 : Int) (x2 : Int) (x3 : Int) : Option St := grd (i32 x3) (
 if x3 < 400 then
 grd (ob π x1 2) (
 grd (inb x2 6000) (
 grd (inb x3 400) (
 grd (isZ (el σ 15 x2)) (
 some (se (se (se (se (se σ 27 x3 (el σ 11 x2)) 28 x3 (el σ 12 x2)) 30 x3 (el σ 13 x2)) 31 x3 (el σ 14 x2)) 32 x3 (el σ 15 x2))))))
 else
 some σ)
def Kh_take (N : Nat)  (π : Sh) (σ : St) (x1 : Int) (x2 : Int) (x3 : Int) : Option St := grd (i32 x3) (
 if x3 < 400 then
 grd (ob π x1 2) (
 grd (inb x2 6000) (
 grd (inb x3 400) (
 grd (isZ (el σ 15 x2)) (
 some (se (se (se (se (se σ 36 x3 (el σ 11 x2)) 37 x3 (el σ 12 x2)) 39 x3 (el σ 13 x2)) 40 x3 (el σ 14 x2)) 41 x3 (el σ 15 x2))))))
 else
 some σ)
def Ka_merge_136 (N : Nat)  (π : Sh) (rec29 : St → Int → Int → Int → Int → Int → Int → Int → Int → Option St) (σ : St) (x1 : Int) (x2 : Int) (x4 : Int) (x5 : Int) (x6 : Int) (x7 : Int) (x8 : Int) (x9 : Int) : Option St := rec29 σ x1 x2 x4 x5 x6 x7 x8 (x9 + (-1))
def Ka_merge_133 (N : Nat)  (π : Sh) (rec29 : St → Int → Int → Int → Int → Int → Int → Int → Int → Option St) (σ : St) (x1 : Int) (x2 : Int) (x4 : Int) (x5 : Int) (x6 : Int) (x7 : Int) (x8 : Int) (x9 : Int) : Option St := Ka_merge_136 N π rec29 σ x1 x2 x4 x5 x6 x7 (x8 + (-1)) x9
def Ka_merge_90 (N : Nat)  (π : Sh) (rec29 : St → Int → Int → Int → Int → Int → Int → Int → Int → Option St) (σ : St) (x1 : Int) (x2 : Int) (x4 : Int) (x5 : Int) (x6 : Int) (x7 : Int) (x8 : Int) (x9 : Int) : Option St := Option.bind (Ka_take N π σ x1 x8 x9) (fun r27 =>
 grd (i32 x9) (
 if x9 < 400 then
 grd (inb x9 400) (
 Ka_merge_133 N π rec29 (se (se (se r27 29 x9 x2) 25 x9 x4) 26 x9 x5) x1 x2 x4 x5 x6 x7 x8 x9)
 else
 Ka_merge_133 N π rec29 r27 x1 x2 x4 x5 x6 x7 x8 x9))
def Ka_merge_142 (N : Nat)  (π : Sh)  (σ : St) (x1 : Int) : Option St := grd (ob π x1 2) (
 grd (i32 ((fl σ 68 24) + (fl σ 46 x1))) (
 some (sf σ 68 24 (min 400 ((fl σ 68 24) + (fl σ 46 x1))))))
def Ka_merge_29 (N : Nat)  (π : Sh)  : Nat → St → Int → Int → Int → Int → Int → Int → Int → Int → Option St
  | 0, _, _, _, _, _, _, _, _, _ => none
  | n + 1, σ, x1, x2, x4, x5, x6, x7, x8, x9 => grd (i32 x9) (
 grd (i32 x6) (
 if x9 < x6 then
 Ka_merge_142 N π σ x1
 else
 grd (i32 x8) (
 if x8 < 0 then
 Ka_merge_142 N π σ x1
 else
 grd (i32 x7) (
 if x7 < x6 then
 Ka_merge_90 N π (Ka_merge_29 N π n) σ x1 x2 x4 x5 x6 x7 x8 x9
 else
 grd (inb x7 400) (
 grd (ob π x1 2) (
 grd (inb x8 6000) (
 grd (i64 ((el σ 27 x7) * x2)) (
 grd (i64 ((el σ 11 x8) * (el σ 29 x7))) (
 if ((el σ 11 x8) * (el σ 29 x7)) < ((el σ 27 x7) * x2) then
 Option.bind (Ka_move N π σ x7 x9) (fun r21 =>
 Ka_merge_136 N π (Ka_merge_29 N π n) r21 x1 x2 x4 x5 x6 (x7 + (-1)) x8 x9)
 else
 Ka_merge_90 N π (Ka_merge_29 N π n) σ x1 x2 x4 x5 x6 x7 x8 x9)))))))))
def Ka_merge (N : Nat)  (π : Sh) (σ : St) (x1 : Int) (x2 : Int) (x4 : Int) (x5 : Int) (x6 : Int) : Option St := bnd ((fl σ 68 24) - 1) (fun v1 =>
 grd (ob π x1 2) (
 bnd ((fl σ 46 x1) - 1) (fun v4 =>
 bnd (((fl σ 68 24) + (fl σ 46 x1)) - 1) (fun v6 =>
 Ka_merge_29 N π N σ x1 x2 x4 x5 x6 v1 v4 v6))))
def Kh_merge_136 (N : Nat)  (π : Sh) (rec29 : St → Int → Int → Int → Int → Int → Int → Int → Int → Option St) (σ : St) (x1 : Int) (x2 : Int) (x4 : Int) (x5 : Int) (x6 : Int) (x7 : Int) (x8 : Int) (x9 : Int) : Option St := rec29 σ x1 x2 x4 x5 x6 x7 x8 (x9 + (-1))
def Kh_merge_133 (N : Nat)  (π : Sh) (rec29 : St → Int → Int → Int → Int → Int → Int → Int → Int → Option St) (σ : St) (x1 : Int) (x2 : Int) (x4 : Int) (x5 : Int) (x6 : Int) (x7 : Int) (x8 : Int) (x9 : Int) : Option St := Kh_merge_136 N π rec29 σ x1 x2 x4 x5 x6 x7 (x8 + (-1)) x9
def Kh_merge_90 (N : Nat)  (π : Sh) (rec29 : St → Int → Int → Int → Int → Int → Int → Int → Int → Option St) (σ : St) (x1 : Int) (x2 : Int) (x4 : Int) (x5 : Int) (x6 : Int) (x7 : Int) (x8 : Int) (x9 : Int) : Option St := Option.bind (Kh_take N π σ x1 x8 x9) (fun r27 =>
 grd (i32 x9) (
 if x9 < 400 then
 grd (inb x9 400) (
 Kh_merge_133 N π rec29 (se (se (se r27 38 x9 x2) 34 x9 x4) 35 x9 x5) x1 x2 x4 x5 x6 x7 x8 x9)
 else
 Kh_merge_133 N π rec29 r27 x1 x2 x4 x5 x6 x7 x8 x9))
def Kh_merge_142 (N : Nat)  (π : Sh)  (σ : St) (x1 : Int) : Option St := grd (ob π x1 2) (
 grd (i32 ((fl σ 68 33) + (fl σ 46 x1))) (
 some (sf σ 68 33 (min 400 ((fl σ 68 33) + (fl σ 46 x1))))))
def Kh_merge_29 (N : Nat)  (π : Sh)  : Nat → St → Int → Int → Int → Int → Int → Int → Int → Int → Option St
  | 0, _, _, _, _, _, _, _, _, _ => none
  | n + 1, σ, x1, x2, x4, x5, x6, x7, x8, x9 => grd (i32 x9) (
 grd (i32 x6) (
 if x9 < x6 then
 Kh_merge_142 N π σ x1
 else
 grd (i32 x8) (
 if x8 < 0 then
 Kh_merge_142 N π σ x1
 else
 grd (i32 x7) (
 if x7 < x6 then
 Kh_merge_90 N π (Kh_merge_29 N π n) σ x1 x2 x4 x5 x6 x7 x8 x9
 else
 grd (inb x7 400) (
 grd (ob π x1 2) (
 grd (inb x8 6000) (
 grd (i64 ((el σ 36 x7) * x2)) (
 grd (i64 ((el σ 11 x8) * (el σ 38 x7))) (
 if ((el σ 11 x8) * (el σ 38 x7)) < ((el σ 36 x7) * x2) then
 Option.bind (Kh_move N π σ x7 x9) (fun r21 =>
 Kh_merge_136 N π (Kh_merge_29 N π n) r21 x1 x2 x4 x5 x6 (x7 + (-1)) x8 x9)
 else
 Kh_merge_90 N π (Kh_merge_29 N π n) σ x1 x2 x4 x5 x6 x7 x8 x9)))))))))
def Kh_merge (N : Nat)  (π : Sh) (σ : St) (x1 : Int) (x2 : Int) (x4 : Int) (x5 : Int) (x6 : Int) : Option St := bnd ((fl σ 68 33) - 1) (fun v1 =>
 grd (ob π x1 2) (
 bnd ((fl σ 46 x1) - 1) (fun v4 =>
 bnd (((fl σ 68 33) + (fl σ 46 x1)) - 1) (fun v6 =>
 Kh_merge_29 N π N σ x1 x2 x4 x5 x6 v1 v4 v6))))
def Pt_gcd_45 (N : Nat)    (x4 : Int) : Option Int := grd (i64 x4) (
 if x4 = 0 then
 some 1
 else
 some x4)
def Pt_gcd_9 (N : Nat)    : Nat → Int → Int → Int → Option Int
  | 0, _, _, _ => none
  | n + 1, x4, x6, x8 => grd (i32 x8) (
 if x8 < 200 then
 grd (i64 x6) (
 if x6 = 0 then
 Pt_gcd_45 N x4
 else
 grd (i64 x4) (
 grd (¬ x6 = 0) (
 bnd (Int.tmod x4 x6) (fun v7 =>
 (Pt_gcd_9 N n) x6 v7 (x8 + 1)))))
 else
 Pt_gcd_45 N x4)
def Pt_gcd (N : Nat)  (x0 : Int) (x2 : Int) : Option Int := Pt_gcd_9 N N x0 x2 0
def Ka_time_49 (N : Nat)  (π : Sh)  (σ : St) (x5 : Int) (s0 : Int) : Option (St × Int) := grd (i64 s0) (
 grd (i64 x5) (
 grd (¬ x5 = 0) (
 some (σ, (Int.tdiv s0 x5)))))
def Ka_time_20 (N : Nat)  (π : Sh)  (σ : St) (x1 : Int) (x2 : Int) (s0 : Int) : Option (St × Int) := grd (inb x1 400) (
 Option.bind (Pt_gcd N s0 (el σ 29 x1)) (fun r6 =>
 grd (i32 x2) (
 grd (i32 (Int.tmod x2 2)) (
 if (Int.tmod x2 2) = 0 then
 Ka_time_49 N π σ r6 s0
 else
 Ka_time_49 N π σ r6 (el σ 29 x1)))))
def Ka_time (N : Nat)  (π : Sh) (σ : St) (x1 : Int) (x2 : Int) : Option (St × Int) := grd (i32 x2) (
 if x2 < 2 then
 grd (inb x1 400) (
 Ka_time_20 N π σ x1 x2 (el σ 27 x1))
 else
 grd (inb x1 400) (
 Ka_time_20 N π σ x1 x2 (el σ 28 x1)))
def Kh_time_49 (N : Nat)  (π : Sh)  (σ : St) (x5 : Int) (s0 : Int) : Option (St × Int) := grd (i64 s0) (
 grd (i64 x5) (
 grd (¬ x5 = 0) (
 some (σ, (Int.tdiv s0 x5)))))
def Kh_time_20 (N : Nat)  (π : Sh)  (σ : St) (x1 : Int) (x2 : Int) (s0 : Int) : Option (St × Int) := grd (inb x1 400) (
 Option.bind (Pt_gcd N s0 (el σ 38 x1)) (fun r6 =>
 grd (i32 x2) (
 grd (i32 (Int.tmod x2 2)) (
 if (Int.tmod x2 2) = 0 then
 Kh_time_49 N π σ r6 s0
 else
 Kh_time_49 N π σ r6 (el σ 38 x1)))))
def Kh_time (N : Nat)  (π : Sh) (σ : St) (x1 : Int) (x2 : Int) : Option (St × Int) := grd (i32 x2) (
 if x2 < 2 then
 grd (inb x1 400) (
 Kh_time_20 N π σ x1 x2 (el σ 36 x1))
 else
 grd (inb x1 400) (
 Kh_time_20 N π σ x1 x2 (el σ 37 x1)))
def Ks_lettersOf_2 (N : Nat)    : Nat → Int → Int → Option Int
  | 0, _, _ => none
  | n + 1, x0, x2 => grd (i32 x2) (
 if x2 < 8 then
 grd (i64 (land (lushr x0 (8 * x2)) 255)) (
 if (land (lushr x0 (8 * x2)) 255) = 0 then
 some x2
 else
 (Ks_lettersOf_2 N n) x0 (x2 + 1))
 else
 some x2)
def Ks_lettersOf (N : Nat)  (x0 : Int) : Option Int := Ks_lettersOf_2 N N x0 0
def Ka_letterAt (N : Nat)  (π : Sh) (σ : St) (x1 : Int) (x2 : Int) : Option (St × Int) := grd (i32 x1) (
 if x1 < 0 then
 some (σ, (-1))
 else
 grd (i32 (fl σ 68 24)) (
 if x1 < (fl σ 68 24) then
 grd (i32 x2) (
 if x2 < 0 then
 some (σ, (-1))
 else
 grd (inb x1 400) (
 Option.bind (Ks_lettersOf N (el σ 30 x1)) (fun r8 =>
 grd (i32 r8) (
 if x2 < r8 then
 some (σ, (land (lushr (el σ 30 x1) (8 * x2)) 255))
 else
 some (σ, (-1))))))
 else
 some (σ, (-1))))
def Kh_letterAt (N : Nat)  (π : Sh) (σ : St) (x1 : Int) (x2 : Int) : Option (St × Int) := grd (i32 x1) (
 if x1 < 0 then
 some (σ, (-1))
 else
 grd (i32 (fl σ 68 33)) (
 if x1 < (fl σ 68 33) then
 grd (i32 x2) (
 if x2 < 0 then
 some (σ, (-1))
 else
 grd (inb x1 400) (
 Option.bind (Ks_lettersOf N (el σ 39 x1)) (fun r8 =>
 grd (i32 r8) (
 if x2 < r8 then
 some (σ, (land (lushr (el σ 39 x1) (8 * x2)) 255))
 else
 some (σ, (-1))))))
 else
 some (σ, (-1))))
def Mk_restart (N : Nat)  (π : Sh) (σ : St)  : Option St := some (sf (sf (sf σ 87 3 0) 88 3 0) 89 3 0)
def Mk_fail (N : Nat)  (π : Sh) (σ : St) (x1 : Int) (x2 : Int) : Option St := some (sf (sf σ 88 3 x1) 89 3 x2)
def Mk_operand_44 (N : Nat)  (π : Sh)  (σ : St) (s0 : Int) : Option (St × Int) := some (σ, s0)
def Mk_operand_74 (N : Nat)  (π : Sh)  (σ : St) (s0 : Int) : Option (St × Int) := some (σ, s0)
def Mk_operand (N : Nat)  (π : Sh) (σ : St) (x1 : Int) : Option (St × Int) := grd (inb (fl σ 85 3) 13) (
 bnd (el σ 6 (fl σ 85 3)) (fun v2 =>
 grd (i32 x1) (
 if x1 < 0 then
 grd (ob π v2 1) (
 Option.bind (L_size π σ (fl σ 24 v2)) (fun r12 =>
 grd (ob π (fl σ 24 v2) 0) (
 grd (i32 (-x1)) (
 grd (i32 r12.2) (
 if r12.2 < (-x1) then
 Mk_operand_44 N π r12.1 (-1)
 else
 Option.bind (L_get π r12.1 (fl r12.1 24 v2) ((-x1) - 1)) (fun r20 =>
 grd (ob π (fl r12.1 24 v2) 0) (
 grd (ob π r20.2 5) (
 Mk_operand_44 N π r20.1 r20.2))))))))
 else
 bnd ((el σ 7 (fl σ 85 3)) + x1) (fun v6 =>
 grd (i32 v6) (
 if v6 < 512 then
 grd (inb v6 512) (
 Mk_operand_74 N π σ (el σ 5 v6))
 else
 Mk_operand_74 N π σ (-1))))))
def Mk_begin_92 (N : Nat)  (π : Sh)  (σ : St) (x1 : Int) (x2 : Int) (x3 : Int) : Option St := grd (ob π x1 10) (
 grd (inb ((fl σ 85 3) + 1) 13) (
 grd ((fl σ 208 x1) < 0 ∨ ob π (fl σ 208 x1) 1) (
 some (se (se (se (sf (sf σ 86 3 x3) 85 3 ((fl σ 85 3) + 1)) 6 ((fl σ 85 3) + 1) (fl σ 208 x1)) 7 ((fl σ 85 3) + 1) x2) 8 ((fl σ 85 3) + 1) 0))))
def Mk_begin_47 (N : Nat)  (π : Sh)  : Nat → St → Int → Int → Int → Int → Option St
  | 0, _, _, _, _, _ => none
  | n + 1, σ, x1, x2, x3, x4 => grd (ob π x1 10) (
 grd (i32 x4) (
 grd (i32 (fl σ 209 x1)) (
 if x4 < (fl σ 209 x1) then
 grd (i32 (x2 + x4)) (
 if (x2 + x4) < 512 then
 grd (ob π (fl σ 210 x1) 22) (
 grd (ina π (fl σ 210 x1) x4) (
 Option.bind (Mk_operand N π σ (el σ (fl σ 210 x1) x4)) (fun r21 =>
 grd (inb (x2 + x4) 512) (
 grd (r21.2 < 0 ∨ ob π r21.2 5) (
 (Mk_begin_47 N π n) (se r21.1 5 (x2 + x4) r21.2) x1 x2 x3 (x4 + 1))))))
 else
 Mk_begin_92 N π σ x1 x2 x3)
 else
 Mk_begin_92 N π σ x1 x2 x3)))
def Mk_begin (N : Nat)  (π : Sh) (σ : St) (x1 : Int) (x2 : Int) (x3 : Int) : Option St := grd (i32 (fl σ 85 3)) (
 if (fl σ 85 3) < 12 then
 grd (i32 (fl σ 87 3)) (
 if (fl σ 87 3) < 200 then
 Mk_begin_47 N π N (sf σ 87 3 ((fl σ 87 3) + 1)) x1 x2 x3 0
 else
 Option.bind (Mk_fail N π σ 5 x3) (fun r5 =>
 some r5))
 else
 Option.bind (Mk_fail N π σ 10 x3) (fun r9 =>
 some r9))
def Pt_excess (N : Nat)  (π : Sh) (σ : St) (x0 : Int) : Option (St × Int) := grd (ob π x0 5) (
 grd (i64 (fl σ 102 x0)) (
 if (1000000 : Int) < (fl σ 102 x0) then
 some (σ, 6)
 else
 grd (i64 (fl σ 103 x0)) (
 if (400 : Int) < (fl σ 103 x0) then
 some (σ, 7)
 else
 grd (i64 (fl σ 104 x0)) (
 if (64 : Int) < (fl σ 104 x0) then
 some (σ, 8)
 else
 grd (i64 (fl σ 105 x0)) (
 if (50000 : Int) < (fl σ 105 x0) then
 some (σ, 9)
 else
 grd (i32 (fl σ 106 x0)) (
 if (60 : Int) < (fl σ 106 x0) then
 some (σ, 10)
 else
 some (σ, 0)))))))
def Pt_init (N : Nat)  (π : Sh) (σ : St) (x0 : Int) (x1 : Int) (x2 : Int) : Option St := grd (ob π x0 5) (
 some (sf (sf (sf (sf (sf (sf (sf σ 102 x0 1) 103 x0 0) 104 x0 1) 105 x0 1) 106 x0 1) 100 x0 x1) 101 x0 x2))
def Pt_bounds (N : Nat)  (π : Sh) (σ : St) (x0 : Int) (x1 : Int) (x3 : Int) (x5 : Int) (x7 : Int) : Option St := grd (ob π x0 5) (
 some (sf (sf (sf (sf σ 102 x0 x1) 103 x0 x3) 104 x0 x5) 105 x0 x7))
def Pt_repeatsOf_22 (N : Nat)  (π : Sh)  (σ : St)  : Option (St × Int) := some (σ, 1)
def Pt_repeatsOf (N : Nat)  (π : Sh) (σ : St) (x0 : Int) (x1 : Int) : Option (St × Int) := grd (ob π x0 5) (
 grd (ob π (fl σ 100 x0) 10) (
 if (fl σ 212 (fl σ 100 x0)) < 0 then
 Pt_repeatsOf_22 N π σ
 else
 grd (ob π (fl σ 212 (fl σ 100 x0)) 22) (
 grd (0 ≤ ln π (fl σ 212 (fl σ 100 x0))) (
 grd (i32 x1) (
 grd (i32 (ln π (fl σ 212 (fl σ 100 x0)))) (
 if x1 < (ln π (fl σ 212 (fl σ 100 x0))) then
 grd (ina π (fl σ 212 (fl σ 100 x0)) x1) (
 grd (i32 (el σ (fl σ 212 (fl σ 100 x0)) x1)) (
 some (σ, (el σ (fl σ 212 (fl σ 100 x0)) x1))))
 else
 Pt_repeatsOf_22 N π σ))))))
def Pt_crowdOfAll_4 (N : Nat)  (π : Sh)  : Nat → St → Int → Int → Int → Option (St × Int)
  | 0, _, _, _, _ => none
  | n + 1, σ, x0, x1, x3 => grd (ob π x0 5) (
 grd (ob π (fl σ 101 x0) 26) (
 grd (0 ≤ ln π (fl σ 101 x0)) (
 grd (i32 x3) (
 grd (i32 (ln π (fl σ 101 x0))) (
 if x3 < (ln π (fl σ 101 x0)) then
 Option.bind (Pt_repeatsOf N π σ x0 x3) (fun r7 =>
 grd (ob π (fl r7.1 101 x0) 26) (
 grd (ina π (fl r7.1 101 x0) x3) (
 grd (ob π (el r7.1 (fl r7.1 101 x0) x3) 5) (
 bnd (x1 + (r7.2 * (fl r7.1 103 (el r7.1 (fl r7.1 101 x0) x3)))) (fun v14 =>
 (Pt_crowdOfAll_4 N π n) r7.1 x0 v14 (x3 + 1))))))
 else
 some (σ, x1))))))
def Pt_crowdOfAll (N : Nat)  (π : Sh) (σ : St) (x0 : Int) : Option (St × Int) := Pt_crowdOfAll_4 N π N σ x0 0 0
def Pt_lcm (N : Nat)  (x0 : Int) (x2 : Int) : Option Int := Option.bind (Pt_gcd N x0 x2) (fun r1 =>
 grd (i64 x0) (
 grd (i64 r1) (
 grd (¬ r1 = 0) (
 some ((Int.tdiv x0 r1) * x2)))))
def Pt_lcmOfAll_4 (N : Nat)  (π : Sh)  : Nat → St → Int → Int → Int → Option (St × Int)
  | 0, _, _, _, _ => none
  | n + 1, σ, x0, x1, x3 => grd (ob π x0 5) (
 grd (ob π (fl σ 101 x0) 26) (
 grd (0 ≤ ln π (fl σ 101 x0)) (
 grd (i32 x3) (
 grd (i32 (ln π (fl σ 101 x0))) (
 if x3 < (ln π (fl σ 101 x0)) then
 grd (i64 x1) (
 if (1000000 : Int) < x1 then
 some (σ, x1)
 else
 grd (ina π (fl σ 101 x0) x3) (
 grd (ob π (el σ (fl σ 101 x0) x3) 5) (
 Option.bind (Pt_lcm N x1 (fl σ 102 (el σ (fl σ 101 x0) x3))) (fun r11 =>
 (Pt_lcmOfAll_4 N π n) σ x0 r11 (x3 + 1)))))
 else
 some (σ, x1))))))
def Pt_lcmOfAll (N : Nat)  (π : Sh) (σ : St) (x0 : Int) : Option (St × Int) := Pt_lcmOfAll_4 N π N σ x0 1 0
def Pt_measureMeeting (N : Nat)  (π : Sh) (σ : St) (x0 : Int) (x1 : Int) (x2 : Int) : Option St := grd (ob π x1 5) (
 grd (ob π x2 5) (
 Option.bind (Pt_bounds N π σ x0 (fl σ 102 x1) (fl σ 103 x1) (fl σ 104 x1) (((fl σ 105 x1) + (((fl σ 103 x1) * ((fl σ 104 x2) + 1)) * (fl σ 105 x2))) + 1)) (fun r3 =>
 grd (ob π x0 5) (
 some r3))))
def Pt_spanLower (N : Nat)  (π : Sh) (σ : St) (x0 : Int) : Option (St × Int) := grd (ob π x0 5) (
 grd (ob π (fl σ 100 x0) 10) (
 grd (i32 (fl σ 204 (fl σ 100 x0))) (
 grd (i32 (fl σ 203 (fl σ 100 x0))) (
 grd (i32 (fl σ 202 (fl σ 100 x0))) (
 grd (i32 (fl σ 205 (fl σ 100 x0))) (
 bnd (((fl σ 204 (fl σ 100 x0)) * (fl σ 203 (fl σ 100 x0))) - ((fl σ 202 (fl σ 100 x0)) * (fl σ 205 (fl σ 100 x0)))) (fun v7 =>
 bnd ((fl σ 203 (fl σ 100 x0)) * (fl σ 205 (fl σ 100 x0))) (fun v9 =>
 Option.bind (Pt_gcd N v7 v9) (fun r11 =>
 grd (i64 v9) (
 grd (i64 r11) (
 grd (¬ r11 = 0) (
 some (σ, (Int.tdiv v9 r11))))))))))))))
def M_floorDiv (N : Nat)  (x0 : Int) (x2 : Int) : Option Int := grd (i64 x0) (
 grd (i64 x2) (
 grd (¬ x2 = 0) (
 bnd (Int.tdiv x0 x2) (fun v4 =>
 grd (i64 (lxor x0 x2)) (
 if (lxor x0 x2) < 0 then
 grd (i64 (v4 * x2)) (
 if (v4 * x2) = x0 then
 some v4
 else
 some (v4 - 1))
 else
 some v4)))))
def Rw_ceiling (N : Nat)  (x0 : Int) (x2 : Int) : Option Int := grd (i64 x2) (
 if x2 = 0 then
 some 0
 else
 Option.bind (M_floorDiv N (-x0) x2) (fun r3 =>
 some (-r3)))
def Pt_measureOfOne_162 (N : Nat)  (π : Sh)  (σ : St) (x0 : Int) (x1 : Int) (x2 : Int) (x4 : Int) (s0 : Int) (s1 : Int) : Option St := grd (i32 s0) (
 bnd (s1 + s0) (fun v130 =>
 grd (ob π x1 5) (
 Option.bind (Rw_ceiling N ((fl σ 104 x1) * x4) x2) (fun r133 =>
 Option.bind (Pt_bounds N π σ x0 (x2 * (fl σ 102 x1)) (v130 * (fl σ 103 x1)) r133 ((v130 * (fl σ 105 x1)) + 1)) (fun r135 =>
 grd (ob π x0 5) (
 some r135))))))
def Pt_measureOfOne_220 (N : Nat)  (π : Sh)  (σ : St) (x0 : Int) (x1 : Int) (x4 : Int) (s0 : Int) : Option St := grd (ob π x1 5) (
 Option.bind (Pt_lcm N (fl σ 102 x1) x4) (fun r141 =>
 Option.bind (Pt_bounds N π σ x0 r141 (s0 * (fl σ 103 x1)) (fl σ 104 x1) ((s0 * (fl σ 105 x1)) + 1)) (fun r143 =>
 grd (ob π x0 5) (
 some r143))))
def Pt_measureOfOne (N : Nat)  (π : Sh) (σ : St) (x0 : Int) (x1 : Int) : Option St := grd (ob π x0 5) (
 grd (ob π (fl σ 100 x0) 10) (
 grd (i32 (fl σ 202 (fl σ 100 x0))) (
 bnd (fl σ 202 (fl σ 100 x0)) (fun v4 =>
 grd (i32 (fl σ 203 (fl σ 100 x0))) (
 bnd (fl σ 203 (fl σ 100 x0)) (fun v7 =>
 grd (i32 (fl σ 200 (fl σ 100 x0))) (
 if (fl σ 200 (fl σ 100 x0)) = 7 then
 grd (ob π x1 5) (
 Option.bind (Pt_bounds N π σ x0 (v7 * (fl σ 102 x1)) (v4 * (fl σ 103 x1)) (fl σ 104 x1) ((v4 * (fl σ 105 x1)) + 1)) (fun r12 =>
 some r12))
 else (if (fl σ 200 (fl σ 100 x0)) = 8 then
 grd (ob π x1 5) (
 Option.bind (Pt_bounds N π σ x0 (fl σ 102 x1) (fl σ 103 x1) (fl σ 104 x1) ((fl σ 105 x1) + 1)) (fun r18 =>
 some r18))
 else (if (fl σ 200 (fl σ 100 x0)) = 9 then
 Option.bind (Rw_ceiling N v4 v7) (fun r23 =>
 grd (i64 v7) (
 if v7 = 1 then
 Pt_measureOfOne_162 N π σ x0 x1 v4 v7 0 r23
 else
 Pt_measureOfOne_162 N π σ x0 x1 v4 v7 1 r23))
 else (if (fl σ 200 (fl σ 100 x0)) = 10 then
 grd (i64 v7) (
 if v7 = 1 then
 Pt_measureOfOne_220 N π σ x0 x1 v7 1
 else
 Pt_measureOfOne_220 N π σ x0 x1 v7 2)
 else (if (fl σ 200 (fl σ 100 x0)) = 11 then
 grd (ob π x1 5) (
 Option.bind (Pt_bounds N π σ x0 (fl σ 102 x1) (fl σ 103 x1) 1 ((fl σ 105 x1) + 1)) (fun r32 =>
 some r32))
 else (if (fl σ 200 (fl σ 100 x0)) = 12 then
 grd (ob π x1 5) (
 Option.bind (Pt_bounds N π σ x0 (fl σ 102 x1) (fl σ 103 x1) (fl σ 104 x1) ((fl σ 105 x1) + 1)) (fun r38 =>
 some r38))
 else (if (fl σ 200 (fl σ 100 x0)) = 13 then
 grd (ob π x1 5) (
 Option.bind (Pt_bounds N π σ x0 (fl σ 102 x1) (fl σ 103 x1) (fl σ 104 x1) ((fl σ 105 x1) + 1)) (fun r44 =>
 some r44))
 else (if (fl σ 200 (fl σ 100 x0)) = 14 then
 grd (ob π x1 5) (
 Option.bind (Pt_lcm N (fl σ 102 x1) v4) (fun r50 =>
 Option.bind (Pt_bounds N π σ x0 r50 (2 * (fl σ 103 x1)) (fl σ 104 x1) ((2 * (fl σ 105 x1)) + 1)) (fun r52 =>
 some r52)))
 else (if (fl σ 200 (fl σ 100 x0)) = 15 then
 grd (ob π x1 5) (
 bnd ((fl σ 104 x1) + 1) (fun v58 =>
 Option.bind (Pt_bounds N π σ x0 (v4 * (fl σ 102 x1)) ((v4 * (fl σ 103 x1)) * v58) (fl σ 104 x1) ((v58 * ((fl σ 105 x1) + (v4 * (fl σ 103 x1)))) + 1)) (fun r60 =>
 some r60)))
 else (if (fl σ 200 (fl σ 100 x0)) = 16 then
 grd (ob π x1 5) (
 Option.bind (Pt_bounds N π σ x0 (fl σ 102 x1) (fl σ 103 x1) (fl σ 104 x1) ((fl σ 105 x1) + 1)) (fun r66 =>
 some r66))
 else (if (fl σ 200 (fl σ 100 x0)) = 17 then
 grd (ob π x1 5) (
 Option.bind (Pt_bounds N π σ x0 (fl σ 102 x1) (fl σ 103 x1) (fl σ 104 x1) ((fl σ 105 x1) + 1)) (fun r72 =>
 some r72))
 else (if (fl σ 200 (fl σ 100 x0)) = 18 then
 grd (ob π x1 5) (
 Option.bind (Pt_bounds N π σ x0 (fl σ 102 x1) (fl σ 103 x1) (fl σ 104 x1) (((fl σ 105 x1) + (fl σ 103 x1)) + 1)) (fun r78 =>
 some r78))
 else (if (fl σ 200 (fl σ 100 x0)) = 19 then
 grd (ob π x1 5) (
 Option.bind (Pt_bounds N π σ x0 (fl σ 102 x1) (fl σ 103 x1) (fl σ 104 x1) ((fl σ 105 x1) + 1)) (fun r84 =>
 some r84))
 else (if (fl σ 200 (fl σ 100 x0)) = 20 then
 grd (ob π x1 5) (
 Option.bind (Pt_bounds N π σ x0 (fl σ 102 x1) (fl σ 103 x1) (fl σ 104 x1) ((fl σ 105 x1) + 1)) (fun r90 =>
 some r90))
 else (if (fl σ 200 (fl σ 100 x0)) = 21 then
 grd (ob π x1 5) (
 Option.bind (Pt_bounds N π σ x0 (fl σ 102 x1) (fl σ 103 x1) (fl σ 104 x1) ((fl σ 105 x1) + 1)) (fun r96 =>
 some r96))
 else (if (fl σ 200 (fl σ 100 x0)) = 22 then
 grd (ob π x1 5) (
 Option.bind (Pt_bounds N π σ x0 (fl σ 102 x1) (fl σ 103 x1) (fl σ 104 x1) ((fl σ 105 x1) + 1)) (fun r102 =>
 some r102))
 else (if (fl σ 200 (fl σ 100 x0)) = 23 then
 grd (ob π x1 5) (
 Option.bind (Pt_bounds N π σ x0 (fl σ 102 x1) (fl σ 103 x1) (fl σ 104 x1) ((fl σ 105 x1) + 1)) (fun r108 =>
 some r108))
 else (if (fl σ 200 (fl σ 100 x0)) = 24 then
 Option.bind (Pt_spanLower N π σ x0) (fun r113 =>
 grd (ob π x1 5) (
 Option.bind (Pt_lcm N v7 (r113.2 * (fl r113.1 102 x1))) (fun r118 =>
 Option.bind (Pt_bounds N π r113.1 x0 r118 (fl r113.1 103 x1) (fl r113.1 104 x1) ((fl r113.1 105 x1) + 1)) (fun r120 =>
 some r120))))
 else (grd (ob π x1 5) (
 Option.bind (Pt_bounds N π σ x0 (fl σ 102 x1) (fl σ 103 x1) (fl σ 104 x1) ((fl σ 105 x1) + 1)) (fun r125 =>
 some r125)))))))))))))))))))))))))))
def Pt_mostCrowd_4 (N : Nat)  (π : Sh)  : Nat → St → Int → Int → Int → Option (St × Int)
  | 0, _, _, _, _ => none
  | n + 1, σ, x0, x1, x3 => grd (ob π x0 5) (
 grd (ob π (fl σ 101 x0) 26) (
 grd (0 ≤ ln π (fl σ 101 x0)) (
 grd (i32 x3) (
 grd (i32 (ln π (fl σ 101 x0))) (
 if x3 < (ln π (fl σ 101 x0)) then
 grd (ina π (fl σ 101 x0) x3) (
 grd (ob π (el σ (fl σ 101 x0) x3) 5) (
 grd (i64 x1) (
 grd (i64 (fl σ 103 (el σ (fl σ 101 x0) x3))) (
 bnd (max x1 (fl σ 103 (el σ (fl σ 101 x0) x3))) (fun v11 =>
 (Pt_mostCrowd_4 N π n) σ x0 v11 (x3 + 1))))))
 else
 some (σ, x1))))))
def Pt_mostCrowd (N : Nat)  (π : Sh) (σ : St) (x0 : Int) : Option (St × Int) := Pt_mostCrowd_4 N π N σ x0 0 0
def Pt_mostReach_4 (N : Nat)  (π : Sh)  : Nat → St → Int → Int → Int → Option (St × Int)
  | 0, _, _, _, _ => none
  | n + 1, σ, x0, x1, x3 => grd (ob π x0 5) (
 grd (ob π (fl σ 101 x0) 26) (
 grd (0 ≤ ln π (fl σ 101 x0)) (
 grd (i32 x3) (
 grd (i32 (ln π (fl σ 101 x0))) (
 if x3 < (ln π (fl σ 101 x0)) then
 grd (ina π (fl σ 101 x0) x3) (
 grd (ob π (el σ (fl σ 101 x0) x3) 5) (
 grd (i64 x1) (
 grd (i64 (fl σ 104 (el σ (fl σ 101 x0) x3))) (
 bnd (max x1 (fl σ 104 (el σ (fl σ 101 x0) x3))) (fun v11 =>
 (Pt_mostReach_4 N π n) σ x0 v11 (x3 + 1))))))
 else
 some (σ, x1))))))
def Pt_mostReach (N : Nat)  (π : Sh) (σ : St) (x0 : Int) : Option (St × Int) := Pt_mostReach_4 N π N σ x0 0 0
def Pt_mostWork_4 (N : Nat)  (π : Sh)  : Nat → St → Int → Int → Int → Option (St × Int)
  | 0, _, _, _, _ => none
  | n + 1, σ, x0, x1, x3 => grd (ob π x0 5) (
 grd (ob π (fl σ 101 x0) 26) (
 grd (0 ≤ ln π (fl σ 101 x0)) (
 grd (i32 x3) (
 grd (i32 (ln π (fl σ 101 x0))) (
 if x3 < (ln π (fl σ 101 x0)) then
 grd (ina π (fl σ 101 x0) x3) (
 grd (ob π (el σ (fl σ 101 x0) x3) 5) (
 grd (i64 x1) (
 grd (i64 (fl σ 105 (el σ (fl σ 101 x0) x3))) (
 bnd (max x1 (fl σ 105 (el σ (fl σ 101 x0) x3))) (fun v11 =>
 (Pt_mostWork_4 N π n) σ x0 v11 (x3 + 1))))))
 else
 some (σ, x1))))))
def Pt_mostWork (N : Nat)  (π : Sh) (σ : St) (x0 : Int) : Option (St × Int) := Pt_mostWork_4 N π N σ x0 0 0
def Pt_workOfAll_4 (N : Nat)  (π : Sh)  : Nat → St → Int → Int → Int → Option (St × Int)
  | 0, _, _, _, _ => none
  | n + 1, σ, x0, x1, x3 => grd (ob π x0 5) (
 grd (ob π (fl σ 101 x0) 26) (
 grd (0 ≤ ln π (fl σ 101 x0)) (
 grd (i32 x3) (
 grd (i32 (ln π (fl σ 101 x0))) (
 if x3 < (ln π (fl σ 101 x0)) then
 Option.bind (Pt_repeatsOf N π σ x0 x3) (fun r7 =>
 grd (ob π (fl r7.1 101 x0) 26) (
 grd (ina π (fl r7.1 101 x0) x3) (
 grd (ob π (el r7.1 (fl r7.1 101 x0) x3) 5) (
 bnd (x1 + (r7.2 * (fl r7.1 105 (el r7.1 (fl r7.1 101 x0) x3)))) (fun v14 =>
 (Pt_workOfAll_4 N π n) r7.1 x0 v14 (x3 + 1))))))
 else
 some (σ, x1))))))
def Pt_workOfAll (N : Nat)  (π : Sh) (σ : St) (x0 : Int) : Option (St × Int) := Pt_workOfAll_4 N π N σ x0 0 0
def Pt_measure_2 (N : Nat)  (π : Sh)  : Nat → St → Int → Int → Option St
  | 0, _, _, _ => none
  | n + 1, σ, x0, x1 => grd (ob π x0 5) (
 grd (ob π (fl σ 101 x0) 26) (
 grd (0 ≤ ln π (fl σ 101 x0)) (
 grd (i32 x1) (
 grd (i32 (ln π (fl σ 101 x0))) (
 if x1 < (ln π (fl σ 101 x0)) then
 grd (ina π (fl σ 101 x0) x1) (
 grd (ob π (el σ (fl σ 101 x0) x1) 5) (
 grd (i32 (fl σ 106 x0)) (
 grd (i32 ((fl σ 106 (el σ (fl σ 101 x0) x1)) + 1)) (
 (Pt_measure_2 N π n) (sf σ 106 x0 (max (fl σ 106 x0) ((fl σ 106 (el σ (fl σ 101 x0) x1)) + 1))) x0 (x1 + 1)))))
 else
 grd (ob π (fl σ 100 x0) 10) (
 grd (i32 (fl σ 200 (fl σ 100 x0))) (
 if (fl σ 200 (fl σ 100 x0)) = 1 then
 Option.bind (Pt_bounds N π σ x0 1 1 1 1) (fun r10 =>
 some r10)
 else (if (fl σ 200 (fl σ 100 x0)) = 2 then
 Option.bind (Pt_bounds N π σ x0 1 1 1 1) (fun r15 =>
 some r15)
 else (if (fl σ 200 (fl σ 100 x0)) = 3 then
 Option.bind (Pt_bounds N π σ x0 1 0 1 1) (fun r20 =>
 some r20)
 else (if (fl σ 200 (fl σ 100 x0)) = 4 then
 grd (i32 (fl σ 202 (fl σ 100 x0))) (
 Option.bind (Pt_lcmOfAll N π σ x0) (fun r26 =>
 Option.bind (Pt_crowdOfAll N π r26.1 x0) (fun r30 =>
 Option.bind (Pt_mostReach N π r30.1 x0) (fun r34 =>
 Option.bind (Pt_workOfAll N π r34.1 x0) (fun r38 =>
 Option.bind (Pt_bounds N π r38.1 x0 ((fl σ 202 (fl σ 100 x0)) * r26.2) r30.2 r34.2 (r38.2 + 1)) (fun r42 =>
 some r42))))))
 else (if (fl σ 200 (fl σ 100 x0)) = 5 then
 Option.bind (Pt_lcmOfAll N π σ x0) (fun r47 =>
 Option.bind (Pt_mostCrowd N π r47.1 x0) (fun r51 =>
 Option.bind (Pt_mostReach N π r51.1 x0) (fun r55 =>
 Option.bind (Pt_mostWork N π r55.1 x0) (fun r59 =>
 Option.bind (Pt_bounds N π r59.1 x0 r47.2 r51.2 r55.2 (r59.2 + 1)) (fun r63 =>
 some r63)))))
 else (if (fl σ 200 (fl σ 100 x0)) = 6 then
 grd (i32 (fl σ 203 (fl σ 100 x0))) (
 Option.bind (Pt_lcmOfAll N π σ x0) (fun r69 =>
 grd (ob π (fl r69.1 100 x0) 10) (
 grd (i32 (fl r69.1 203 (fl r69.1 100 x0))) (
 Option.bind (Pt_mostCrowd N π r69.1 x0) (fun r75 =>
 Option.bind (Pt_mostReach N π r75.1 x0) (fun r79 =>
 grd (ob π (fl r79.1 100 x0) 10) (
 grd (i32 (fl r79.1 203 (fl r79.1 100 x0))) (
 Option.bind (Pt_mostWork N π r79.1 x0) (fun r85 =>
 Option.bind (Pt_bounds N π r85.1 x0 ((fl σ 203 (fl σ 100 x0)) * r69.2) ((fl r69.1 203 (fl r69.1 100 x0)) * r75.2) r79.2 (((fl r79.1 203 (fl r79.1 100 x0)) * r85.2) + 1)) (fun r89 =>
 some r89))))))))))
 else (if (fl σ 200 (fl σ 100 x0)) = 7 then
 grd (ina π (fl σ 101 x0) 0) (
 Option.bind (Pt_measureOfOne N π σ x0 (el σ (fl σ 101 x0) 0)) (fun r95 =>
 some r95))
 else (if (fl σ 200 (fl σ 100 x0)) = 8 then
 Option.bind (Pt_lcmOfAll N π σ x0) (fun r100 =>
 Option.bind (Pt_crowdOfAll N π r100.1 x0) (fun r104 =>
 Option.bind (Pt_mostReach N π r104.1 x0) (fun r108 =>
 Option.bind (Pt_workOfAll N π r108.1 x0) (fun r112 =>
 Option.bind (Pt_bounds N π r112.1 x0 r100.2 r104.2 r108.2 (r112.2 + 1)) (fun r116 =>
 some r116)))))
 else (if (fl σ 200 (fl σ 100 x0)) = 9 then
 grd (ina π (fl σ 101 x0) 0) (
 Option.bind (Pt_measureOfOne N π σ x0 (el σ (fl σ 101 x0) 0)) (fun r122 =>
 some r122))
 else (if (fl σ 200 (fl σ 100 x0)) = 10 then
 grd (ina π (fl σ 101 x0) 0) (
 Option.bind (Pt_measureOfOne N π σ x0 (el σ (fl σ 101 x0) 0)) (fun r128 =>
 some r128))
 else (if (fl σ 200 (fl σ 100 x0)) = 11 then
 grd (ina π (fl σ 101 x0) 0) (
 Option.bind (Pt_measureOfOne N π σ x0 (el σ (fl σ 101 x0) 0)) (fun r134 =>
 some r134))
 else (if (fl σ 200 (fl σ 100 x0)) = 12 then
 Option.bind (Pt_lcmOfAll N π σ x0) (fun r139 =>
 Option.bind (Pt_mostCrowd N π r139.1 x0) (fun r143 =>
 Option.bind (Pt_mostReach N π r143.1 x0) (fun r147 =>
 Option.bind (Pt_mostWork N π r147.1 x0) (fun r151 =>
 Option.bind (Pt_bounds N π r151.1 x0 r139.2 r143.2 r147.2 (r151.2 + 1)) (fun r155 =>
 some r155)))))
 else (if (fl σ 200 (fl σ 100 x0)) = 13 then
 Option.bind (Pt_lcmOfAll N π σ x0) (fun r160 =>
 Option.bind (Pt_mostCrowd N π r160.1 x0) (fun r164 =>
 Option.bind (Pt_mostReach N π r164.1 x0) (fun r168 =>
 Option.bind (Pt_mostWork N π r168.1 x0) (fun r172 =>
 Option.bind (Pt_bounds N π r172.1 x0 r160.2 r164.2 r168.2 (r172.2 + 1)) (fun r176 =>
 some r176)))))
 else (if (fl σ 200 (fl σ 100 x0)) = 14 then
 grd (ina π (fl σ 101 x0) 0) (
 Option.bind (Pt_measureOfOne N π σ x0 (el σ (fl σ 101 x0) 0)) (fun r182 =>
 some r182))
 else (if (fl σ 200 (fl σ 100 x0)) = 15 then
 grd (ina π (fl σ 101 x0) 0) (
 Option.bind (Pt_measureOfOne N π σ x0 (el σ (fl σ 101 x0) 0)) (fun r188 =>
 some r188))
 else (if (fl σ 200 (fl σ 100 x0)) = 16 then
 Option.bind (Pt_lcmOfAll N π σ x0) (fun r193 =>
 Option.bind (Pt_crowdOfAll N π r193.1 x0) (fun r197 =>
 Option.bind (Pt_mostReach N π r197.1 x0) (fun r201 =>
 Option.bind (Pt_workOfAll N π r201.1 x0) (fun r205 =>
 Option.bind (Pt_bounds N π r205.1 x0 r193.2 r197.2 r201.2 (r205.2 + 1)) (fun r209 =>
 some r209)))))
 else (if (fl σ 200 (fl σ 100 x0)) = 17 then
 Option.bind (Pt_lcmOfAll N π σ x0) (fun r214 =>
 Option.bind (Pt_crowdOfAll N π r214.1 x0) (fun r218 =>
 Option.bind (Pt_mostReach N π r218.1 x0) (fun r222 =>
 Option.bind (Pt_workOfAll N π r222.1 x0) (fun r226 =>
 Option.bind (Pt_bounds N π r226.1 x0 r214.2 r218.2 r222.2 (r226.2 + 1)) (fun r230 =>
 some r230)))))
 else (if (fl σ 200 (fl σ 100 x0)) = 18 then
 grd (ina π (fl σ 101 x0) 0) (
 Option.bind (Pt_measureOfOne N π σ x0 (el σ (fl σ 101 x0) 0)) (fun r236 =>
 some r236))
 else (if (fl σ 200 (fl σ 100 x0)) = 19 then
 grd (ina π (fl σ 101 x0) 0) (
 grd (ina π (fl σ 101 x0) 1) (
 Option.bind (Pt_measureMeeting N π σ x0 (el σ (fl σ 101 x0) 0) (el σ (fl σ 101 x0) 1)) (fun r243 =>
 some r243)))
 else (if (fl σ 200 (fl σ 100 x0)) = 20 then
 grd (ina π (fl σ 101 x0) 1) (
 grd (ina π (fl σ 101 x0) 0) (
 Option.bind (Pt_measureMeeting N π σ x0 (el σ (fl σ 101 x0) 1) (el σ (fl σ 101 x0) 0)) (fun r250 =>
 some r250)))
 else (if (fl σ 200 (fl σ 100 x0)) = 21 then
 grd (ina π (fl σ 101 x0) 0) (
 grd (ina π (fl σ 101 x0) 1) (
 Option.bind (Pt_measureMeeting N π σ x0 (el σ (fl σ 101 x0) 0) (el σ (fl σ 101 x0) 1)) (fun r257 =>
 some r257)))
 else (grd (ina π (fl σ 101 x0) 0) (
 Option.bind (Pt_measureOfOne N π σ x0 (el σ (fl σ 101 x0) 0)) (fun r262 =>
 some r262))))))))))))))))))))))))))))))
def Pt_measure (N : Nat)  (π : Sh) (σ : St) (x0 : Int) : Option St := Pt_measure_2 N π N σ x0 0
def Sp_besides (N : Nat)  (π : Sh) (σ : St) (x0 : Int) : Option (St × Int) := grd (ob π x0 10) (
 grd (i32 (fl σ 206 x0)) (
 if (fl σ 206 x0) = 0 then
 some (σ, 0)
 else
 grd (i32 ((fl σ 209 x0) - 2)) (
 some (σ, (max 0 ((fl σ 209 x0) - 2))))))
def Mk_build_97 (N : Nat)    (π : Sh) (σ : St) (x1 : Int) (x2 : Int) (x4 : Int) (s0 : Int) : Option (Sh × St × Int) := Option.bind (Pt_init N π σ s0 x1 x4) (fun r39 =>
 grd (ob π s0 5) (
 Option.bind (Pt_measure N π r39 s0) (fun r44 =>
 Option.bind (Pt_excess N π r44 s0) (fun r48 =>
 grd (i32 r48.2) (
 if r48.2 = 0 then
 some (π, (sf r48.1 87 3 ((fl r48.1 87 3) + 1)), s0)
 else
 Option.bind (Pt_excess N π r48.1 s0) (fun r54 =>
 Option.bind (Mk_fail N π r54.1 r54.2 x2) (fun r58 =>
 some (π, r58, (-1)))))))))
def Mk_build_63 (N : Nat)    : Nat → Sh → St → Int → Int → Int → Int → Option (Sh × St × Int)
  | 0, _, _, _, _, _, _ => none
  | n + 1, π, σ, x1, x2, x4, x5 => grd (ob π x1 10) (
 grd (i32 x5) (
 grd (i32 (fl σ 209 x1)) (
 if x5 < (fl σ 209 x1) then
 grd (ob π (fl σ 210 x1) 22) (
 grd (ina π (fl σ 210 x1) x5) (
 Option.bind (Mk_operand N π σ (el σ (fl σ 210 x1) x5)) (fun r32 =>
 grd (ob π x4 26) (
 grd (ina π x4 x5) (
 grd (r32.2 < 0 ∨ ob π r32.2 5) (
 (Mk_build_63 N n) π (se r32.1 x4 x5 r32.2) x1 x2 x4 (x5 + 1)))))))
 else
 Mk_build_97 N (nO π 5 7) (zO σ (nn π) dfl) x1 x2 x4 (nn π))))
def Mk_build_58 (N : Nat)    (π : Sh) (σ : St) (x1 : Int) (x2 : Int) (s0 : Int) : Option (Sh × St × Int) := Mk_build_63 N N π σ x1 x2 s0 0
def Mk_build (N : Nat)  (π : Sh) (σ : St) (x1 : Int) (x2 : Int) : Option (Sh × St × Int) := Option.bind (Sp_besides N π σ x1) (fun r1 =>
 grd (ob π x1 10) (
 bnd ((fl σ 87 3) + r1.2) (fun v6 =>
 grd (i32 v6) (
 if v6 < 200 then
 grd (i32 (fl r1.1 209 x1)) (
 if (fl r1.1 209 x1) = 0 then
 Mk_build_58 N π (sf r1.1 87 3 v6) x1 x2 4
 else
 bnd (sf r1.1 87 3 v6) (fun σ12 =>
 grd (0 ≤ (fl r1.1 209 x1)) (
 grd ((fl r1.1 209 x1) < 67108864) (
 Mk_build_58 N (nA π 6 (fl r1.1 209 x1)) (zA σ12 (nn π) (-1)) x1 x2 (nn π)))))
 else
 bnd (sf r1.1 87 3 200) (fun σ18 =>
 Option.bind (Mk_fail N π σ18 5 x2) (fun r21 =>
 some (π, r21, (-1))))))))
def Mk_carryOut_56 (N : Nat)    (π : Sh) (σ : St) (s0 : Int) (s1 : Int) : Option (Sh × St) := grd (inb s1 512) (
 grd (s0 < 0 ∨ ob π s0 5) (
 some (π, (se σ 5 s1 s0))))
def Mk_carryOut_18 (N : Nat)    (π : Sh) (σ : St) (x1 : Int) (x2 : Int) (s0 : Int) : Option (Sh × St) := grd (ob π x1 10) (
 grd (i32 (fl σ 200 x1)) (
 if (fl σ 200 x1) = 25 then
 Option.bind (Mk_begin N π σ x1 x2 s0) (fun r12 =>
 some (π, r12))
 else
 grd (i32 x2) (
 if x2 < 512 then
 Option.bind (Mk_build N π σ x1 s0) (fun r9 =>
 Mk_carryOut_56 N r9.1 r9.2.1 r9.2.2 x2)
 else
 some (π, σ))))
def Mk_carryOut (N : Nat)  (π : Sh) (σ : St) (x1 : Int) (x2 : Int) : Option (Sh × St) := grd (i32 (fl σ 85 3)) (
 if (fl σ 85 3) = 0 then
 grd (ob π x1 10) (
 Mk_carryOut_18 N π σ x1 x2 (fl σ 201 x1))
 else
 Mk_carryOut_18 N π σ x1 x2 (fl σ 86 3))
def Mk_make_169 (N : Nat)   (rec28 : Sh → St → Int → Option (Sh × St × Int)) (π : Sh) (σ : St) (x2 : Int) : Option (Sh × St × Int) := rec28 π σ (x2 + 1)
def Mk_make_120 (N : Nat)   (rec28 : Sh → St → Int → Option (Sh × St × Int)) (π : Sh) (σ : St) (x2 : Int) : Option (Sh × St × Int) := Mk_make_169 N rec28 π σ x2
def Mk_make_175 (N : Nat)    (π : Sh) (σ : St)  : Option (Sh × St × Int) := some (π, σ, (-1))
def Mk_make_28 (N : Nat)    : Nat → Sh → St → Int → Option (Sh × St × Int)
  | 0, _, _, _ => none
  | n + 1, π, σ, x2 => grd (i32 x2) (
 if x2 < 1000000 then
 grd (i32 (fl σ 88 3)) (
 if (fl σ 88 3) = 0 then
 grd (inb (fl σ 85 3) 13) (
 bnd (el σ 6 (fl σ 85 3)) (fun v8 =>
 bnd (el σ 8 (fl σ 85 3)) (fun v10 =>
 grd (ob π v8 1) (
 Option.bind (L_size π σ (fl σ 23 v8)) (fun r13 =>
 grd (ob π (fl σ 23 v8) 0) (
 grd (i32 v10) (
 grd (i32 r13.2) (
 if v10 < r13.2 then
 grd (inb (fl r13.1 85 3) 13) (
 bnd (se r13.1 8 (fl r13.1 85 3) (v10 + 1)) (fun σ31 =>
 Option.bind (L_get π σ31 (fl r13.1 23 v8) v10) (fun r34 =>
 grd (ob π (fl r13.1 23 v8) 0) (
 grd (ob π r34.2 10) (
 grd (inb (fl r34.1 85 3) 13) (
 Option.bind (Mk_carryOut N π r34.1 r34.2 (((el r34.1 7 (fl r34.1 85 3)) + (fl r34.1 22 v8)) + v10)) (fun r41 =>
 Mk_make_120 N (Mk_make_28 N n) r41.1 r41.2 x2)))))))
 else
 Option.bind (Mk_operand N π r13.1 (fl r13.1 25 v8)) (fun r21 =>
 grd (i32 (fl r21.1 85 3)) (
 if (fl r21.1 85 3) = 0 then
 some (π, r21.1, r21.2)
 else
 grd (inb (fl r21.1 85 3) 13) (
 grd (inb (el r21.1 7 (fl r21.1 85 3)) 512) (
 grd (r21.2 < 0 ∨ ob π r21.2 5) (
 Mk_make_169 N (Mk_make_28 N n) π (sf (se r21.1 5 (el r21.1 7 (fl r21.1 85 3)) r21.2) 85 3 ((fl r21.1 85 3) - 1)) x2)))))))))))))
 else
 Mk_make_175 N π σ)
 else
 Mk_make_175 N π σ)
def Mk_make (N : Nat)  (π : Sh) (σ : St) (x1 : Int) : Option (Sh × St × Int) := grd (inb 0 13) (
 grd (x1 < 0 ∨ ob π x1 1) (
 Mk_make_28 N N π (se (se (se (sf σ 85 3 0) 6 0 x1) 7 0 0) 8 0 0) 0))
def Pt_spanUpper (N : Nat)  (π : Sh) (σ : St) (x0 : Int) : Option (St × Int) := grd (ob π x0 5) (
 grd (ob π (fl σ 100 x0) 10) (
 grd (i32 (fl σ 204 (fl σ 100 x0))) (
 grd (i32 (fl σ 203 (fl σ 100 x0))) (
 grd (i32 (fl σ 202 (fl σ 100 x0))) (
 grd (i32 (fl σ 205 (fl σ 100 x0))) (
 bnd (((fl σ 204 (fl σ 100 x0)) * (fl σ 203 (fl σ 100 x0))) - ((fl σ 202 (fl σ 100 x0)) * (fl σ 205 (fl σ 100 x0)))) (fun v7 =>
 Option.bind (Pt_gcd N v7 ((fl σ 203 (fl σ 100 x0)) * (fl σ 205 (fl σ 100 x0)))) (fun r9 =>
 grd (i64 v7) (
 grd (i64 r9) (
 grd (¬ r9 = 0) (
 some (σ, (Int.tdiv v7 r9)))))))))))))
def Pc_init_43 (N : Nat)    (π : Sh) (σ : St) (x0 : Int) (x1 : Int) (x2 : Int) (s0 : Int) (s1 : Int) : Option (Sh × St) := grd (ob π s1 6) (
 grd (ob π x0 6) (
 some (π, (sf (sf (sf (sf σ 129 s1 s0) 130 x0 0) 120 x0 x1) 121 x0 x2))))
def Pc_init (N : Nat)  (π : Sh) (σ : St) (x0 : Int) (x1 : Int) (x2 : Int) : Option (Sh × St) := grd (ob π x0 6) (
 bnd (sf (sf (sf (sf (sf (sf (sf σ 122 x0 0) 123 x0 0) 124 x0 0) 125 x0 0) 126 x0 (-1)) 127 x0 (-1)) 128 x0 (-1)) (fun σ2 =>
 Pc_init_43 N (nA π 2 3) (zA σ2 (nn π) 0) x0 x1 x2 (nn π) x0))
def Pc_give (N : Nat)  (π : Sh) (σ : St) (x0 : Int) (x1 : Int) : Option St := grd (ob π x0 6) (
 grd (i32 (fl σ 130 x0)) (
 if (fl σ 130 x0) < 3 then
 grd (ob π (fl σ 129 x0) 22) (
 grd (ina π (fl σ 129 x0) (fl σ 130 x0)) (
 some (sf (se σ (fl σ 129 x0) (fl σ 130 x0) x1) 130 x0 ((fl σ 130 x0) + 1))))
 else
 some σ))
def Pc_applyAll_28 (N : Nat) (rApply : Sh → St → Int → Int → Int → Option (Sh × St × Int))  (rec8 : Sh → St → Int → Int → Int → Int → Option (Sh × St × Int)) (π : Sh) (σ : St) (x1 : Int) (x4 : Int) (x5 : Int) (s0 : Int) : Option (Sh × St × Int) := grd (ob π x4 6) (
 rec8 π σ x1 s0 (fl σ 127 x4) (x5 + 1))
def Pc_applyAll_8 (N : Nat) (rApply : Sh → St → Int → Int → Int → Option (Sh × St × Int))   : Nat → Sh → St → Int → Int → Int → Int → Option (Sh × St × Int)
  | 0, _, _, _, _, _, _ => none
  | n + 1, π, σ, x1, x3, x4, x5 => grd (i32 x5) (
 if x5 < 2000 then
 if x4 < 0 then
 some (π, σ, x3)
 else
 Option.bind (rApply π σ x4 x1 x3) (fun r4 =>
 grd (ob π x4 6) (
 Pc_applyAll_28 N rApply (Pc_applyAll_8 N rApply n) r4.1 r4.2.1 x1 x4 x5 r4.2.2))
 else
 some (π, σ, x3))
def Pc_applyAll (N : Nat) (rApply : Sh → St → Int → Int → Int → Option (Sh × St × Int)) (π : Sh) (σ : St) (x0 : Int) (x1 : Int) (x2 : Int) : Option (Sh × St × Int) := Pc_applyAll_8 N rApply N π σ x1 x2 x0 0
def Sp_initB_48 (N : Nat)    (π : Sh) (σ : St) (x0 : Int) (x1 : Int) (x2 : Int) (x3 : Int) (x4 : Int) (s0 : Int) (s1 : Int) : Option (Sh × St) := grd (ob π s1 10) (
 grd (ob π x0 10) (
 some (π, (sf (sf (sf (sf (sf (sf (sf (sf σ 210 s1 s0) 211 x0 (-1)) 212 x0 (-1)) 213 x0 (-1)) 200 x0 x1) 201 x0 x2) 202 x0 x3) 203 x0 x4))))
def Sp_initB (N : Nat)  (π : Sh) (σ : St) (x0 : Int) (x1 : Int) (x2 : Int) (x3 : Int) (x4 : Int) : Option (Sh × St) := grd (ob π x0 10) (
 bnd (sf (sf (sf (sf (sf (sf (sf (sf σ 202 x0 0) 203 x0 0) 204 x0 0) 205 x0 0) 206 x0 0) 207 x0 0) 208 x0 (-1)) 209 x0 0) (fun σ2 =>
 Sp_initB_48 N (nA π 2 2) (zA σ2 (nn π) 0) x0 x1 x2 x3 x4 (nn π) x0))
def Pc_spanStep_20 (N : Nat)    (π : Sh) (σ : St) (x0 : Int) (s0 : Int) : Option (Sh × St × Int) := grd (ob π x0 6) (
 grd (ob π s0 10) (
 some (π, (sf (sf σ 204 s0 (fl σ 124 x0)) 205 s0 (fl σ 125 x0)), s0)))
def Pc_spanStep_3 (N : Nat)    (π : Sh) (σ : St) (x0 : Int) (x1 : Int) (s0 : Int) : Option (Sh × St × Int) := grd (ob π x0 6) (
 Option.bind (Sp_initB N π σ s0 x1 (fl σ 121 x0) (fl σ 122 x0) (fl σ 123 x0)) (fun r3 =>
 grd (ob π s0 10) (
 Pc_spanStep_20 N r3.1 r3.2 x0 s0)))
def Pc_spanStep (N : Nat)  (π : Sh) (σ : St) (x0 : Int) (x1 : Int) : Option (Sh × St × Int) := Pc_spanStep_3 N (nO π 10 14) (zO σ (nn π) dfl) x0 x1 (nn π)
def Sp_give_31 (N : Nat)    (π : Sh) (σ : St) (x0 : Int) (x1 : Int) : Option (Sh × St × Int) := grd (ob π x0 10) (
 grd (ob π (fl σ 210 x0) 22) (
 grd (ina π (fl σ 210 x0) (fl σ 209 x0)) (
 some (π, (sf (se σ (fl σ 210 x0) (fl σ 209 x0) x1) 209 x0 ((fl σ 209 x0) + 1)), x0))))
def Sp_give_28 (N : Nat)    (π : Sh) (σ : St) (x0 : Int) (x1 : Int) (s0 : Int) (s1 : Int) : Option (Sh × St × Int) := grd (ob π s1 10) (
 Sp_give_31 N π (sf σ 210 s1 s0) x0 x1)
def Sp_give (N : Nat)  (π : Sh) (σ : St) (x0 : Int) (x1 : Int) : Option (Sh × St × Int) := grd (ob π x0 10) (
 grd (ob π (fl σ 210 x0) 22) (
 grd (0 ≤ ln π (fl σ 210 x0)) (
 grd (i32 (fl σ 209 x0)) (
 grd (i32 (ln π (fl σ 210 x0))) (
 if (fl σ 209 x0) < (ln π (fl σ 210 x0)) then
 Sp_give_31 N π σ x0 x1
 else
 Option.bind (A_copy π σ (fl σ 210 x0) ((2 * (fl σ 209 x0)) + 1)) (fun r7 =>
 Sp_give_28 N r7.1 r7.2.1 x0 x1 r7.2.2 x0))))))
def Sp_init_48 (N : Nat)    (π : Sh) (σ : St) (x0 : Int) (x1 : Int) (x2 : Int) (s0 : Int) (s1 : Int) : Option (Sh × St) := grd (ob π s1 10) (
 grd (ob π x0 10) (
 some (π, (sf (sf (sf (sf (sf (sf σ 210 s1 s0) 211 x0 (-1)) 212 x0 (-1)) 213 x0 (-1)) 200 x0 x1) 201 x0 x2))))
def Sp_init (N : Nat)  (π : Sh) (σ : St) (x0 : Int) (x1 : Int) (x2 : Int) : Option (Sh × St) := grd (ob π x0 10) (
 bnd (sf (sf (sf (sf (sf (sf (sf (sf σ 202 x0 0) 203 x0 0) 204 x0 0) 205 x0 0) 206 x0 0) 207 x0 0) 208 x0 (-1)) 209 x0 0) (fun σ2 =>
 Sp_init_48 N (nA π 2 2) (zA σ2 (nn π) 0) x0 x1 x2 (nn π) x0))
def Pc_applyWithFun_74 (N : Nat) (rApply : Sh → St → Int → Int → Int → Option (Sh × St × Int))   (π : Sh) (σ : St) (s0 : Int) : Option (Sh × St × Int) := some (π, σ, s0)
def Pc_applyWithFun_71 (N : Nat) (rApply : Sh → St → Int → Int → Int → Option (Sh × St × Int))   (π : Sh) (σ : St) (s0 : Int) (s1 : Int) : Option (Sh × St × Int) := Option.bind (Df_add N π σ s1 s0) (fun r210 =>
 grd (ob π s1 1) (
 Pc_applyWithFun_74 N rApply r210.1 r210.2.1 r210.2.2))
def Pc_applyWithFun_66 (N : Nat) (rApply : Sh → St → Int → Int → Int → Option (Sh × St × Int))   (π : Sh) (σ : St) (x4 : Int) (s0 : Int) (s1 : Int) : Option (Sh × St × Int) := Option.bind (Sp_give N π σ s0 x4) (fun r198 =>
 grd (ob π s0 10) (
 Pc_applyWithFun_71 N rApply r198.1 r198.2.1 r198.2.2 s1))
def Pc_applyWithFun_51 (N : Nat) (rApply : Sh → St → Int → Int → Int → Option (Sh × St × Int))   (π : Sh) (σ : St) (x0 : Int) (x4 : Int) (s0 : Int) (s1 : Int) : Option (Sh × St × Int) := grd (ob π x0 6) (
 Option.bind (Sp_initB N π σ s0 9 (fl σ 121 x0) (fl σ 122 x0) 1) (fun r186 =>
 grd (ob π s0 10) (
 Pc_applyWithFun_66 N rApply r186.1 r186.2 x4 s0 s1)))
def Pc_applyWithFun_45 (N : Nat) (rApply : Sh → St → Int → Int → Int → Option (Sh × St × Int))   (π : Sh) (σ : St) (x0 : Int) (x1 : Int) (s0 : Int) : Option (Sh × St × Int) := Pc_applyWithFun_51 N rApply (nO π 10 14) (zO σ (nn π) dfl) x0 s0 (nn π) x1
def Pc_applyWithFun_35 (N : Nat) (rApply : Sh → St → Int → Int → Int → Option (Sh × St × Int))   (π : Sh) (σ : St) (x0 : Int) (x1 : Int) (s0 : Int) : Option (Sh × St × Int) := grd (ob π x0 6) (
 Option.bind (Pc_applyAll N rApply π σ (fl σ 126 x0) x1 s0) (fun r150 =>
 Pc_applyWithFun_45 N rApply r150.1 r150.2.1 x0 x1 r150.2.2))
def Pc_applyWithFun_32 (N : Nat) (rApply : Sh → St → Int → Int → Int → Option (Sh × St × Int))   (π : Sh) (σ : St) (x0 : Int) (x1 : Int) (s0 : Int) (s1 : Int) : Option (Sh × St × Int) := Option.bind (Df_add N π σ s1 s0) (fun r120 =>
 grd (ob π s1 1) (
 Pc_applyWithFun_35 N rApply r120.1 r120.2.1 x0 x1 r120.2.2))
def Pc_applyWithFun_28 (N : Nat) (rApply : Sh → St → Int → Int → Int → Option (Sh × St × Int))   (π : Sh) (σ : St) (x0 : Int) (x1 : Int) (x2 : Int) (s0 : Int) (s1 : Int) : Option (Sh × St × Int) := Option.bind (Sp_give N π σ s0 x2) (fun r88 =>
 grd (ob π s0 10) (
 Pc_applyWithFun_32 N rApply r88.1 r88.2.1 x0 x1 r88.2.2 s1))
def Pc_applyWithFun_13 (N : Nat) (rApply : Sh → St → Int → Int → Int → Option (Sh × St × Int))   (π : Sh) (σ : St) (x0 : Int) (x1 : Int) (x2 : Int) (s0 : Int) (s1 : Int) : Option (Sh × St × Int) := grd (ob π x0 6) (
 Option.bind (Sp_initB N π σ s0 9 (fl σ 121 x0) 1 (fl σ 122 x0)) (fun r51 =>
 grd (ob π s0 10) (
 Pc_applyWithFun_28 N rApply r51.1 r51.2 x0 x1 x2 s0 s1)))
def Pc_applyWithFun_177 (N : Nat) (rApply : Sh → St → Int → Int → Int → Option (Sh × St × Int))   (π : Sh) (σ : St) (s0 : Int) : Option (Sh × St × Int) := some (π, σ, s0)
def Pc_applyWithFun_174 (N : Nat) (rApply : Sh → St → Int → Int → Int → Option (Sh × St × Int))   (π : Sh) (σ : St) (s0 : Int) (s1 : Int) : Option (Sh × St × Int) := Option.bind (Df_add N π σ s1 s0) (fun r232 =>
 grd (ob π s1 1) (
 Pc_applyWithFun_177 N rApply r232.1 r232.2.1 r232.2.2))
def Pc_applyWithFun_169 (N : Nat) (rApply : Sh → St → Int → Int → Int → Option (Sh × St × Int))   (π : Sh) (σ : St) (x5 : Int) (s0 : Int) (s1 : Int) : Option (Sh × St × Int) := Option.bind (Sp_give N π σ s0 x5) (fun r228 =>
 grd (ob π s0 10) (
 Pc_applyWithFun_174 N rApply r228.1 r228.2.1 r228.2.2 s1))
def Pc_applyWithFun_165 (N : Nat) (rApply : Sh → St → Int → Int → Int → Option (Sh × St × Int))   (π : Sh) (σ : St) (x3 : Int) (x5 : Int) (s0 : Int) (s1 : Int) : Option (Sh × St × Int) := Option.bind (Sp_give N π σ s0 x3) (fun r224 =>
 grd (ob π s0 10) (
 Pc_applyWithFun_169 N rApply r224.1 r224.2.1 x5 r224.2.2 s1))
def Pc_applyWithFun_155 (N : Nat) (rApply : Sh → St → Int → Int → Int → Option (Sh × St × Int))   (π : Sh) (σ : St) (x0 : Int) (x3 : Int) (x5 : Int) (s0 : Int) (s1 : Int) : Option (Sh × St × Int) := grd (ob π x0 6) (
 Option.bind (Sp_init N π σ s0 8 (fl σ 121 x0)) (fun r220 =>
 grd (ob π s0 10) (
 Pc_applyWithFun_165 N rApply r220.1 r220.2 x3 x5 s0 s1)))
def Pc_applyWithFun_149 (N : Nat) (rApply : Sh → St → Int → Int → Int → Option (Sh × St × Int))   (π : Sh) (σ : St) (x0 : Int) (x1 : Int) (x3 : Int) (s0 : Int) : Option (Sh × St × Int) := Pc_applyWithFun_155 N rApply (nO π 10 14) (zO σ (nn π) dfl) x0 x3 s0 (nn π) x1
def Pc_applyWithFun_137 (N : Nat) (rApply : Sh → St → Int → Int → Int → Option (Sh × St × Int))   (π : Sh) (σ : St) (x0 : Int) (x1 : Int) (x3 : Int) (s0 : Int) : Option (Sh × St × Int) := grd (ob π x0 6) (
 Option.bind (Pc_applyAll N rApply π σ (fl σ 126 x0) x1 s0) (fun r207 =>
 Pc_applyWithFun_149 N rApply r207.1 r207.2.1 x0 x1 x3 r207.2.2))
def Pc_applyWithFun_134 (N : Nat) (rApply : Sh → St → Int → Int → Int → Option (Sh × St × Int))   (π : Sh) (σ : St) (x0 : Int) (x1 : Int) (x3 : Int) (s0 : Int) (s1 : Int) : Option (Sh × St × Int) := Option.bind (Df_add N π σ s1 s0) (fun r194 =>
 grd (ob π s1 1) (
 Pc_applyWithFun_137 N rApply r194.1 r194.2.1 x0 x1 x3 r194.2.2))
def Pc_applyWithFun_130 (N : Nat) (rApply : Sh → St → Int → Int → Int → Option (Sh × St × Int))   (π : Sh) (σ : St) (x0 : Int) (x1 : Int) (x2 : Int) (x3 : Int) (s0 : Int) (s1 : Int) : Option (Sh × St × Int) := Option.bind (Sp_give N π σ s0 x2) (fun r181 =>
 grd (ob π s0 10) (
 Pc_applyWithFun_134 N rApply r181.1 r181.2.1 x0 x1 x3 r181.2.2 s1))
def Pc_applyWithFun_115 (N : Nat) (rApply : Sh → St → Int → Int → Int → Option (Sh × St × Int))   (π : Sh) (σ : St) (x0 : Int) (x1 : Int) (x2 : Int) (x3 : Int) (s0 : Int) (s1 : Int) : Option (Sh × St × Int) := grd (ob π x0 6) (
 Option.bind (Sp_initB N π σ s0 23 (fl σ 121 x0) (fl σ 122 x0) 0) (fun r171 =>
 grd (ob π s0 10) (
 Pc_applyWithFun_130 N rApply r171.1 r171.2 x0 x1 x2 x3 s0 s1)))
def Pc_applyWithFun_110 (N : Nat) (rApply : Sh → St → Int → Int → Int → Option (Sh × St × Int))   (π : Sh) (σ : St) (x0 : Int) (x1 : Int) (x2 : Int) (s0 : Int) : Option (Sh × St × Int) := Pc_applyWithFun_115 N rApply (nO π 10 14) (zO σ (nn π) dfl) x0 x1 x2 s0 (nn π) x1
def Pc_applyWithFun_107 (N : Nat) (rApply : Sh → St → Int → Int → Int → Option (Sh × St × Int))   (π : Sh) (σ : St) (x0 : Int) (x1 : Int) (x2 : Int) (s0 : Int) (s1 : Int) : Option (Sh × St × Int) := Option.bind (Df_add N π σ s1 s0) (fun r116 =>
 grd (ob π s1 1) (
 Pc_applyWithFun_110 N rApply r116.1 r116.2.1 x0 x1 x2 r116.2.2))
def Pc_applyWithFun_103 (N : Nat) (rApply : Sh → St → Int → Int → Int → Option (Sh × St × Int))   (π : Sh) (σ : St) (x0 : Int) (x1 : Int) (x2 : Int) (s0 : Int) (s1 : Int) : Option (Sh × St × Int) := Option.bind (Sp_give N π σ s0 x2) (fun r84 =>
 grd (ob π s0 10) (
 Pc_applyWithFun_107 N rApply r84.1 r84.2.1 x0 x1 x2 r84.2.2 s1))
def Pc_applyWithFun_88 (N : Nat) (rApply : Sh → St → Int → Int → Int → Option (Sh × St × Int))   (π : Sh) (σ : St) (x0 : Int) (x1 : Int) (x2 : Int) (s0 : Int) (s1 : Int) : Option (Sh × St × Int) := grd (ob π x0 6) (
 Option.bind (Sp_initB N π σ s0 22 (fl σ 121 x0) (fl σ 122 x0) 0) (fun r46 =>
 grd (ob π s0 10) (
 Pc_applyWithFun_103 N rApply r46.1 r46.2 x0 x1 x2 s0 s1)))
def Pc_applyWithFun_467 (N : Nat) (rApply : Sh → St → Int → Int → Int → Option (Sh × St × Int))   (π : Sh) (σ : St) (s0 : Int) : Option (Sh × St × Int) := some (π, σ, s0)
def Pc_applyWithFun_464 (N : Nat) (rApply : Sh → St → Int → Int → Int → Option (Sh × St × Int))   (π : Sh) (σ : St) (s0 : Int) (s1 : Int) : Option (Sh × St × Int) := Option.bind (Df_add N π σ s1 s0) (fun r162 =>
 grd (ob π s1 1) (
 Pc_applyWithFun_467 N rApply r162.1 r162.2.1 r162.2.2))
def Pc_applyWithFun_460 (N : Nat) (rApply : Sh → St → Int → Int → Int → Option (Sh × St × Int))   (π : Sh) (σ : St) (x3 : Int) (s0 : Int) (s1 : Int) : Option (Sh × St × Int) := Option.bind (Sp_give N π σ s0 x3) (fun r136 =>
 grd (ob π s0 10) (
 Pc_applyWithFun_464 N rApply r136.1 r136.2.1 r136.2.2 s1))
def Pc_applyWithFun_456 (N : Nat) (rApply : Sh → St → Int → Int → Int → Option (Sh × St × Int))   (π : Sh) (σ : St) (x2 : Int) (x3 : Int) (s0 : Int) (s1 : Int) : Option (Sh × St × Int) := Option.bind (Sp_give N π σ s0 x2) (fun r104 =>
 grd (ob π s0 10) (
 Pc_applyWithFun_460 N rApply r104.1 r104.2.1 x3 r104.2.2 s1))
def Pc_applyWithFun_446 (N : Nat) (rApply : Sh → St → Int → Int → Int → Option (Sh × St × Int))   (π : Sh) (σ : St) (x0 : Int) (x2 : Int) (x3 : Int) (s0 : Int) (s1 : Int) : Option (Sh × St × Int) := grd (ob π x0 6) (
 Option.bind (Sp_init N π σ s0 8 (fl σ 121 x0)) (fun r71 =>
 grd (ob π s0 10) (
 Pc_applyWithFun_456 N rApply r71.1 r71.2 x2 x3 s0 s1)))
def Pc_applyWithFun_298 (N : Nat) (rApply : Sh → St → Int → Int → Int → Option (Sh × St × Int))   (π : Sh) (σ : St) (s0 : Int) : Option (Sh × St × Int) := some (π, σ, s0)
def Pc_applyWithFun_295 (N : Nat) (rApply : Sh → St → Int → Int → Int → Option (Sh × St × Int))   (π : Sh) (σ : St) (s0 : Int) (s1 : Int) : Option (Sh × St × Int) := Option.bind (Df_add N π σ s1 s0) (fun r153 =>
 grd (ob π s1 1) (
 Pc_applyWithFun_298 N rApply r153.1 r153.2.1 r153.2.2))
def Pc_applyWithFun_291 (N : Nat) (rApply : Sh → St → Int → Int → Int → Option (Sh × St × Int))   (π : Sh) (σ : St) (x3 : Int) (s0 : Int) (s1 : Int) : Option (Sh × St × Int) := Option.bind (Sp_give N π σ s0 x3) (fun r124 =>
 grd (ob π s0 10) (
 Pc_applyWithFun_295 N rApply r124.1 r124.2.1 r124.2.2 s1))
def Pc_applyWithFun_287 (N : Nat) (rApply : Sh → St → Int → Int → Int → Option (Sh × St × Int))   (π : Sh) (σ : St) (x2 : Int) (x3 : Int) (s0 : Int) (s1 : Int) : Option (Sh × St × Int) := Option.bind (Sp_give N π σ s0 x2) (fun r92 =>
 grd (ob π s0 10) (
 Pc_applyWithFun_291 N rApply r92.1 r92.2.1 x3 r92.2.2 s1))
def Pc_applyWithFun_272 (N : Nat) (rApply : Sh → St → Int → Int → Int → Option (Sh × St × Int))   (π : Sh) (σ : St) (x0 : Int) (x2 : Int) (x3 : Int) (s0 : Int) (s1 : Int) : Option (Sh × St × Int) := grd (ob π x0 6) (
 Option.bind (Sp_initB N π σ s0 12 (fl σ 121 x0) (fl σ 122 x0) 0) (fun r56 =>
 grd (ob π s0 10) (
 Pc_applyWithFun_287 N rApply r56.1 r56.2 x2 x3 s0 s1)))
def Pc_applyWithFun_332 (N : Nat) (rApply : Sh → St → Int → Int → Int → Option (Sh × St × Int))   (π : Sh) (σ : St) (s0 : Int) : Option (Sh × St × Int) := some (π, σ, s0)
def Pc_applyWithFun_329 (N : Nat) (rApply : Sh → St → Int → Int → Int → Option (Sh × St × Int))   (π : Sh) (σ : St) (s0 : Int) (s1 : Int) : Option (Sh × St × Int) := Option.bind (Df_add N π σ s1 s0) (fun r157 =>
 grd (ob π s1 1) (
 Pc_applyWithFun_332 N rApply r157.1 r157.2.1 r157.2.2))
def Pc_applyWithFun_325 (N : Nat) (rApply : Sh → St → Int → Int → Int → Option (Sh × St × Int))   (π : Sh) (σ : St) (x3 : Int) (s0 : Int) (s1 : Int) : Option (Sh × St × Int) := Option.bind (Sp_give N π σ s0 x3) (fun r128 =>
 grd (ob π s0 10) (
 Pc_applyWithFun_329 N rApply r128.1 r128.2.1 r128.2.2 s1))
def Pc_applyWithFun_321 (N : Nat) (rApply : Sh → St → Int → Int → Int → Option (Sh × St × Int))   (π : Sh) (σ : St) (x2 : Int) (x3 : Int) (s0 : Int) (s1 : Int) : Option (Sh × St × Int) := Option.bind (Sp_give N π σ s0 x2) (fun r96 =>
 grd (ob π s0 10) (
 Pc_applyWithFun_325 N rApply r96.1 r96.2.1 x3 r96.2.2 s1))
def Pc_applyWithFun_303 (N : Nat) (rApply : Sh → St → Int → Int → Int → Option (Sh × St × Int))   (π : Sh) (σ : St) (x0 : Int) (x2 : Int) (x3 : Int) (s0 : Int) (s1 : Int) : Option (Sh × St × Int) := grd (ob π x0 6) (
 Option.bind (Sp_initB N π σ s0 13 (fl σ 121 x0) (fl σ 122 x0) (fl σ 123 x0)) (fun r61 =>
 grd (ob π s0 10) (
 Pc_applyWithFun_321 N rApply r61.1 r61.2 x2 x3 s0 s1)))
def Pc_applyWithFun_441 (N : Nat) (rApply : Sh → St → Int → Int → Int → Option (Sh × St × Int))   (π : Sh) (σ : St) (s0 : Int) : Option (Sh × St × Int) := some (π, σ, s0)
def Pc_applyWithFun_438 (N : Nat) (rApply : Sh → St → Int → Int → Int → Option (Sh × St × Int))   (π : Sh) (σ : St) (s0 : Int) (s1 : Int) : Option (Sh × St × Int) := Option.bind (Df_add N π σ s1 s0) (fun r214 =>
 grd (ob π s1 1) (
 Pc_applyWithFun_441 N rApply r214.1 r214.2.1 r214.2.2))
def Pc_applyWithFun_433 (N : Nat) (rApply : Sh → St → Int → Int → Int → Option (Sh × St × Int))   (π : Sh) (σ : St) (x4 : Int) (s0 : Int) (s1 : Int) : Option (Sh × St × Int) := Option.bind (Sp_give N π σ s0 x4) (fun r202 =>
 grd (ob π s0 10) (
 Pc_applyWithFun_438 N rApply r202.1 r202.2.1 r202.2.2 s1))
def Pc_applyWithFun_429 (N : Nat) (rApply : Sh → St → Int → Int → Int → Option (Sh × St × Int))   (π : Sh) (σ : St) (x2 : Int) (x4 : Int) (s0 : Int) (s1 : Int) : Option (Sh × St × Int) := Option.bind (Sp_give N π σ s0 x2) (fun r190 =>
 grd (ob π s0 10) (
 Pc_applyWithFun_433 N rApply r190.1 r190.2.1 x4 r190.2.2 s1))
def Pc_applyWithFun_419 (N : Nat) (rApply : Sh → St → Int → Int → Int → Option (Sh × St × Int))   (π : Sh) (σ : St) (x0 : Int) (x2 : Int) (x4 : Int) (s0 : Int) (s1 : Int) : Option (Sh × St × Int) := grd (ob π x0 6) (
 Option.bind (Sp_init N π σ s0 8 (fl σ 121 x0)) (fun r177 =>
 grd (ob π s0 10) (
 Pc_applyWithFun_429 N rApply r177.1 r177.2 x2 x4 s0 s1)))
def Pc_applyWithFun_413 (N : Nat) (rApply : Sh → St → Int → Int → Int → Option (Sh × St × Int))   (π : Sh) (σ : St) (x0 : Int) (x1 : Int) (x2 : Int) (s0 : Int) : Option (Sh × St × Int) := Pc_applyWithFun_419 N rApply (nO π 10 14) (zO σ (nn π) dfl) x0 x2 s0 (nn π) x1
def Pc_applyWithFun_410 (N : Nat) (rApply : Sh → St → Int → Int → Int → Option (Sh × St × Int))   (π : Sh) (σ : St) (x0 : Int) (x1 : Int) (x2 : Int) (s0 : Int) (s1 : Int) : Option (Sh × St × Int) := Option.bind (Df_add N π σ s1 s0) (fun r132 =>
 grd (ob π s1 1) (
 Pc_applyWithFun_413 N rApply r132.1 r132.2.1 x0 x1 x2 r132.2.2))
def Pc_applyWithFun_406 (N : Nat) (rApply : Sh → St → Int → Int → Int → Option (Sh × St × Int))   (π : Sh) (σ : St) (x0 : Int) (x1 : Int) (x2 : Int) (x3 : Int) (s0 : Int) (s1 : Int) : Option (Sh × St × Int) := Option.bind (Sp_give N π σ s0 x3) (fun r100 =>
 grd (ob π s0 10) (
 Pc_applyWithFun_410 N rApply r100.1 r100.2.1 x0 x1 x2 r100.2.2 s1))
def Pc_applyWithFun_387 (N : Nat) (rApply : Sh → St → Int → Int → Int → Option (Sh × St × Int))   (π : Sh) (σ : St) (x0 : Int) (x1 : Int) (x2 : Int) (x3 : Int) (s0 : Int) (s1 : Int) : Option (Sh × St × Int) := grd (ob π x0 6) (
 Option.bind (Sp_initB N π σ s0 10 (fl σ 121 x0) (-(fl σ 122 x0)) (fl σ 123 x0)) (fun r66 =>
 grd (ob π s0 10) (
 Pc_applyWithFun_406 N rApply r66.1 r66.2 x0 x1 x2 x3 s0 s1)))
def Pc_applyWithFun_363 (N : Nat) (rApply : Sh → St → Int → Int → Int → Option (Sh × St × Int))   (π : Sh) (σ : St) (s0 : Int) : Option (Sh × St × Int) := some (π, σ, s0)
def Pc_applyWithFun_360 (N : Nat) (rApply : Sh → St → Int → Int → Int → Option (Sh × St × Int))   (π : Sh) (σ : St) (s0 : Int) (s1 : Int) : Option (Sh × St × Int) := Option.bind (Df_add N π σ s1 s0) (fun r166 =>
 grd (ob π s1 1) (
 Pc_applyWithFun_363 N rApply r166.1 r166.2.1 r166.2.2))
def Pc_applyWithFun_356 (N : Nat) (rApply : Sh → St → Int → Int → Int → Option (Sh × St × Int))   (π : Sh) (σ : St) (x3 : Int) (s0 : Int) (s1 : Int) : Option (Sh × St × Int) := Option.bind (Sp_give N π σ s0 x3) (fun r140 =>
 grd (ob π s0 10) (
 Pc_applyWithFun_360 N rApply r140.1 r140.2.1 r140.2.2 s1))
def Pc_applyWithFun_352 (N : Nat) (rApply : Sh → St → Int → Int → Int → Option (Sh × St × Int))   (π : Sh) (σ : St) (x2 : Int) (x3 : Int) (s0 : Int) (s1 : Int) : Option (Sh × St × Int) := Option.bind (Sp_give N π σ s0 x2) (fun r108 =>
 grd (ob π s0 10) (
 Pc_applyWithFun_356 N rApply r108.1 r108.2.1 x3 r108.2.2 s1))
def Pc_applyWithFun_337 (N : Nat) (rApply : Sh → St → Int → Int → Int → Option (Sh × St × Int))   (π : Sh) (σ : St) (x0 : Int) (x2 : Int) (x3 : Int) (s0 : Int) (s1 : Int) : Option (Sh × St × Int) := grd (ob π x0 6) (
 Option.bind (Sp_initB N π σ s0 16 (fl σ 121 x0) (fl σ 122 x0) 0) (fun r76 =>
 grd (ob π s0 10) (
 Pc_applyWithFun_352 N rApply r76.1 r76.2 x2 x3 s0 s1)))
def Pc_applyWithFun_382 (N : Nat) (rApply : Sh → St → Int → Int → Int → Option (Sh × St × Int))   (π : Sh) (σ : St) (s0 : Int) : Option (Sh × St × Int) := some (π, σ, s0)
def Pc_applyWithFun_379 (N : Nat) (rApply : Sh → St → Int → Int → Int → Option (Sh × St × Int))   (π : Sh) (σ : St) (s0 : Int) (s1 : Int) : Option (Sh × St × Int) := Option.bind (Df_add N π σ s1 s0) (fun r144 =>
 grd (ob π s1 1) (
 Pc_applyWithFun_382 N rApply r144.1 r144.2.1 r144.2.2))
def Pc_applyWithFun_375 (N : Nat) (rApply : Sh → St → Int → Int → Int → Option (Sh × St × Int))   (π : Sh) (σ : St) (x3 : Int) (s0 : Int) (s1 : Int) : Option (Sh × St × Int) := Option.bind (Sp_give N π σ s0 x3) (fun r112 =>
 grd (ob π s0 10) (
 Pc_applyWithFun_379 N rApply r112.1 r112.2.1 r112.2.2 s1))
def Pc_applyWithFun_371 (N : Nat) (rApply : Sh → St → Int → Int → Int → Option (Sh × St × Int))   (π : Sh) (σ : St) (x2 : Int) (x3 : Int) (s0 : Int) (s1 : Int) : Option (Sh × St × Int) := Option.bind (Sp_give N π σ s0 x2) (fun r80 =>
 grd (ob π s0 10) (
 Pc_applyWithFun_375 N rApply r80.1 r80.2.1 x3 r80.2.2 s1))
def Pc_applyWithFun_187 (N : Nat) (rApply : Sh → St → Int → Int → Int → Option (Sh × St × Int))   (π : Sh) (σ : St) (x0 : Int) (x1 : Int) (x2 : Int) (s0 : Int) : Option (Sh × St × Int) := grd (ob π x0 6) (
 grd (i32 (fl σ 120 x0)) (
 if (fl σ 120 x0) = 5 then
 Pc_applyWithFun_272 N rApply (nO π 10 14) (zO σ (nn π) dfl) x0 x2 s0 (nn π) x1
 else (if (fl σ 120 x0) = 6 then
 Pc_applyWithFun_303 N rApply (nO π 10 14) (zO σ (nn π) dfl) x0 x2 s0 (nn π) x1
 else (if (fl σ 120 x0) = 7 then
 Pc_applyWithFun_387 N rApply (nO π 10 14) (zO σ (nn π) dfl) x0 x1 x2 s0 (nn π) x1
 else (if (fl σ 120 x0) = 8 then
 Pc_applyWithFun_446 N rApply (nO π 10 14) (zO σ (nn π) dfl) x0 x2 s0 (nn π) x1
 else (if (fl σ 120 x0) = 9 then
 Pc_applyWithFun_446 N rApply (nO π 10 14) (zO σ (nn π) dfl) x0 x2 s0 (nn π) x1
 else (if (fl σ 120 x0) = 10 then
 Pc_applyWithFun_446 N rApply (nO π 10 14) (zO σ (nn π) dfl) x0 x2 s0 (nn π) x1
 else (if (fl σ 120 x0) = 11 then
 Pc_applyWithFun_337 N rApply (nO π 10 14) (zO σ (nn π) dfl) x0 x2 s0 (nn π) x1
 else (if (fl σ 120 x0) = 12 then
 Pc_applyWithFun_446 N rApply (nO π 10 14) (zO σ (nn π) dfl) x0 x2 s0 (nn π) x1
 else (if (fl σ 120 x0) = 13 then
 Pc_applyWithFun_446 N rApply (nO π 10 14) (zO σ (nn π) dfl) x0 x2 s0 (nn π) x1
 else (if (fl σ 120 x0) = 14 then
 Pc_applyWithFun_446 N rApply (nO π 10 14) (zO σ (nn π) dfl) x0 x2 s0 (nn π) x1
 else (if (fl σ 120 x0) = 15 then
 Pc_applyWithFun_446 N rApply (nO π 10 14) (zO σ (nn π) dfl) x0 x2 s0 (nn π) x1
 else (if (fl σ 120 x0) = 16 then
 Pc_applyWithFun_446 N rApply (nO π 10 14) (zO σ (nn π) dfl) x0 x2 s0 (nn π) x1
 else (if (fl σ 120 x0) = 17 then
 Pc_applyWithFun_446 N rApply (nO π 10 14) (zO σ (nn π) dfl) x0 x2 s0 (nn π) x1
 else (if (fl σ 120 x0) = 18 then
 Pc_applyWithFun_446 N rApply (nO π 10 14) (zO σ (nn π) dfl) x0 x2 s0 (nn π) x1
 else (if (fl σ 120 x0) = 19 then
 Option.bind (Pc_spanStep N π σ x0 17) (fun r41 =>
 Pc_applyWithFun_371 N rApply r41.1 r41.2.1 x2 s0 r41.2.2 x1)
 else (Pc_applyWithFun_446 N rApply (nO π 10 14) (zO σ (nn π) dfl) x0 x2 s0 (nn π) x1)))))))))))))))))
def Pc_applyWithFun (N : Nat) (rApply : Sh → St → Int → Int → Int → Option (Sh × St × Int)) (π : Sh) (σ : St) (x0 : Int) (x1 : Int) (x2 : Int) : Option (Sh × St × Int) := grd (ob π x0 6) (
 grd (i32 (fl σ 120 x0)) (
 if (fl σ 120 x0) = 12 then
 Pc_applyWithFun_13 N rApply (nO π 10 14) (zO σ (nn π) dfl) x0 x1 x2 (nn π) x1
 else
 if (fl σ 120 x0) = 18 then
 Pc_applyWithFun_88 N rApply (nO π 10 14) (zO σ (nn π) dfl) x0 x1 x2 (nn π) x1
 else
 Option.bind (Pc_applyAll N rApply π σ (fl σ 126 x0) x1 x2) (fun r5 =>
 Pc_applyWithFun_187 N rApply r5.1 r5.2.1 x0 x1 x2 r5.2.2)))
def Pc_useStep_42 (N : Nat)   (rec24 : Sh → St → Int → Int → Int → Option (Sh × St × Int)) (π : Sh) (σ : St) (x0 : Int) (x1 : Int) (x2 : Int) (s0 : Int) : Option (Sh × St × Int) := rec24 π σ x0 x1 (x2 + 1)
def Pc_useStep_24 (N : Nat)    : Nat → Sh → St → Int → Int → Int → Option (Sh × St × Int)
  | 0, _, _, _, _, _ => none
  | n + 1, π, σ, x0, x1, x2 => grd (ob π x0 6) (
 grd (i32 x2) (
 grd (i32 (fl σ 130 x0)) (
 if x2 < (fl σ 130 x0) then
 grd (ob π (fl σ 129 x0) 22) (
 grd (ina π (fl σ 129 x0) x2) (
 Option.bind (Sp_give N π σ x1 (el σ (fl σ 129 x0) x2)) (fun r15 =>
 grd (ob π x1 10) (
 Pc_useStep_42 N (Pc_useStep_24 N n) r15.1 r15.2.1 x0 x1 x2 r15.2.2))))
 else
 some (π, σ, x1))))
def Pc_useStep_13 (N : Nat)    (π : Sh) (σ : St) (x0 : Int) (s0 : Int) : Option (Sh × St × Int) := grd (ob π x0 6) (
 grd (ob π s0 10) (
 Pc_useStep_24 N N π (sf σ 208 s0 (fl σ 128 x0)) x0 s0 0))
def Pc_useStep_3 (N : Nat)    (π : Sh) (σ : St) (x0 : Int) (s0 : Int) : Option (Sh × St × Int) := grd (ob π x0 6) (
 Option.bind (Sp_init N π σ s0 25 (fl σ 121 x0)) (fun r3 =>
 grd (ob π s0 10) (
 Pc_useStep_13 N r3.1 r3.2 x0 s0)))
def Pc_useStep (N : Nat)  (π : Sh) (σ : St) (x0 : Int) : Option (Sh × St × Int) := Pc_useStep_3 N (nO π 10 14) (zO σ (nn π) dfl) x0 (nn π)
def Pc_apply_536 (N : Nat) (rApply : Sh → St → Int → Int → Int → Option (Sh × St × Int))   (π : Sh) (σ : St) (s0 : Int) : Option (Sh × St × Int) := some (π, σ, s0)
def Pc_apply_145 (N : Nat) (rApply : Sh → St → Int → Int → Int → Option (Sh × St × Int))   (π : Sh) (σ : St) (s0 : Int) : Option (Sh × St × Int) := some (π, σ, s0)
def Pc_apply_142 (N : Nat) (rApply : Sh → St → Int → Int → Int → Option (Sh × St × Int))   (π : Sh) (σ : St) (s0 : Int) (s1 : Int) : Option (Sh × St × Int) := Option.bind (Df_add N π σ s1 s0) (fun r215 =>
 grd (ob π s1 1) (
 Pc_apply_145 N rApply r215.1 r215.2.1 r215.2.2))
def Pc_apply_138 (N : Nat) (rApply : Sh → St → Int → Int → Int → Option (Sh × St × Int))   (π : Sh) (σ : St) (x2 : Int) (s0 : Int) (s1 : Int) : Option (Sh × St × Int) := Option.bind (Sp_give N π σ s0 x2) (fun r149 =>
 grd (ob π s0 10) (
 Pc_apply_142 N rApply r149.1 r149.2.1 r149.2.2 s1))
def Pc_apply_120 (N : Nat) (rApply : Sh → St → Int → Int → Int → Option (Sh × St × Int))   (π : Sh) (σ : St) (x0 : Int) (x2 : Int) (s0 : Int) (s1 : Int) : Option (Sh × St × Int) := grd (ob π x0 6) (
 Option.bind (Sp_initB N π σ s0 9 (fl σ 121 x0) (fl σ 122 x0) (fl σ 123 x0)) (fun r77 =>
 grd (ob π s0 10) (
 Pc_apply_138 N rApply r77.1 r77.2 x2 s0 s1)))
def Pc_apply_175 (N : Nat) (rApply : Sh → St → Int → Int → Int → Option (Sh × St × Int))   (π : Sh) (σ : St) (s0 : Int) : Option (Sh × St × Int) := some (π, σ, s0)
def Pc_apply_172 (N : Nat) (rApply : Sh → St → Int → Int → Int → Option (Sh × St × Int))   (π : Sh) (σ : St) (s0 : Int) (s1 : Int) : Option (Sh × St × Int) := Option.bind (Df_add N π σ s1 s0) (fun r219 =>
 grd (ob π s1 1) (
 Pc_apply_175 N rApply r219.1 r219.2.1 r219.2.2))
def Pc_apply_168 (N : Nat) (rApply : Sh → St → Int → Int → Int → Option (Sh × St × Int))   (π : Sh) (σ : St) (x2 : Int) (s0 : Int) (s1 : Int) : Option (Sh × St × Int) := Option.bind (Sp_give N π σ s0 x2) (fun r153 =>
 grd (ob π s0 10) (
 Pc_apply_172 N rApply r153.1 r153.2.1 r153.2.2 s1))
def Pc_apply_150 (N : Nat) (rApply : Sh → St → Int → Int → Int → Option (Sh × St × Int))   (π : Sh) (σ : St) (x0 : Int) (x2 : Int) (s0 : Int) (s1 : Int) : Option (Sh × St × Int) := grd (ob π x0 6) (
 Option.bind (Sp_initB N π σ s0 9 (fl σ 121 x0) (fl σ 123 x0) (fl σ 122 x0)) (fun r82 =>
 grd (ob π s0 10) (
 Pc_apply_168 N rApply r82.1 r82.2 x2 s0 s1)))
def Pc_apply_205 (N : Nat) (rApply : Sh → St → Int → Int → Int → Option (Sh × St × Int))   (π : Sh) (σ : St) (s0 : Int) : Option (Sh × St × Int) := some (π, σ, s0)
def Pc_apply_202 (N : Nat) (rApply : Sh → St → Int → Int → Int → Option (Sh × St × Int))   (π : Sh) (σ : St) (s0 : Int) (s1 : Int) : Option (Sh × St × Int) := Option.bind (Df_add N π σ s1 s0) (fun r223 =>
 grd (ob π s1 1) (
 Pc_apply_205 N rApply r223.1 r223.2.1 r223.2.2))
def Pc_apply_198 (N : Nat) (rApply : Sh → St → Int → Int → Int → Option (Sh × St × Int))   (π : Sh) (σ : St) (x2 : Int) (s0 : Int) (s1 : Int) : Option (Sh × St × Int) := Option.bind (Sp_give N π σ s0 x2) (fun r157 =>
 grd (ob π s0 10) (
 Pc_apply_202 N rApply r157.1 r157.2.1 r157.2.2 s1))
def Pc_apply_180 (N : Nat) (rApply : Sh → St → Int → Int → Int → Option (Sh × St × Int))   (π : Sh) (σ : St) (x0 : Int) (x2 : Int) (s0 : Int) (s1 : Int) : Option (Sh × St × Int) := grd (ob π x0 6) (
 Option.bind (Sp_initB N π σ s0 10 (fl σ 121 x0) (fl σ 122 x0) (fl σ 123 x0)) (fun r87 =>
 grd (ob π s0 10) (
 Pc_apply_198 N rApply r87.1 r87.2 x2 s0 s1)))
def Pc_apply_236 (N : Nat) (rApply : Sh → St → Int → Int → Int → Option (Sh × St × Int))   (π : Sh) (σ : St) (s0 : Int) : Option (Sh × St × Int) := some (π, σ, s0)
def Pc_apply_233 (N : Nat) (rApply : Sh → St → Int → Int → Int → Option (Sh × St × Int))   (π : Sh) (σ : St) (s0 : Int) (s1 : Int) : Option (Sh × St × Int) := Option.bind (Df_add N π σ s1 s0) (fun r227 =>
 grd (ob π s1 1) (
 Pc_apply_236 N rApply r227.1 r227.2.1 r227.2.2))
def Pc_apply_229 (N : Nat) (rApply : Sh → St → Int → Int → Int → Option (Sh × St × Int))   (π : Sh) (σ : St) (x2 : Int) (s0 : Int) (s1 : Int) : Option (Sh × St × Int) := Option.bind (Sp_give N π σ s0 x2) (fun r161 =>
 grd (ob π s0 10) (
 Pc_apply_233 N rApply r161.1 r161.2.1 r161.2.2 s1))
def Pc_apply_210 (N : Nat) (rApply : Sh → St → Int → Int → Int → Option (Sh × St × Int))   (π : Sh) (σ : St) (x0 : Int) (x2 : Int) (s0 : Int) (s1 : Int) : Option (Sh × St × Int) := grd (ob π x0 6) (
 Option.bind (Sp_initB N π σ s0 10 (fl σ 121 x0) (-(fl σ 122 x0)) (fl σ 123 x0)) (fun r92 =>
 grd (ob π s0 10) (
 Pc_apply_229 N rApply r92.1 r92.2 x2 s0 s1)))
def Pc_apply_258 (N : Nat) (rApply : Sh → St → Int → Int → Int → Option (Sh × St × Int))   (π : Sh) (σ : St) (s0 : Int) : Option (Sh × St × Int) := some (π, σ, s0)
def Pc_apply_255 (N : Nat) (rApply : Sh → St → Int → Int → Int → Option (Sh × St × Int))   (π : Sh) (σ : St) (s0 : Int) (s1 : Int) : Option (Sh × St × Int) := Option.bind (Df_add N π σ s1 s0) (fun r231 =>
 grd (ob π s1 1) (
 Pc_apply_258 N rApply r231.1 r231.2.1 r231.2.2))
def Pc_apply_251 (N : Nat) (rApply : Sh → St → Int → Int → Int → Option (Sh × St × Int))   (π : Sh) (σ : St) (x2 : Int) (s0 : Int) (s1 : Int) : Option (Sh × St × Int) := Option.bind (Sp_give N π σ s0 x2) (fun r165 =>
 grd (ob π s0 10) (
 Pc_apply_255 N rApply r165.1 r165.2.1 r165.2.2 s1))
def Pc_apply_241 (N : Nat) (rApply : Sh → St → Int → Int → Int → Option (Sh × St × Int))   (π : Sh) (σ : St) (x0 : Int) (x2 : Int) (s0 : Int) (s1 : Int) : Option (Sh × St × Int) := grd (ob π x0 6) (
 Option.bind (Sp_init N π σ s0 11 (fl σ 121 x0)) (fun r97 =>
 grd (ob π s0 10) (
 Pc_apply_251 N rApply r97.1 r97.2 x2 s0 s1)))
def Pc_apply_285 (N : Nat) (rApply : Sh → St → Int → Int → Int → Option (Sh × St × Int))   (π : Sh) (σ : St) (s0 : Int) : Option (Sh × St × Int) := some (π, σ, s0)
def Pc_apply_282 (N : Nat) (rApply : Sh → St → Int → Int → Int → Option (Sh × St × Int))   (π : Sh) (σ : St) (s0 : Int) (s1 : Int) : Option (Sh × St × Int) := Option.bind (Df_add N π σ s1 s0) (fun r235 =>
 grd (ob π s1 1) (
 Pc_apply_285 N rApply r235.1 r235.2.1 r235.2.2))
def Pc_apply_278 (N : Nat) (rApply : Sh → St → Int → Int → Int → Option (Sh × St × Int))   (π : Sh) (σ : St) (x2 : Int) (s0 : Int) (s1 : Int) : Option (Sh × St × Int) := Option.bind (Sp_give N π σ s0 x2) (fun r169 =>
 grd (ob π s0 10) (
 Pc_apply_282 N rApply r169.1 r169.2.1 r169.2.2 s1))
def Pc_apply_263 (N : Nat) (rApply : Sh → St → Int → Int → Int → Option (Sh × St × Int))   (π : Sh) (σ : St) (x0 : Int) (x2 : Int) (s0 : Int) (s1 : Int) : Option (Sh × St × Int) := grd (ob π x0 6) (
 Option.bind (Sp_initB N π σ s0 14 (fl σ 121 x0) (fl σ 122 x0) 0) (fun r102 =>
 grd (ob π s0 10) (
 Pc_apply_278 N rApply r102.1 r102.2 x2 s0 s1)))
def Pc_apply_312 (N : Nat) (rApply : Sh → St → Int → Int → Int → Option (Sh × St × Int))   (π : Sh) (σ : St) (s0 : Int) : Option (Sh × St × Int) := some (π, σ, s0)
def Pc_apply_309 (N : Nat) (rApply : Sh → St → Int → Int → Int → Option (Sh × St × Int))   (π : Sh) (σ : St) (s0 : Int) (s1 : Int) : Option (Sh × St × Int) := Option.bind (Df_add N π σ s1 s0) (fun r239 =>
 grd (ob π s1 1) (
 Pc_apply_312 N rApply r239.1 r239.2.1 r239.2.2))
def Pc_apply_305 (N : Nat) (rApply : Sh → St → Int → Int → Int → Option (Sh × St × Int))   (π : Sh) (σ : St) (x2 : Int) (s0 : Int) (s1 : Int) : Option (Sh × St × Int) := Option.bind (Sp_give N π σ s0 x2) (fun r173 =>
 grd (ob π s0 10) (
 Pc_apply_309 N rApply r173.1 r173.2.1 r173.2.2 s1))
def Pc_apply_290 (N : Nat) (rApply : Sh → St → Int → Int → Int → Option (Sh × St × Int))   (π : Sh) (σ : St) (x0 : Int) (x2 : Int) (s0 : Int) (s1 : Int) : Option (Sh × St × Int) := grd (ob π x0 6) (
 Option.bind (Sp_initB N π σ s0 15 (fl σ 121 x0) (fl σ 122 x0) 0) (fun r107 =>
 grd (ob π s0 10) (
 Pc_apply_305 N rApply r107.1 r107.2 x2 s0 s1)))
def Pc_apply_339 (N : Nat) (rApply : Sh → St → Int → Int → Int → Option (Sh × St × Int))   (π : Sh) (σ : St) (s0 : Int) : Option (Sh × St × Int) := some (π, σ, s0)
def Pc_apply_336 (N : Nat) (rApply : Sh → St → Int → Int → Int → Option (Sh × St × Int))   (π : Sh) (σ : St) (s0 : Int) (s1 : Int) : Option (Sh × St × Int) := Option.bind (Df_add N π σ s1 s0) (fun r243 =>
 grd (ob π s1 1) (
 Pc_apply_339 N rApply r243.1 r243.2.1 r243.2.2))
def Pc_apply_332 (N : Nat) (rApply : Sh → St → Int → Int → Int → Option (Sh × St × Int))   (π : Sh) (σ : St) (x2 : Int) (s0 : Int) (s1 : Int) : Option (Sh × St × Int) := Option.bind (Sp_give N π σ s0 x2) (fun r177 =>
 grd (ob π s0 10) (
 Pc_apply_336 N rApply r177.1 r177.2.1 r177.2.2 s1))
def Pc_apply_317 (N : Nat) (rApply : Sh → St → Int → Int → Int → Option (Sh × St × Int))   (π : Sh) (σ : St) (x0 : Int) (x2 : Int) (s0 : Int) (s1 : Int) : Option (Sh × St × Int) := grd (ob π x0 6) (
 Option.bind (Sp_initB N π σ s0 18 (fl σ 121 x0) (fl σ 122 x0) 0) (fun r112 =>
 grd (ob π s0 10) (
 Pc_apply_332 N rApply r112.1 r112.2 x2 s0 s1)))
def Pc_apply_424 (N : Nat) (rApply : Sh → St → Int → Int → Int → Option (Sh × St × Int))   (π : Sh) (σ : St) (s0 : Int) : Option (Sh × St × Int) := some (π, σ, s0)
def Pc_apply_421 (N : Nat) (rApply : Sh → St → Int → Int → Int → Option (Sh × St × Int))   (π : Sh) (σ : St) (s0 : Int) (s1 : Int) : Option (Sh × St × Int) := Option.bind (Df_add N π σ s1 s0) (fun r270 =>
 grd (ob π s1 1) (
 Pc_apply_424 N rApply r270.1 r270.2.1 r270.2.2))
def Pc_apply_417 (N : Nat) (rApply : Sh → St → Int → Int → Int → Option (Sh × St × Int))   (π : Sh) (σ : St) (x2 : Int) (s0 : Int) (s1 : Int) : Option (Sh × St × Int) := Option.bind (Sp_give N π σ s0 x2) (fun r247 =>
 grd (ob π s0 10) (
 Pc_apply_421 N rApply r247.1 r247.2.1 r247.2.2 s1))
def Pc_apply_408 (N : Nat) (rApply : Sh → St → Int → Int → Int → Option (Sh × St × Int))   (π : Sh) (σ : St) (x0 : Int) (x2 : Int) (s0 : Int) (s1 : Int) : Option (Sh × St × Int) := grd (ob π x0 6) (
 grd (ob π (fl σ 129 x0) 22) (
 grd (ina π (fl σ 129 x0) 0) (
 Option.bind (Sp_give N π σ s0 (el σ (fl σ 129 x0) 0)) (fun r184 =>
 grd (ob π s0 10) (
 Pc_apply_417 N rApply r184.1 r184.2.1 x2 r184.2.2 s1)))))
def Pc_apply_398 (N : Nat) (rApply : Sh → St → Int → Int → Int → Option (Sh × St × Int))   (π : Sh) (σ : St) (x0 : Int) (x2 : Int) (s0 : Int) (s1 : Int) : Option (Sh × St × Int) := grd (ob π x0 6) (
 Option.bind (Sp_init N π σ s0 19 (fl σ 121 x0)) (fun r117 =>
 grd (ob π s0 10) (
 Pc_apply_408 N rApply r117.1 r117.2 x0 x2 s0 s1)))
def Pc_apply_455 (N : Nat) (rApply : Sh → St → Int → Int → Int → Option (Sh × St × Int))   (π : Sh) (σ : St) (s0 : Int) : Option (Sh × St × Int) := some (π, σ, s0)
def Pc_apply_452 (N : Nat) (rApply : Sh → St → Int → Int → Int → Option (Sh × St × Int))   (π : Sh) (σ : St) (s0 : Int) (s1 : Int) : Option (Sh × St × Int) := Option.bind (Df_add N π σ s1 s0) (fun r274 =>
 grd (ob π s1 1) (
 Pc_apply_455 N rApply r274.1 r274.2.1 r274.2.2))
def Pc_apply_448 (N : Nat) (rApply : Sh → St → Int → Int → Int → Option (Sh × St × Int))   (π : Sh) (σ : St) (x2 : Int) (s0 : Int) (s1 : Int) : Option (Sh × St × Int) := Option.bind (Sp_give N π σ s0 x2) (fun r251 =>
 grd (ob π s0 10) (
 Pc_apply_452 N rApply r251.1 r251.2.1 r251.2.2 s1))
def Pc_apply_439 (N : Nat) (rApply : Sh → St → Int → Int → Int → Option (Sh × St × Int))   (π : Sh) (σ : St) (x0 : Int) (x2 : Int) (s0 : Int) (s1 : Int) : Option (Sh × St × Int) := grd (ob π x0 6) (
 grd (ob π (fl σ 129 x0) 22) (
 grd (ina π (fl σ 129 x0) 0) (
 Option.bind (Sp_give N π σ s0 (el σ (fl σ 129 x0) 0)) (fun r191 =>
 grd (ob π s0 10) (
 Pc_apply_448 N rApply r191.1 r191.2.1 x2 r191.2.2 s1)))))
def Pc_apply_429 (N : Nat) (rApply : Sh → St → Int → Int → Int → Option (Sh × St × Int))   (π : Sh) (σ : St) (x0 : Int) (x2 : Int) (s0 : Int) (s1 : Int) : Option (Sh × St × Int) := grd (ob π x0 6) (
 Option.bind (Sp_init N π σ s0 20 (fl σ 121 x0)) (fun r122 =>
 grd (ob π s0 10) (
 Pc_apply_439 N rApply r122.1 r122.2 x0 x2 s0 s1)))
def Pc_apply_366 (N : Nat) (rApply : Sh → St → Int → Int → Int → Option (Sh × St × Int))   (π : Sh) (σ : St) (s0 : Int) : Option (Sh × St × Int) := some (π, σ, s0)
def Pc_apply_363 (N : Nat) (rApply : Sh → St → Int → Int → Int → Option (Sh × St × Int))   (π : Sh) (σ : St) (s0 : Int) (s1 : Int) : Option (Sh × St × Int) := Option.bind (Df_add N π σ s1 s0) (fun r255 =>
 grd (ob π s1 1) (
 Pc_apply_366 N rApply r255.1 r255.2.1 r255.2.2))
def Pc_apply_359 (N : Nat) (rApply : Sh → St → Int → Int → Int → Option (Sh × St × Int))   (π : Sh) (σ : St) (x2 : Int) (s0 : Int) (s1 : Int) : Option (Sh × St × Int) := Option.bind (Sp_give N π σ s0 x2) (fun r195 =>
 grd (ob π s0 10) (
 Pc_apply_363 N rApply r195.1 r195.2.1 r195.2.2 s1))
def Pc_apply_344 (N : Nat) (rApply : Sh → St → Int → Int → Int → Option (Sh × St × Int))   (π : Sh) (σ : St) (x0 : Int) (x2 : Int) (s0 : Int) (s1 : Int) : Option (Sh × St × Int) := grd (ob π x0 6) (
 Option.bind (Sp_initB N π σ s0 22 (fl σ 121 x0) (fl σ 122 x0) 0) (fun r127 =>
 grd (ob π s0 10) (
 Pc_apply_359 N rApply r127.1 r127.2 x2 s0 s1)))
def Pc_apply_393 (N : Nat) (rApply : Sh → St → Int → Int → Int → Option (Sh × St × Int))   (π : Sh) (σ : St) (s0 : Int) : Option (Sh × St × Int) := some (π, σ, s0)
def Pc_apply_390 (N : Nat) (rApply : Sh → St → Int → Int → Int → Option (Sh × St × Int))   (π : Sh) (σ : St) (s0 : Int) (s1 : Int) : Option (Sh × St × Int) := Option.bind (Df_add N π σ s1 s0) (fun r259 =>
 grd (ob π s1 1) (
 Pc_apply_393 N rApply r259.1 r259.2.1 r259.2.2))
def Pc_apply_386 (N : Nat) (rApply : Sh → St → Int → Int → Int → Option (Sh × St × Int))   (π : Sh) (σ : St) (x2 : Int) (s0 : Int) (s1 : Int) : Option (Sh × St × Int) := Option.bind (Sp_give N π σ s0 x2) (fun r199 =>
 grd (ob π s0 10) (
 Pc_apply_390 N rApply r199.1 r199.2.1 r199.2.2 s1))
def Pc_apply_371 (N : Nat) (rApply : Sh → St → Int → Int → Int → Option (Sh × St × Int))   (π : Sh) (σ : St) (x0 : Int) (x2 : Int) (s0 : Int) (s1 : Int) : Option (Sh × St × Int) := grd (ob π x0 6) (
 Option.bind (Sp_initB N π σ s0 23 (fl σ 121 x0) (fl σ 122 x0) 0) (fun r132 =>
 grd (ob π s0 10) (
 Pc_apply_386 N rApply r132.1 r132.2 x2 s0 s1)))
def Pc_apply_506 (N : Nat) (rApply : Sh → St → Int → Int → Int → Option (Sh × St × Int))   (π : Sh) (σ : St) (s0 : Int) : Option (Sh × St × Int) := some (π, σ, s0)
def Pc_apply_503 (N : Nat) (rApply : Sh → St → Int → Int → Int → Option (Sh × St × Int))   (π : Sh) (σ : St) (s0 : Int) (s1 : Int) : Option (Sh × St × Int) := Option.bind (Df_add N π σ s1 s0) (fun r203 =>
 grd (ob π s1 1) (
 Pc_apply_506 N rApply r203.1 r203.2.1 r203.2.2))
def Pc_apply_499 (N : Nat) (rApply : Sh → St → Int → Int → Int → Option (Sh × St × Int))   (π : Sh) (σ : St) (x2 : Int) (s0 : Int) (s1 : Int) : Option (Sh × St × Int) := Option.bind (Sp_give N π σ s0 x2) (fun r136 =>
 grd (ob π s0 10) (
 Pc_apply_503 N rApply r136.1 r136.2.1 r136.2.2 s1))
def Pc_apply_491 (N : Nat) (rApply : Sh → St → Int → Int → Int → Option (Sh × St × Int))   (π : Sh) (σ : St) (s0 : Int) : Option (Sh × St × Int) := some (π, σ, s0)
def Pc_apply_488 (N : Nat) (rApply : Sh → St → Int → Int → Int → Option (Sh × St × Int))   (π : Sh) (σ : St) (s0 : Int) (s1 : Int) : Option (Sh × St × Int) := Option.bind (Df_add N π σ s1 s0) (fun r278 =>
 grd (ob π s1 1) (
 Pc_apply_491 N rApply r278.1 r278.2.1 r278.2.2))
def Pc_apply_479 (N : Nat) (rApply : Sh → St → Int → Int → Int → Option (Sh × St × Int))   (π : Sh) (σ : St) (x0 : Int) (s0 : Int) (s1 : Int) : Option (Sh × St × Int) := grd (ob π x0 6) (
 grd (ob π (fl σ 129 x0) 22) (
 grd (ina π (fl σ 129 x0) 0) (
 Option.bind (Sp_give N π σ s0 (el σ (fl σ 129 x0) 0)) (fun r266 =>
 grd (ob π s0 10) (
 Pc_apply_488 N rApply r266.1 r266.2.1 r266.2.2 s1)))))
def Pc_apply_475 (N : Nat) (rApply : Sh → St → Int → Int → Int → Option (Sh × St × Int))   (π : Sh) (σ : St) (x0 : Int) (x2 : Int) (s0 : Int) (s1 : Int) : Option (Sh × St × Int) := Option.bind (Sp_give N π σ s0 x2) (fun r207 =>
 grd (ob π s0 10) (
 Pc_apply_479 N rApply r207.1 r207.2.1 x0 r207.2.2 s1))
def Pc_apply_460 (N : Nat) (rApply : Sh → St → Int → Int → Int → Option (Sh × St × Int))   (π : Sh) (σ : St) (x0 : Int) (x2 : Int) (s0 : Int) (s1 : Int) : Option (Sh × St × Int) := grd (ob π x0 6) (
 Option.bind (Sp_initB N π σ s0 21 (fl σ 121 x0) (fl σ 122 x0) 0) (fun r141 =>
 grd (ob π s0 10) (
 Pc_apply_475 N rApply r141.1 r141.2 x0 x2 s0 s1)))
def Pc_apply_519 (N : Nat) (rApply : Sh → St → Int → Int → Int → Option (Sh × St × Int))   (π : Sh) (σ : St) (s0 : Int) : Option (Sh × St × Int) := some (π, σ, s0)
def Pc_apply_516 (N : Nat) (rApply : Sh → St → Int → Int → Int → Option (Sh × St × Int))   (π : Sh) (σ : St) (s0 : Int) (s1 : Int) : Option (Sh × St × Int) := Option.bind (Df_add N π σ s1 s0) (fun r211 =>
 grd (ob π s1 1) (
 Pc_apply_519 N rApply r211.1 r211.2.1 r211.2.2))
def Pc_apply_512 (N : Nat) (rApply : Sh → St → Int → Int → Int → Option (Sh × St × Int))   (π : Sh) (σ : St) (x2 : Int) (s0 : Int) (s1 : Int) : Option (Sh × St × Int) := Option.bind (Sp_give N π σ s0 x2) (fun r145 =>
 grd (ob π s0 10) (
 Pc_apply_516 N rApply r145.1 r145.2.1 r145.2.2 s1))
def Pc_apply_529 (N : Nat) (rApply : Sh → St → Int → Int → Int → Option (Sh × St × Int))   (π : Sh) (σ : St) (s0 : Int) : Option (Sh × St × Int) := some (π, σ, s0)
def Pc_apply (N : Nat) (rApply : Sh → St → Int → Int → Int → Option (Sh × St × Int)) (π : Sh) (σ : St) (x0 : Int) (x1 : Int) (x2 : Int) : Option (Sh × St × Int) := grd (ob π x0 6) (
 grd (i32 (fl σ 120 x0)) (
 if (fl σ 120 x0) = 0 then
 Pc_apply_120 N rApply (nO π 10 14) (zO σ (nn π) dfl) x0 x2 (nn π) x1
 else (if (fl σ 120 x0) = 1 then
 Pc_apply_150 N rApply (nO π 10 14) (zO σ (nn π) dfl) x0 x2 (nn π) x1
 else (if (fl σ 120 x0) = 2 then
 Pc_apply_180 N rApply (nO π 10 14) (zO σ (nn π) dfl) x0 x2 (nn π) x1
 else (if (fl σ 120 x0) = 3 then
 Pc_apply_210 N rApply (nO π 10 14) (zO σ (nn π) dfl) x0 x2 (nn π) x1
 else (if (fl σ 120 x0) = 4 then
 Pc_apply_241 N rApply (nO π 10 14) (zO σ (nn π) dfl) x0 x2 (nn π) x1
 else (if (fl σ 120 x0) = 5 then
 Option.bind (Pc_applyWithFun N rApply π σ x0 x1 x2) (fun r14 =>
 Pc_apply_536 N rApply r14.1 r14.2.1 r14.2.2)
 else (if (fl σ 120 x0) = 6 then
 Option.bind (Pc_applyWithFun N rApply π σ x0 x1 x2) (fun r18 =>
 Pc_apply_536 N rApply r18.1 r18.2.1 r18.2.2)
 else (if (fl σ 120 x0) = 7 then
 Option.bind (Pc_applyWithFun N rApply π σ x0 x1 x2) (fun r22 =>
 Pc_apply_536 N rApply r22.1 r22.2.1 r22.2.2)
 else (if (fl σ 120 x0) = 8 then
 Option.bind (Pc_applyWithFun N rApply π σ x0 x1 x2) (fun r26 =>
 Pc_apply_536 N rApply r26.1 r26.2.1 r26.2.2)
 else (if (fl σ 120 x0) = 9 then
 Pc_apply_263 N rApply (nO π 10 14) (zO σ (nn π) dfl) x0 x2 (nn π) x1
 else (if (fl σ 120 x0) = 10 then
 Pc_apply_290 N rApply (nO π 10 14) (zO σ (nn π) dfl) x0 x2 (nn π) x1
 else (if (fl σ 120 x0) = 11 then
 Option.bind (Pc_applyWithFun N rApply π σ x0 x1 x2) (fun r34 =>
 Pc_apply_536 N rApply r34.1 r34.2.1 r34.2.2)
 else (if (fl σ 120 x0) = 12 then
 Option.bind (Pc_applyWithFun N rApply π σ x0 x1 x2) (fun r38 =>
 Pc_apply_536 N rApply r38.1 r38.2.1 r38.2.2)
 else (if (fl σ 120 x0) = 13 then
 Pc_apply_317 N rApply (nO π 10 14) (zO σ (nn π) dfl) x0 x2 (nn π) x1
 else (if (fl σ 120 x0) = 14 then
 Pc_apply_398 N rApply (nO π 10 14) (zO σ (nn π) dfl) x0 x2 (nn π) x1
 else (if (fl σ 120 x0) = 15 then
 Pc_apply_429 N rApply (nO π 10 14) (zO σ (nn π) dfl) x0 x2 (nn π) x1
 else (if (fl σ 120 x0) = 16 then
 Pc_apply_344 N rApply (nO π 10 14) (zO σ (nn π) dfl) x0 x2 (nn π) x1
 else (if (fl σ 120 x0) = 17 then
 Pc_apply_371 N rApply (nO π 10 14) (zO σ (nn π) dfl) x0 x2 (nn π) x1
 else (if (fl σ 120 x0) = 18 then
 Option.bind (Pc_applyWithFun N rApply π σ x0 x1 x2) (fun r52 =>
 Pc_apply_536 N rApply r52.1 r52.2.1 r52.2.2)
 else (if (fl σ 120 x0) = 19 then
 Option.bind (Pc_applyWithFun N rApply π σ x0 x1 x2) (fun r56 =>
 Pc_apply_536 N rApply r56.1 r56.2.1 r56.2.2)
 else (if (fl σ 120 x0) = 20 then
 Option.bind (Pc_spanStep N π σ x0 24) (fun r60 =>
 Pc_apply_499 N rApply r60.1 r60.2.1 x2 r60.2.2 x1)
 else (if (fl σ 120 x0) = 21 then
 Pc_apply_460 N rApply (nO π 10 14) (zO σ (nn π) dfl) x0 x2 (nn π) x1
 else (if (fl σ 120 x0) = 22 then
 Option.bind (Pc_useStep N π σ x0) (fun r66 =>
 Pc_apply_512 N rApply r66.1 r66.2.1 x2 r66.2.2 x1)
 else (if (fl σ 120 x0) = 23 then
 Option.bind (Pc_applyAll N rApply π σ (fl σ 126 x0) x1 x2) (fun r70 =>
 Pc_apply_529 N rApply r70.1 r70.2.1 r70.2.2)
 else (Option.bind (Pc_applyWithFun N rApply π σ x0 x1 x2) (fun r73 =>
 Pc_apply_536 N rApply r73.1 r73.2.1 r73.2.2)))))))))))))))))))))))))))
def Pc_applyC (N : Nat) : Nat → Sh → St → Int → Int → Int → Option (Sh × St × Int)
  | 0, _, _, _, _, _ => none
  | d + 1, π, σ, y0, y1, y2 => Pc_apply N (Pc_applyC N d) π σ y0 y1 y2
def Rd_hasMore (N : Nat)  (π : Sh) (σ : St)  : Option (St × Int) := grd (i32 (fl σ 185 1)) (
 if (fl σ 185 1) = 6 then
 some (σ, 0)
 else
 some (σ, 1))
def Sc_fail (N : Nat)  (π : Sh) (σ : St) (x1 : Int) (x2 : Int) : Option St := grd (i32 (fl σ 182 1)) (
 if (fl σ 182 1) = 0 then
 some (sf (sf σ 182 1 x1) 183 1 x2)
 else
 some σ)
def Tx_finish (N : Nat)  (π : Sh) (σ : St)  : Option St := grd (i32 (fl σ 222 50)) (
 grd (i32 (fl σ 223 50)) (
 if (fl σ 222 50) = (fl σ 223 50) then
 some σ
 else
 Option.bind (Sc_fail N π σ 1 (fl σ 222 50)) (fun r4 =>
 some r4)))
def Tx_here (N : Nat)  (π : Sh) (σ : St)  : Option (St × Int) := grd (i32 (fl σ 222 50)) (
 if (fl σ 222 50) < 2000 then
 grd (inb (fl σ 222 50) 2000) (
 some (σ, (el σ 2 (fl σ 222 50))))
 else
 some (σ, 0))
def Tx_skipBlanks_0 (N : Nat)  (π : Sh)  : Nat → St → Option St
  | 0, _ => none
  | n + 1, σ => grd (i32 (fl σ 222 50)) (
 grd (i32 (fl σ 223 50)) (
 if (fl σ 222 50) < (fl σ 223 50) then
 if (fl σ 222 50) < 2000 then
 grd (inb (fl σ 222 50) 2000) (
 grd (i32 (el σ 2 (fl σ 222 50))) (
 if (el σ 2 (fl σ 222 50)) = 32 then
 (Tx_skipBlanks_0 N π n) (sf σ 222 50 ((fl σ 222 50) + 1))
 else
 some σ))
 else
 some σ
 else
 some σ))
def Tx_skipBlanks (N : Nat)  (π : Sh) (σ : St)  : Option St := Tx_skipBlanks_0 N π N σ
def Tx_digits_148 (N : Nat)  (π : Sh)  (σ : St)  : Option (St × Int) := some (σ, (-1))
def Tx_digits_130 (N : Nat)  (π : Sh)  (σ : St) (x3 : Int) (s0 : Int) : Option (St × Int) := grd (i32 s0) (
 if s0 = 0 then
 grd (i32 (fl σ 222 50)) (
 grd (i32 (fl σ 225 50)) (
 if (fl σ 222 50) = (fl σ 225 50) then
 Tx_digits_148 N π σ
 else
 some (σ, x3)))
 else
 Tx_digits_148 N π σ)
def Tx_digits_129 (N : Nat)  (π : Sh)  (σ : St) (x3 : Int) : Option (St × Int) := Tx_digits_130 N π σ x3 0
def Tx_digits_92 (N : Nat)  (π : Sh)  (σ : St) (x3 : Int) : Option (St × Int) := grd (i32 (fl σ 222 50)) (
 grd (i32 (fl σ 223 50)) (
 if (fl σ 222 50) < (fl σ 223 50) then
 grd (inb (fl σ 222 50) 2000) (
 grd (i32 (el σ 2 (fl σ 222 50))) (
 if (el σ 2 (fl σ 222 50)) < 48 then
 Tx_digits_129 N π σ x3
 else
 if (57 : Int) < (el σ 2 (fl σ 222 50)) then
 Tx_digits_129 N π σ x3
 else
 Tx_digits_130 N π σ x3 1))
 else
 Tx_digits_129 N π σ x3))
def Tx_digits_18 (N : Nat)  (π : Sh)  : Nat → St → Int → Int → Option (St × Int)
  | 0, _, _, _ => none
  | n + 1, σ, x1, x3 => grd (i32 (fl σ 222 50)) (
 grd (i32 (fl σ 223 50)) (
 if (fl σ 222 50) < (fl σ 223 50) then
 grd (i32 ((fl σ 222 50) - (fl σ 225 50))) (
 grd (i32 x1) (
 if ((fl σ 222 50) - (fl σ 225 50)) < x1 then
 grd (inb (fl σ 222 50) 2000) (
 grd (i32 (el σ 2 (fl σ 222 50))) (
 if (el σ 2 (fl σ 222 50)) < 48 then
 Tx_digits_92 N π σ x3
 else
 if (57 : Int) < (el σ 2 (fl σ 222 50)) then
 Tx_digits_92 N π σ x3
 else
 bnd (((x3 * 10) + (el σ 2 (fl σ 222 50))) - 48) (fun v11 =>
 (Tx_digits_18 N π n) (sf σ 222 50 ((fl σ 222 50) + 1)) x1 v11)))
 else
 Tx_digits_92 N π σ x3))
 else
 Tx_digits_92 N π σ x3))
def Tx_digits (N : Nat)  (π : Sh) (σ : St) (x1 : Int) : Option (St × Int) := Tx_digits_18 N π N (sf σ 225 50 (fl σ 222 50)) x1 0
def Tx_number_40 (N : Nat)  (π : Sh)  (σ : St) (x3 : Int) : Option (St × Int) := Option.bind (Sc_fail N π σ 3 (fl σ 225 50)) (fun r19 =>
 some (r19, x3))
def Tx_number (N : Nat)  (π : Sh) (σ : St) (x1 : Int) (x2 : Int) : Option (St × Int) := Option.bind (Tx_skipBlanks N π σ) (fun r1 =>
 Option.bind (Tx_digits N π r1 4) (fun r5 =>
 grd (i32 r5.2) (
 if r5.2 = (-1) then
 Option.bind (Sc_fail N π r5.1 1 (fl r5.1 222 50)) (fun r15 =>
 some (r15, r5.2))
 else
 grd (i32 x1) (
 if r5.2 < x1 then
 Tx_number_40 N π r5.1 r5.2
 else
 grd (i32 x2) (
 if x2 < r5.2 then
 Tx_number_40 N π r5.1 r5.2
 else
 some (r5.1, r5.2))))))
def Tx_behindSign (N : Nat)  (π : Sh) (σ : St) (x1 : Int) : Option (St × Int) := Option.bind (Tx_skipBlanks N π σ) (fun r1 =>
 grd (i32 (fl r1 182 1)) (
 if (fl r1 182 1) = 0 then
 Option.bind (Tx_here N π r1) (fun r7 =>
 grd (i32 r7.2) (
 grd (i32 x1) (
 if r7.2 = x1 then
 bnd (sf r7.1 222 50 ((fl r7.1 222 50) + 1)) (fun σ14 =>
 Option.bind (Tx_number N π σ14 1 16) (fun r17 =>
 some (r17.1, r17.2)))
 else
 some (r7.1, 1))))
 else
 some (r1, 1)))
def Tx_take (N : Nat)  (π : Sh) (σ : St) (x1 : Int) : Option St := Option.bind (Tx_skipBlanks N π σ) (fun r1 =>
 Option.bind (Tx_here N π r1) (fun r5 =>
 grd (i32 r5.2) (
 grd (i32 x1) (
 if r5.2 = x1 then
 some (sf r5.1 222 50 ((fl r5.1 222 50) + 1))
 else
 Option.bind (Sc_fail N π r5.1 1 (fl r5.1 222 50)) (fun r12 =>
 some r12)))))
def Sc_opens (N : Nat)  (π : Sh) (σ : St) (x1 : Int) : Option (St × Int) := grd (i32 (fl σ 184 1)) (
 if (fl σ 184 1) < 20 then
 some ((sf σ 184 1 ((fl σ 184 1) + 1)), 1)
 else
 Option.bind (Sc_fail N π σ 4 x1) (fun r3 =>
 some (r3, 0)))
def Tx_euclid_179 (N : Nat)    (π : Sh) (σ : St) (s0 : Int) : Option (Sh × St × Int) := some (π, σ, s0)
def Tx_euclid_176 (N : Nat)    (π : Sh) (σ : St) (s0 : Int) (s1 : Int) : Option (Sh × St × Int) := Option.bind (Df_add N π σ s1 s0) (fun r74 =>
 grd (ob π s1 1) (
 Tx_euclid_179 N r74.1 r74.2.1 r74.2.2))
def Tx_euclid_138 (N : Nat)    (π : Sh) (σ : St) (x1 : Int) (x2 : Int) : Option (Sh × St × Int) := Option.bind (Tx_take N π σ 41) (fun r61 =>
 grd (i32 (fl r61 182 1)) (
 if (fl r61 182 1) = 0 then
 bnd (sf r61 184 1 ((fl r61 184 1) - 1)) (fun σ67 =>
 Option.bind (Sp_give N π σ67 x2 x1) (fun r70 =>
 grd (ob π x2 10) (
 Tx_euclid_176 N r70.1 r70.2.1 r70.2.2 (fl r61 221 50))))
 else
 some (π, (sf r61 184 1 ((fl r61 184 1) - 1)), 0)))
def Tx_euclid_94 (N : Nat)    (π : Sh) (σ : St) (x1 : Int) (x2 : Int) : Option (Sh × St × Int) := Option.bind (Tx_skipBlanks N π σ) (fun r41 =>
 grd (i32 (fl r41 182 1)) (
 if (fl r41 182 1) = 0 then
 Option.bind (Tx_here N π r41) (fun r47 =>
 grd (i32 r47.2) (
 if r47.2 = 44 then
 bnd (sf r47.1 222 50 ((fl r47.1 222 50) + 1)) (fun σ53 =>
 Option.bind (Tx_number N π σ53 0 31) (fun r56 =>
 grd (ob π x2 10) (
 Tx_euclid_138 N π (sf r56.1 204 x2 r56.2) x1 x2)))
 else
 Tx_euclid_138 N π r47.1 x1 x2))
 else
 Tx_euclid_138 N π r41 x1 x2))
def Tx_euclid_13 (N : Nat)    (π : Sh) (σ : St) (x1 : Int) (s0 : Int) : Option (Sh × St × Int) := Option.bind (Sc_opens N π σ (fl σ 222 50)) (fun r6 =>
 grd (i32 r6.2) (
 if r6.2 = 0 then
 some (π, r6.1, 0)
 else
 bnd (sf r6.1 222 50 ((fl r6.1 222 50) + 1)) (fun σ12 =>
 Option.bind (Tx_number N π σ12 0 9999) (fun r15 =>
 grd (ob π s0 10) (
 bnd (sf r15.1 202 s0 r15.2) (fun σ20 =>
 Option.bind (Tx_take N π σ20 44) (fun r23 =>
 Option.bind (Tx_number N π r23 1 32) (fun r27 =>
 grd (i32 (fl r27.1 202 s0)) (
 grd (i32 r27.2) (
 if r27.2 < (fl r27.1 202 s0) then
 bnd (sf r27.1 203 s0 r27.2) (fun σ34 =>
 Option.bind (Sc_fail N π σ34 3 (fl r15.1 225 50)) (fun r37 =>
 Tx_euclid_94 N π r37 x1 s0))
 else
 Tx_euclid_94 N π (sf r27.1 203 s0 r27.2) x1 s0))))))))))
def Tx_euclid_3 (N : Nat)    (π : Sh) (σ : St) (x1 : Int) (s0 : Int) : Option (Sh × St × Int) := Option.bind (Sp_init N π σ s0 7 (fl σ 222 50)) (fun r2 =>
 grd (ob π s0 10) (
 Tx_euclid_13 N r2.1 r2.2 x1 s0))
def Tx_euclid (N : Nat)  (π : Sh) (σ : St) (x1 : Int) : Option (Sh × St × Int) := Tx_euclid_3 N (nO π 10 14) (zO σ (nn π) dfl) x1 (nn π)
def Tx_mods_203 (N : Nat)   (rec4 : Sh → St → Int → Int → Option (Sh × St × Int)) (π : Sh) (σ : St) (x2 : Int) (x3 : Int) : Option (Sh × St × Int) := rec4 π σ x2 (x3 + 1)
def Tx_mods_118 (N : Nat)   (rec4 : Sh → St → Int → Int → Option (Sh × St × Int)) (π : Sh) (σ : St) (x3 : Int) (s0 : Int) : Option (Sh × St × Int) := Tx_mods_203 N rec4 π σ s0 x3
def Tx_mods_115 (N : Nat)   (rec4 : Sh → St → Int → Int → Option (Sh × St × Int)) (π : Sh) (σ : St) (x3 : Int) (s0 : Int) (s1 : Int) : Option (Sh × St × Int) := Option.bind (Df_add N π σ s1 s0) (fun r57 =>
 grd (ob π s1 1) (
 Tx_mods_118 N rec4 r57.1 r57.2.1 x3 r57.2.2))
def Tx_mods_111 (N : Nat)   (rec4 : Sh → St → Int → Int → Option (Sh × St × Int)) (π : Sh) (σ : St) (x2 : Int) (x3 : Int) (s0 : Int) (s1 : Int) : Option (Sh × St × Int) := Option.bind (Sp_give N π σ s0 x2) (fun r53 =>
 grd (ob π s0 10) (
 Tx_mods_115 N rec4 r53.1 r53.2.1 x3 r53.2.2 s1))
def Tx_mods_108 (N : Nat)   (rec4 : Sh → St → Int → Int → Option (Sh × St × Int)) (π : Sh) (σ : St) (x2 : Int) (x3 : Int) (s0 : Int) (s1 : Int) (s2 : Int) (s3 : Int) (s4 : Int) (s5 : Int) (s6 : Int) : Option (Sh × St × Int) := Option.bind (Sp_initB N π σ s4 s3 s2 s1 s0) (fun r49 =>
 grd (ob π s4 10) (
 Tx_mods_111 N rec4 r49.1 r49.2 x2 x3 s5 s6))
def Tx_mods_95 (N : Nat)   (rec4 : Sh → St → Int → Int → Option (Sh × St × Int)) (π : Sh) (σ : St) (x2 : Int) (x3 : Int) (x5 : Int) (x6 : Int) (s0 : Int) (s1 : Int) (s2 : Int) (s3 : Int) (s4 : Int) (s5 : Int) : Option (Sh × St × Int) := grd (i32 x5) (
 if x5 = 42 then
 Tx_mods_108 N rec4 π σ x2 x3 1 s0 s1 s2 s3 s4 s5
 else
 Tx_mods_108 N rec4 π σ x2 x3 x6 s0 s1 s2 s3 s4 s5)
def Tx_mods_77 (N : Nat)   (rec4 : Sh → St → Int → Int → Option (Sh × St × Int)) (π : Sh) (σ : St) (x2 : Int) (x3 : Int) (x4 : Int) (x5 : Int) (x6 : Int) (s0 : Int) (s1 : Int) : Option (Sh × St × Int) := grd (i32 x5) (
 if x5 = 42 then
 Tx_mods_95 N rec4 π σ x2 x3 x5 x6 x6 x4 9 s0 s0 s1
 else
 Tx_mods_95 N rec4 π σ x2 x3 x5 x6 1 x4 9 s0 s0 s1)
def Tx_mods_51 (N : Nat)   (rec4 : Sh → St → Int → Int → Option (Sh × St × Int)) (π : Sh) (σ : St) (x2 : Int) (x3 : Int) (x4 : Int) (x5 : Int) : Option (Sh × St × Int) := bnd (sf σ 222 50 ((fl σ 222 50) + 1)) (fun σ25 =>
 Option.bind (Tx_number N π σ25 1 32) (fun r28 =>
 Tx_mods_77 N rec4 (nO π 10 14) (zO r28.1 (nn π) dfl) x2 x3 x4 x5 r28.2 (nn π) (fl r28.1 221 50)))
def Tx_mods_134 (N : Nat)   (rec4 : Sh → St → Int → Int → Option (Sh × St × Int)) (π : Sh) (σ : St) (x3 : Int) (s0 : Int) : Option (Sh × St × Int) := Tx_mods_203 N rec4 π σ s0 x3
def Tx_mods_187 (N : Nat)   (rec4 : Sh → St → Int → Int → Option (Sh × St × Int)) (π : Sh) (σ : St) (x3 : Int) (s0 : Int) : Option (Sh × St × Int) := Tx_mods_203 N rec4 π (sf σ 224 50 ((fl σ 224 50) + 1)) s0 x3
def Tx_mods_184 (N : Nat)   (rec4 : Sh → St → Int → Int → Option (Sh × St × Int)) (π : Sh) (σ : St) (x3 : Int) (s0 : Int) (s1 : Int) : Option (Sh × St × Int) := Option.bind (Df_add N π σ s1 s0) (fun r45 =>
 grd (ob π s1 1) (
 Tx_mods_187 N rec4 r45.1 r45.2.1 x3 r45.2.2))
def Tx_mods_180 (N : Nat)   (rec4 : Sh → St → Int → Int → Option (Sh × St × Int)) (π : Sh) (σ : St) (x2 : Int) (x3 : Int) (s0 : Int) (s1 : Int) : Option (Sh × St × Int) := Option.bind (Sp_give N π σ s0 x2) (fun r39 =>
 grd (ob π s0 10) (
 Tx_mods_184 N rec4 r39.1 r39.2.1 x3 r39.2.2 s1))
def Tx_mods_162 (N : Nat)   (rec4 : Sh → St → Int → Int → Option (Sh × St × Int)) (π : Sh) (σ : St) (x2 : Int) (x3 : Int) (x4 : Int) (s0 : Int) (s1 : Int) : Option (Sh × St × Int) := Option.bind (Sp_initB N π σ s0 22 x4 500 ((fl σ 224 50) * 1000003)) (fun r33 =>
 grd (ob π s0 10) (
 Tx_mods_180 N rec4 r33.1 r33.2 x2 x3 s0 s1))
def Tx_mods_4 (N : Nat)    : Nat → Sh → St → Int → Int → Option (Sh × St × Int)
  | 0, _, _, _, _ => none
  | n + 1, π, σ, x2, x3 => grd (i32 x3) (
 if x3 < 2000 then
 grd (i32 (fl σ 182 1)) (
 if (fl σ 182 1) = 0 then
 Option.bind (Tx_skipBlanks N π σ) (fun r5 =>
 Option.bind (Tx_here N π r5) (fun r9 =>
 grd (i32 r9.2) (
 if r9.2 = 42 then
 Tx_mods_51 N (Tx_mods_4 N n) π r9.1 x2 x3 (fl r5 222 50) r9.2
 else
 if r9.2 = 47 then
 Tx_mods_51 N (Tx_mods_4 N n) π r9.1 x2 x3 (fl r5 222 50) r9.2
 else
 if r9.2 = 40 then
 Option.bind (Tx_euclid N π r9.1 x2) (fun r22 =>
 Tx_mods_134 N (Tx_mods_4 N n) r22.1 r22.2.1 x3 r22.2.2)
 else
 if r9.2 = 63 then
 bnd (sf r9.1 222 50 ((fl r9.1 222 50) + 1)) (fun σ18 =>
 Tx_mods_162 N (Tx_mods_4 N n) (nO π 10 14) (zO σ18 (nn π) dfl) x2 x3 (fl r5 222 50) (nn π) (fl r9.1 221 50))
 else
 some (π, r9.1, x2))))
 else
 some (π, σ, x2))
 else
 some (π, σ, x2))
def Tx_mods (N : Nat)  (π : Sh) (σ : St) (x1 : Int) : Option (Sh × St × Int) := Tx_mods_4 N N π σ x1 0
def Sc_isDigit (N : Nat)  (x0 : Int) : Option Int := grd (i32 x0) (
 if x0 < 48 then
 some 0
 else
 if (57 : Int) < x0 then
 some 0
 else
 some 1)
def Sc_isLetter (N : Nat)  (x0 : Int) : Option Int := grd (i32 x0) (
 if x0 < 97 then
 some 0
 else
 if (122 : Int) < x0 then
 some 0
 else
 some 1)
def Tx_startsPart_44 (N : Nat)     : Option Int := some 1
def Tx_startsPart (N : Nat)  (x0 : Int) : Option Int := Option.bind (Sc_isLetter N x0) (fun r1 =>
 grd (i32 r1) (
 if r1 = 0 then
 Option.bind (Sc_isDigit N x0) (fun r5 =>
 grd (i32 r5) (
 if r5 = 0 then
 grd (i32 x0) (
 if x0 = 45 then
 Tx_startsPart_44 N
 else
 if x0 = 126 then
 Tx_startsPart_44 N
 else
 if x0 = 91 then
 Tx_startsPart_44 N
 else
 if x0 = 60 then
 Tx_startsPart_44 N
 else
 if x0 = 123 then
 Tx_startsPart_44 N
 else
 some 0)
 else
 Tx_startsPart_44 N))
 else
 Tx_startsPart_44 N))
def Sc_byteAt (N : Nat)  (π : Sh) (σ : St) (x1 : Int) : Option (St × Int) := grd (i32 x1) (
 if x1 < 0 then
 some (σ, 0)
 else
 grd (i32 (fl σ 181 1)) (
 if x1 < (fl σ 181 1) then
 grd (inb x1 2000) (
 some (σ, (el σ 2 x1)))
 else
 some (σ, 0)))
def Sp_giveWeighted_123 (N : Nat)    (π : Sh) (σ : St) (x0 : Int) (x2 : Int) (x3 : Int) : Option (Sh × St) := grd (ob π x0 10) (
 grd (ob π (fl σ 211 x0) 22) (
 grd (ina π (fl σ 211 x0) ((fl σ 209 x0) - 1)) (
 grd (ob π (fl σ 212 x0) 22) (
 grd (ina π (fl σ 212 x0) ((fl σ 209 x0) - 1)) (
 grd (ob π (fl σ 213 x0) 22) (
 grd (ina π (fl σ 213 x0) ((fl σ 209 x0) - 1)) (
 some (π, (se (se (se (sf σ 202 x0 ((fl σ 202 x0) + (x2 * x3))) (fl σ 211 x0) ((fl σ 209 x0) - 1) x2) (fl σ 212 x0) ((fl σ 209 x0) - 1) x3) (fl σ 213 x0) ((fl σ 209 x0) - 1) ((fl σ 202 x0) + (x2 * x3)))))))))))
def Sp_giveWeighted_57 (N : Nat)    (π : Sh) (σ : St) (x0 : Int) (x2 : Int) (x3 : Int) (s0 : Int) (s1 : Int) : Option (Sh × St) := grd (ob π s1 10) (
 Sp_giveWeighted_123 N π (sf σ 213 s1 s0) x0 x2 x3)
def Sp_giveWeighted_46 (N : Nat)    (π : Sh) (σ : St) (x0 : Int) (x2 : Int) (x3 : Int) (s0 : Int) (s1 : Int) : Option (Sh × St) := grd (ob π s1 10) (
 grd (ob π x0 10) (
 grd (ob π (fl σ 210 x0) 22) (
 grd (0 ≤ ln π (fl σ 210 x0)) (
 bnd (sf σ 212 s1 s0) (fun σ66 =>
 grd (0 ≤ (ln π (fl σ 210 x0))) (
 grd ((ln π (fl σ 210 x0)) < 67108864) (
 Sp_giveWeighted_57 N (nA π 2 (ln π (fl σ 210 x0))) (zA σ66 (nn π) 0) x0 x2 x3 (nn π) x0)))))))
def Sp_giveWeighted_35 (N : Nat)    (π : Sh) (σ : St) (x0 : Int) (x2 : Int) (x3 : Int) (s0 : Int) (s1 : Int) : Option (Sh × St) := grd (ob π s1 10) (
 grd (ob π x0 10) (
 grd (ob π (fl σ 210 x0) 22) (
 grd (0 ≤ ln π (fl σ 210 x0)) (
 bnd (sf σ 211 s1 s0) (fun σ46 =>
 grd (0 ≤ (ln π (fl σ 210 x0))) (
 grd ((ln π (fl σ 210 x0)) < 67108864) (
 Sp_giveWeighted_46 N (nA π 2 (ln π (fl σ 210 x0))) (zA σ46 (nn π) 0) x0 x2 x3 (nn π) x0)))))))
def Sp_giveWeighted_27 (N : Nat)    (π : Sh) (σ : St) (x0 : Int) (x2 : Int) (x3 : Int) : Option (Sh × St) := grd (ob π x0 10) (
 grd (ob π (fl σ 210 x0) 22) (
 grd (0 ≤ ln π (fl σ 210 x0)) (
 grd (0 ≤ (ln π (fl σ 210 x0))) (
 grd ((ln π (fl σ 210 x0)) < 67108864) (
 Sp_giveWeighted_35 N (nA π 2 (ln π (fl σ 210 x0))) (zA σ (nn π) 0) x0 x2 x3 (nn π) x0)))))
def Sp_giveWeighted_120 (N : Nat)    (π : Sh) (σ : St) (x0 : Int) (x2 : Int) (x3 : Int) (s0 : Int) (s1 : Int) : Option (Sh × St) := grd (ob π s1 10) (
 Sp_giveWeighted_123 N π (sf σ 213 s1 s0) x0 x2 x3)
def Sp_giveWeighted_104 (N : Nat)    (π : Sh) (σ : St) (x0 : Int) (x2 : Int) (x3 : Int) (s0 : Int) (s1 : Int) : Option (Sh × St) := grd (ob π s1 10) (
 grd (ob π x0 10) (
 grd (ob π (fl σ 210 x0) 22) (
 grd (0 ≤ ln π (fl σ 210 x0)) (
 bnd (sf σ 212 s1 s0) (fun σ56 =>
 Option.bind (A_copy π σ56 (fl σ 213 x0) (ln π (fl σ 210 x0))) (fun r59 =>
 Sp_giveWeighted_120 N r59.1 r59.2.1 x0 x2 x3 r59.2.2 x0))))))
def Sp_giveWeighted_88 (N : Nat)    (π : Sh) (σ : St) (x0 : Int) (x2 : Int) (x3 : Int) (s0 : Int) (s1 : Int) : Option (Sh × St) := grd (ob π s1 10) (
 grd (ob π x0 10) (
 grd (ob π (fl σ 210 x0) 22) (
 grd (0 ≤ ln π (fl σ 210 x0)) (
 bnd (sf σ 211 s1 s0) (fun σ36 =>
 Option.bind (A_copy π σ36 (fl σ 212 x0) (ln π (fl σ 210 x0))) (fun r39 =>
 Sp_giveWeighted_104 N r39.1 r39.2.1 x0 x2 x3 r39.2.2 x0))))))
def Sp_giveWeighted_5 (N : Nat)    (π : Sh) (σ : St) (x0 : Int) (x2 : Int) (x3 : Int) (s0 : Int) : Option (Sh × St) := grd (ob π x0 10) (
 if (fl σ 211 x0) < 0 then
 Sp_giveWeighted_27 N π σ x0 x2 x3
 else
 if (fl σ 212 x0) < 0 then
 Sp_giveWeighted_27 N π σ x0 x2 x3
 else
 if (fl σ 213 x0) < 0 then
 Sp_giveWeighted_27 N π σ x0 x2 x3
 else
 grd (ob π (fl σ 211 x0) 22) (
 grd (0 ≤ ln π (fl σ 211 x0)) (
 grd (i32 (ln π (fl σ 211 x0))) (
 grd (i32 (fl σ 209 x0)) (
 if (ln π (fl σ 211 x0)) < (fl σ 209 x0) then
 grd (ob π (fl σ 210 x0) 22) (
 grd (0 ≤ ln π (fl σ 210 x0)) (
 Option.bind (A_copy π σ (fl σ 211 x0) (ln π (fl σ 210 x0))) (fun r16 =>
 Sp_giveWeighted_88 N r16.1 r16.2.1 x0 x2 x3 r16.2.2 x0)))
 else
 Sp_giveWeighted_123 N π σ x0 x2 x3)))))
def Sp_giveWeighted (N : Nat)  (π : Sh) (σ : St) (x0 : Int) (x1 : Int) (x2 : Int) (x3 : Int) : Option (Sh × St) := Option.bind (Sp_give N π σ x0 x1) (fun r1 =>
 grd (ob π x0 10) (
 Sp_giveWeighted_5 N r1.1 r1.2.1 x0 x2 x3 r1.2.2))
def Tx_steps_120 (N : Nat) (rPart : Sh → St → Option (Sh × St × Int))  (rec8 : Sh → St → Int → Int → Int → Option (Sh × St)) (π : Sh) (σ : St) (x1 : Int) (x3 : Int) (s0 : Int) : Option (Sh × St) := rec8 π σ x1 s0 (x3 + 1)
def Tx_steps_119 (N : Nat) (rPart : Sh → St → Option (Sh × St × Int))  (rec8 : Sh → St → Int → Int → Int → Option (Sh × St)) (π : Sh) (σ : St) (x1 : Int) (x3 : Int) : Option (Sh × St) := Tx_steps_120 N rPart rec8 π σ x1 x3 0
def Tx_steps_73 (N : Nat) (rPart : Sh → St → Option (Sh × St × Int))  (rec8 : Sh → St → Int → Int → Int → Option (Sh × St)) (π : Sh) (σ : St) (x1 : Int) (x3 : Int) : Option (Sh × St) := Option.bind (Tx_skipBlanks N π σ) (fun r29 =>
 grd (i32 (fl r29 182 1)) (
 if (fl r29 182 1) = 0 then
 Option.bind (Tx_here N π r29) (fun r35 =>
 Option.bind (Tx_startsPart N r35.2) (fun r39 =>
 grd (i32 r39) (
 if r39 = 0 then
 Tx_steps_119 N rPart rec8 π r35.1 x1 x3
 else
 Option.bind (Sc_byteAt N π r35.1 ((fl r35.1 222 50) - 1)) (fun r43 =>
 grd (i32 r43.2) (
 if r43.2 = 32 then
 Tx_steps_120 N rPart rec8 π r43.1 x1 x3 1
 else
 Tx_steps_119 N rPart rec8 π r43.1 x1 x3)))))
 else
 Tx_steps_119 N rPart rec8 π r29 x1 x3))
def Tx_steps_45 (N : Nat) (rPart : Sh → St → Option (Sh × St × Int))  (rec8 : Sh → St → Int → Int → Int → Option (Sh × St)) (π : Sh) (σ : St) (x1 : Int) (x3 : Int) (s0 : Int) : Option (Sh × St) := Option.bind (Tx_behindSign N π σ 64) (fun r17 =>
 Option.bind (Tx_behindSign N π r17.1 33) (fun r21 =>
 Option.bind (Sp_giveWeighted N π r21.1 x1 s0 r17.2 r21.2) (fun r25 =>
 grd (ob π x1 10) (
 Tx_steps_73 N rPart rec8 r25.1 r25.2 x1 x3))))
def Tx_steps_41 (N : Nat) (rPart : Sh → St → Option (Sh × St × Int))  (rec8 : Sh → St → Int → Int → Int → Option (Sh × St)) (π : Sh) (σ : St) (x1 : Int) (x3 : Int) (s0 : Int) : Option (Sh × St) := Tx_steps_45 N rPart rec8 π σ x1 x3 s0
def Tx_steps_23 (N : Nat) (rPart : Sh → St → Option (Sh × St × Int))  (rec8 : Sh → St → Int → Int → Int → Option (Sh × St)) (π : Sh) (σ : St) (x1 : Int) (x3 : Int) (s0 : Int) : Option (Sh × St) := grd (i32 (fl σ 182 1)) (
 if (fl σ 182 1) = 0 then
 Option.bind (Tx_mods N π σ s0) (fun r14 =>
 Tx_steps_41 N rPart rec8 r14.1 r14.2.1 x1 x3 r14.2.2)
 else
 Tx_steps_45 N rPart rec8 π σ x1 x3 0)
def Tx_steps_8 (N : Nat) (rPart : Sh → St → Option (Sh × St × Int))   : Nat → Sh → St → Int → Int → Int → Option (Sh × St)
  | 0, _, _, _, _, _ => none
  | n + 1, π, σ, x1, x2, x3 => grd (i32 x3) (
 if x3 < 2000 then
 grd (i32 x2) (
 if x2 = 0 then
 some (π, σ)
 else
 Option.bind (rPart π σ) (fun r9 =>
 Tx_steps_23 N rPart (Tx_steps_8 N rPart n) r9.1 r9.2.1 x1 x3 r9.2.2))
 else
 some (π, σ))
def Tx_steps (N : Nat) (rPart : Sh → St → Option (Sh × St × Int)) (π : Sh) (σ : St) (x1 : Int) : Option (Sh × St) := Option.bind (Tx_skipBlanks N π σ) (fun r1 =>
 Tx_steps_8 N rPart N π r1 x1 1 0)
def Tx_seq_40 (N : Nat) (rPart : Sh → St → Option (Sh × St × Int))   (π : Sh) (σ : St) (s0 : Int) : Option (Sh × St × Int) := some (π, σ, s0)
def Tx_seq_22 (N : Nat) (rPart : Sh → St → Option (Sh × St × Int))   (π : Sh) (σ : St) (x1 : Int) : Option (Sh × St × Int) := grd (i32 (fl σ 182 1)) (
 if (fl σ 182 1) = 0 then
 Option.bind (Df_add N π σ (fl σ 221 50) x1) (fun r15 =>
 grd (ob π (fl σ 221 50) 1) (
 Tx_seq_40 N rPart r15.1 r15.2.1 r15.2.2))
 else
 some (π, σ, 0))
def Tx_seq_16 (N : Nat) (rPart : Sh → St → Option (Sh × St × Int))   (π : Sh) (σ : St) (s0 : Int) : Option (Sh × St × Int) := Option.bind (Tx_steps N rPart π σ s0) (fun r10 =>
 Tx_seq_22 N rPart r10.1 r10.2 s0)
def Tx_seq_7 (N : Nat) (rPart : Sh → St → Option (Sh × St × Int))   (π : Sh) (σ : St) (s0 : Int) : Option (Sh × St × Int) := Option.bind (Sp_init N π σ s0 4 (fl σ 222 50)) (fun r6 =>
 grd (ob π s0 10) (
 Tx_seq_16 N rPart r6.1 r6.2 s0))
def Tx_seq (N : Nat) (rPart : Sh → St → Option (Sh × St × Int)) (π : Sh) (σ : St)  : Option (Sh × St × Int) := Option.bind (Tx_skipBlanks N π σ) (fun r1 =>
 Tx_seq_7 N rPart (nO π 10 14) (zO r1 (nn π) dfl) (nn π))
def Tx_bracket_72 (N : Nat) (rPart : Sh → St → Option (Sh × St × Int))  (rec18 : Sh → St → Int → Int → Int → Option (Sh × St × Int)) (π : Sh) (σ : St) (x1 : Int) (x3 : Int) (s0 : Int) : Option (Sh × St × Int) := rec18 π σ x1 s0 (x3 + 1)
def Tx_bracket_57 (N : Nat) (rPart : Sh → St → Option (Sh × St × Int))  (rec18 : Sh → St → Int → Int → Int → Option (Sh × St × Int)) (π : Sh) (σ : St) (x1 : Int) (x3 : Int) (s0 : Int) : Option (Sh × St × Int) := Option.bind (Tx_here N π σ) (fun r40 =>
 grd (i32 r40.2) (
 if r40.2 = 44 then
 Tx_bracket_72 N rPart rec18 π r40.1 x1 x3 1
 else
 Tx_bracket_72 N rPart rec18 π r40.1 x1 x3 0))
def Tx_bracket_54 (N : Nat) (rPart : Sh → St → Option (Sh × St × Int))  (rec18 : Sh → St → Int → Int → Int → Option (Sh × St × Int)) (π : Sh) (σ : St) (x1 : Int) (x3 : Int) (s0 : Int) (s1 : Int) : Option (Sh × St × Int) := Option.bind (Sp_give N π σ s1 s0) (fun r36 =>
 grd (ob π s1 10) (
 Tx_bracket_57 N rPart rec18 r36.1 r36.2.1 x1 x3 r36.2.2))
def Tx_bracket_135 (N : Nat) (rPart : Sh → St → Option (Sh × St × Int))   (π : Sh) (σ : St) (s0 : Int) : Option (Sh × St × Int) := some (π, σ, s0)
def Tx_bracket_79 (N : Nat) (rPart : Sh → St → Option (Sh × St × Int))   (π : Sh) (σ : St) (x1 : Int) : Option (Sh × St × Int) := Option.bind (Tx_take N π σ 93) (fun r18 =>
 grd (i32 (fl r18 182 1)) (
 if (fl r18 182 1) = 0 then
 grd (ob π x1 10) (
 grd (i32 (fl r18 209 x1)) (
 if (fl r18 209 x1) = 1 then
 grd (ob π (fl r18 210 x1) 22) (
 grd (ina π (fl r18 210 x1) 0) (
 Tx_bracket_135 N rPart π (sf r18 184 1 ((fl r18 184 1) - 1)) (el r18 (fl r18 210 x1) 0)))
 else
 bnd (sf r18 184 1 ((fl r18 184 1) - 1)) (fun σ27 =>
 Option.bind (Df_add N π σ27 (fl r18 221 50) x1) (fun r30 =>
 grd (ob π (fl r18 221 50) 1) (
 Tx_bracket_135 N rPart r30.1 r30.2.1 r30.2.2)))))
 else
 some (π, (sf r18 184 1 ((fl r18 184 1) - 1)), 0)))
def Tx_bracket_18 (N : Nat) (rPart : Sh → St → Option (Sh × St × Int))   : Nat → Sh → St → Int → Int → Int → Option (Sh × St × Int)
  | 0, _, _, _, _, _ => none
  | n + 1, π, σ, x1, x2, x3 => grd (i32 x3) (
 if x3 < 2000 then
 grd (i32 x2) (
 if x2 = 0 then
 Tx_bracket_79 N rPart π σ x1
 else
 grd (i32 (fl σ 182 1)) (
 if (fl σ 182 1) = 0 then
 bnd (sf σ 222 50 ((fl σ 222 50) + 1)) (fun σ12 =>
 Option.bind (Tx_seq N rPart π σ12) (fun r15 =>
 Tx_bracket_54 N rPart (Tx_bracket_18 N rPart n) r15.1 r15.2.1 x1 x3 r15.2.2 x1))
 else
 Tx_bracket_79 N rPart π σ x1))
 else
 Tx_bracket_79 N rPart π σ x1)
def Tx_bracket_13 (N : Nat) (rPart : Sh → St → Option (Sh × St × Int))   (π : Sh) (σ : St) (s0 : Int) : Option (Sh × St × Int) := Tx_bracket_18 N rPart N π σ s0 1 0
def Tx_bracket_3 (N : Nat) (rPart : Sh → St → Option (Sh × St × Int))   (π : Sh) (σ : St) (s0 : Int) : Option (Sh × St × Int) := Option.bind (Sp_init N π σ s0 8 (fl σ 222 50)) (fun r2 =>
 grd (ob π s0 10) (
 Tx_bracket_13 N rPart r2.1 r2.2 s0))
def Tx_bracket (N : Nat) (rPart : Sh → St → Option (Sh × St × Int)) (π : Sh) (σ : St)  : Option (Sh × St × Int) := Tx_bracket_3 N rPart (nO π 10 14) (zO σ (nn π) dfl) (nn π)
def Tx_poly_97 (N : Nat) (rPart : Sh → St → Option (Sh × St × Int))   (π : Sh) (σ : St) (s0 : Int) : Option (Sh × St × Int) := some (π, σ, s0)
def Tx_poly_76 (N : Nat) (rPart : Sh → St → Option (Sh × St × Int))   (π : Sh) (σ : St) (x1 : Int) (s0 : Int) (s1 : Int) : Option (Sh × St × Int) := grd (ob π s1 10) (
 grd (i32 (fl σ 182 1)) (
 if (fl σ 182 1) = 0 then
 bnd (sf σ 203 s1 s0) (fun σ32 =>
 Option.bind (Df_add N π σ32 (fl σ 221 50) x1) (fun r35 =>
 grd (ob π (fl σ 221 50) 1) (
 Tx_poly_97 N rPart r35.1 r35.2.1 r35.2.2)))
 else
 some (π, (sf σ 203 s1 s0), 0)))
def Tx_poly_29 (N : Nat) (rPart : Sh → St → Option (Sh × St × Int))   (π : Sh) (σ : St) (x1 : Int) : Option (Sh × St × Int) := Option.bind (Tx_take N π σ 125) (fun r12 =>
 bnd (sf r12 184 1 ((fl r12 184 1) - 1)) (fun σ16 =>
 Option.bind (Tx_take N π σ16 37) (fun r19 =>
 grd (i32 (fl r19 182 1)) (
 if (fl r19 182 1) = 0 then
 Option.bind (Tx_number N π r19 1 32) (fun r25 =>
 Tx_poly_76 N rPart π r25.1 x1 r25.2 x1)
 else
 Tx_poly_76 N rPart π r19 x1 1 x1))))
def Tx_poly_13 (N : Nat) (rPart : Sh → St → Option (Sh × St × Int))   (π : Sh) (σ : St) (s0 : Int) : Option (Sh × St × Int) := bnd (sf σ 222 50 ((fl σ 222 50) + 1)) (fun σ6 =>
 Option.bind (Tx_steps N rPart π σ6 s0) (fun r9 =>
 Tx_poly_29 N rPart r9.1 r9.2 s0))
def Tx_poly_3 (N : Nat) (rPart : Sh → St → Option (Sh × St × Int))   (π : Sh) (σ : St) (s0 : Int) : Option (Sh × St × Int) := Option.bind (Sp_init N π σ s0 6 (fl σ 222 50)) (fun r2 =>
 grd (ob π s0 10) (
 Tx_poly_13 N rPart r2.1 r2.2 s0))
def Tx_poly (N : Nat) (rPart : Sh → St → Option (Sh × St × Int)) (π : Sh) (σ : St)  : Option (Sh × St × Int) := Tx_poly_3 N rPart (nO π 10 14) (zO σ (nn π) dfl) (nn π)
def Tx_signedNumber_91 (N : Nat)    (π : Sh) (σ : St) (s0 : Int) : Option (Sh × St × Int) := some (π, σ, s0)
def Tx_signedNumber_88 (N : Nat)    (π : Sh) (σ : St) (s0 : Int) (s1 : Int) : Option (Sh × St × Int) := Option.bind (Df_add N π σ s1 s0) (fun r29 =>
 grd (ob π s1 1) (
 Tx_signedNumber_91 N r29.1 r29.2.1 r29.2.2))
def Tx_signedNumber_84 (N : Nat)    (π : Sh) (σ : St) (s0 : Int) (s1 : Int) (s2 : Int) (s3 : Int) (s4 : Int) (s5 : Int) : Option (Sh × St × Int) := Option.bind (Sp_initB N π σ s3 s2 s1 s0 0) (fun r25 =>
 grd (ob π s3 10) (
 Tx_signedNumber_88 N r25.1 r25.2 s4 s5))
def Tx_signedNumber_71 (N : Nat)    (π : Sh) (σ : St) (x1 : Int) (x2 : Int) (x3 : Int) (s0 : Int) (s1 : Int) : Option (Sh × St × Int) := grd (i32 x2) (
 if x2 = 0 then
 Tx_signedNumber_84 N π σ x3 x1 2 s0 s0 s1
 else
 Tx_signedNumber_84 N π σ (-x3) x1 2 s0 s0 s1)
def Tx_signedNumber_34 (N : Nat)    (π : Sh) (σ : St) (x1 : Int) (x2 : Int) (s0 : Int) (s1 : Int) : Option (Sh × St × Int) := bnd (sf σ 222 50 (s1 + s0)) (fun σ9 =>
 Option.bind (Tx_digits N π σ9 6) (fun r12 =>
 grd (i32 r12.2) (
 if r12.2 = (-1) then
 Option.bind (Sc_fail N π r12.1 1 (fl r12.1 222 50)) (fun r19 =>
 some (π, r19, 0))
 else
 Tx_signedNumber_71 N (nO π 10 14) (zO r12.1 (nn π) dfl) x1 x2 r12.2 (nn π) (fl r12.1 221 50))))
def Tx_signedNumber_19 (N : Nat)    (π : Sh) (σ : St) (x1 : Int) (s0 : Int) : Option (Sh × St × Int) := grd (i32 s0) (
 if s0 = 0 then
 Tx_signedNumber_34 N π σ x1 s0 0 (fl σ 222 50)
 else
 Tx_signedNumber_34 N π σ x1 s0 1 (fl σ 222 50))
def Tx_signedNumber (N : Nat)  (π : Sh) (σ : St)  : Option (Sh × St × Int) := Option.bind (Tx_here N π σ) (fun r1 =>
 grd (i32 r1.2) (
 if r1.2 = 45 then
 Tx_signedNumber_19 N π r1.1 (fl σ 222 50) 1
 else
 Tx_signedNumber_19 N π r1.1 (fl σ 222 50) 0))
def Tx_turn_65 (N : Nat) (rPart : Sh → St → Option (Sh × St × Int))   (π : Sh) (σ : St) (s0 : Int) : Option (Sh × St × Int) := some (π, σ, s0)
def Tx_turn_28 (N : Nat) (rPart : Sh → St → Option (Sh × St × Int))   (π : Sh) (σ : St) (x1 : Int) : Option (Sh × St × Int) := Option.bind (Tx_take N π σ 62) (fun r12 =>
 grd (i32 (fl r12 182 1)) (
 if (fl r12 182 1) = 0 then
 bnd (sf r12 184 1 ((fl r12 184 1) - 1)) (fun σ18 =>
 Option.bind (Df_add N π σ18 (fl r12 221 50) x1) (fun r21 =>
 grd (ob π (fl r12 221 50) 1) (
 Tx_turn_65 N rPart r21.1 r21.2.1 r21.2.2)))
 else
 some (π, (sf r12 184 1 ((fl r12 184 1) - 1)), 0)))
def Tx_turn_12 (N : Nat) (rPart : Sh → St → Option (Sh × St × Int))   (π : Sh) (σ : St) (s0 : Int) : Option (Sh × St × Int) := bnd (sf σ 222 50 ((fl σ 222 50) + 1)) (fun σ6 =>
 Option.bind (Tx_steps N rPart π σ6 s0) (fun r9 =>
 Tx_turn_28 N rPart r9.1 r9.2 s0))
def Tx_turn_3 (N : Nat) (rPart : Sh → St → Option (Sh × St × Int))   (π : Sh) (σ : St) (s0 : Int) : Option (Sh × St × Int) := Option.bind (Sp_init N π σ s0 5 (fl σ 222 50)) (fun r2 =>
 grd (ob π s0 10) (
 Tx_turn_12 N rPart r2.1 r2.2 s0))
def Tx_turn (N : Nat) (rPart : Sh → St → Option (Sh × St × Int)) (π : Sh) (σ : St)  : Option (Sh × St × Int) := Tx_turn_3 N rPart (nO π 10 14) (zO σ (nn π) dfl) (nn π)
def Tx_word_94 (N : Nat)    (π : Sh) (σ : St) (s0 : Int) : Option (Sh × St × Int) := some (π, σ, s0)
def Tx_word_86 (N : Nat)    (π : Sh) (σ : St) (x1 : Int) : Option (Sh × St × Int) := Option.bind (Df_add N π σ (fl σ 221 50) x1) (fun r27 =>
 grd (ob π (fl σ 221 50) 1) (
 Tx_word_94 N r27.1 r27.2.1 r27.2.2))
def Tx_word_15 (N : Nat)    : Nat → Sh → St → Int → Int → Option (Sh × St × Int)
  | 0, _, _, _, _ => none
  | n + 1, π, σ, x1, x2 => grd (i32 x2) (
 if (8 : Int) < x2 then
 Tx_word_86 N π σ x1
 else
 Option.bind (Tx_here N π σ) (fun r8 =>
 Option.bind (Sc_isLetter N r8.2) (fun r12 =>
 grd (i32 r12) (
 if r12 = 0 then
 Tx_word_86 N π r8.1 x1
 else
 if x2 = 8 then
 Option.bind (Sc_fail N π r8.1 1 (fl r8.1 222 50)) (fun r23 =>
 some (π, r23, 0))
 else
 grd (ob π x1 10) (
 Option.bind (Tx_here N π r8.1) (fun r18 =>
 grd (i32 r18.2) (
 (Tx_word_15 N n) π (sf (sf r18.1 207 x1 (lor (fl r8.1 207 x1) (lshl r18.2 (8 * x2)))) 222 50 ((fl r18.1 222 50) + 1)) x1 (x2 + 1))))))))
def Tx_word_12 (N : Nat)    (π : Sh) (σ : St) (s0 : Int) : Option (Sh × St × Int) := Tx_word_15 N N π σ s0 0
def Tx_word_3 (N : Nat)    (π : Sh) (σ : St) (s0 : Int) : Option (Sh × St × Int) := Option.bind (Sp_init N π σ s0 1 (fl σ 222 50)) (fun r2 =>
 grd (ob π s0 10) (
 Tx_word_12 N r2.1 r2.2 s0))
def Tx_word (N : Nat)  (π : Sh) (σ : St)  : Option (Sh × St × Int) := Tx_word_3 N (nO π 10 14) (zO σ (nn π) dfl) (nn π)
def Tx_part_16 (N : Nat) (rPart : Sh → St → Option (Sh × St × Int))   (π : Sh) (σ : St) (s0 : Int) : Option (Sh × St × Int) := some (π, σ, s0)
def Tx_part_34 (N : Nat) (rPart : Sh → St → Option (Sh × St × Int))   (π : Sh) (σ : St) (s0 : Int) : Option (Sh × St × Int) := some (π, σ, s0)
def Tx_part_30 (N : Nat) (rPart : Sh → St → Option (Sh × St × Int))   (π : Sh) (σ : St)  : Option (Sh × St × Int) := Option.bind (Tx_signedNumber N π σ) (fun r30 =>
 Tx_part_34 N rPart r30.1 r30.2.1 r30.2.2)
def Tx_part_72 (N : Nat) (rPart : Sh → St → Option (Sh × St × Int))   (π : Sh) (σ : St) (s0 : Int) : Option (Sh × St × Int) := some (π, σ, s0)
def Tx_part_69 (N : Nat) (rPart : Sh → St → Option (Sh × St × Int))   (π : Sh) (σ : St) (s0 : Int) (s1 : Int) : Option (Sh × St × Int) := Option.bind (Df_add N π σ s1 s0) (fun r55 =>
 grd (ob π s1 1) (
 Tx_part_72 N rPart r55.1 r55.2.1 r55.2.2))
def Tx_part_58 (N : Nat) (rPart : Sh → St → Option (Sh × St × Int))   (π : Sh) (σ : St) (s0 : Int) (s1 : Int) : Option (Sh × St × Int) := Option.bind (Sp_init N π σ s0 3 ((fl σ 222 50) - 1)) (fun r51 =>
 grd (ob π s0 10) (
 Tx_part_69 N rPart r51.1 r51.2 s0 s1))
def Tx_part_151 (N : Nat) (rPart : Sh → St → Option (Sh × St × Int))   (π : Sh) (σ : St) (s0 : Int) : Option (Sh × St × Int) := some (π, σ, s0)
def Tx_part_131 (N : Nat) (rPart : Sh → St → Option (Sh × St × Int))   (π : Sh) (σ : St) (s0 : Int) : Option (Sh × St × Int) := Tx_part_151 N rPart π σ s0
def Tx_part_144 (N : Nat) (rPart : Sh → St → Option (Sh × St × Int))   (π : Sh) (σ : St) (s0 : Int) : Option (Sh × St × Int) := Tx_part_151 N rPart π σ s0
def Tx_part_105 (N : Nat) (rPart : Sh → St → Option (Sh × St × Int))   (π : Sh) (σ : St) (x1 : Int) : Option (Sh × St × Int) := Option.bind (Sc_opens N π σ (fl σ 222 50)) (fun r33 =>
 grd (i32 r33.2) (
 if r33.2 = 0 then
 some (π, r33.1, 0)
 else
 grd (i32 x1) (
 if x1 = 91 then
 Option.bind (Tx_bracket N rPart π r33.1) (fun r48 =>
 Tx_part_131 N rPart r48.1 r48.2.1 r48.2.2)
 else
 if x1 = 60 then
 Option.bind (Tx_turn N rPart π r33.1) (fun r45 =>
 Tx_part_144 N rPart r45.1 r45.2.1 r45.2.2)
 else
 Option.bind (Tx_poly N rPart π r33.1) (fun r42 =>
 Tx_part_151 N rPart r42.1 r42.2.1 r42.2.2))))
def Tx_part (N : Nat) (rPart : Sh → St → Option (Sh × St × Int)) (π : Sh) (σ : St)  : Option (Sh × St × Int) := Option.bind (Tx_here N π σ) (fun r1 =>
 Option.bind (Sc_isLetter N r1.2) (fun r5 =>
 grd (i32 r5) (
 if r5 = 0 then
 Option.bind (Sc_isDigit N r1.2) (fun r9 =>
 grd (i32 r9) (
 if r9 = 0 then
 grd (i32 r1.2) (
 if r1.2 = 45 then
 Tx_part_30 N rPart π r1.1
 else
 if r1.2 = 126 then
 bnd (sf r1.1 222 50 ((fl r1.1 222 50) + 1)) (fun σ23 =>
 Tx_part_58 N rPart (nO π 10 14) (zO σ23 (nn π) dfl) (nn π) (fl r1.1 221 50))
 else
 if r1.2 = 91 then
 Tx_part_105 N rPart π r1.1 r1.2
 else
 if r1.2 = 60 then
 Tx_part_105 N rPart π r1.1 r1.2
 else
 if r1.2 = 123 then
 Tx_part_105 N rPart π r1.1 r1.2
 else
 Option.bind (Sc_fail N π r1.1 1 (fl r1.1 222 50)) (fun r19 =>
 some (π, r19, 0)))
 else
 Tx_part_30 N rPart π r1.1))
 else
 Option.bind (Tx_word N π r1.1) (fun r27 =>
 Tx_part_16 N rPart r27.1 r27.2.1 r27.2.2))))
def Tx_partC (N : Nat) : Nat → Sh → St → Option (Sh × St × Int)
  | 0, _, _ => none
  | d + 1, π, σ => Tx_part N (Tx_partC N d) π σ 
def Tx_start (N : Nat)  (π : Sh) (σ : St) (x1 : Int) (x2 : Int) (x3 : Int) : Option St := some (sf (sf (sf (sf σ 221 50 x1) 222 50 (x2 + 1)) 223 50 x3) 224 50 0)
def Rd_functionOf_2 (N : Nat)  (π : Sh)  : Nat → St → Int → Int → Option (St × Int)
  | 0, _, _, _ => none
  | n + 1, σ, x1, x3 => grd (i32 x3) (
 if x3 < 21 then
 grd (inb x3 21) (
 grd (i64 (el σ 45 x3)) (
 grd (i64 x1) (
 if (el σ 45 x3) = x1 then
 some (σ, x3)
 else
 (Rd_functionOf_2 N π n) σ x1 (x3 + 1))))
 else
 some (σ, (-1)))
def Rd_functionOf (N : Nat)  (π : Sh) (σ : St) (x1 : Int) : Option (St × Int) := Rd_functionOf_2 N π N σ x1 0
def Rd_kindOf_41 (N : Nat)  (π : Sh)  : Nat → St → Int → Int → Option (St × Int)
  | 0, _, _, _ => none
  | n + 1, σ, x1, x3 => Option.bind (L_size π σ 43) (fun r17 =>
 grd (i32 x3) (
 grd (i32 r17.2) (
 if x3 < r17.2 then
 Option.bind (L_get π r17.1 43 x3) (fun r24 =>
 grd (ob π r24.2 1) (
 grd (i64 (fl r24.1 20 r24.2)) (
 grd (i64 x1) (
 if (fl r24.1 20 r24.2) = x1 then
 Option.bind (L_get π r24.1 43 x3) (fun r32 =>
 grd (ob π r32.2 1) (
 grd (i32 (fl r32.1 22 r32.2)) (
 if (fl r32.1 22 r32.2) = 0 then
 some ((sf r32.1 146 44 r32.2), 3)
 else
 some ((sf r32.1 146 44 r32.2), 4))))
 else
 (Rd_kindOf_41 N π n) r24.1 x1 (x3 + 1)))))
 else
 some (r17.1, 0))))
def Rd_kindOf (N : Nat)  (π : Sh) (σ : St) (x1 : Int) : Option (St × Int) := Option.bind (Df_parameterIndex N π σ (fl σ 144 44) x1) (fun r1 =>
 grd (ob π (fl σ 144 44) 1) (
 grd (i32 r1.2) (
 if r1.2 < 0 then
 bnd (sf r1.1 145 44 r1.2) (fun σ8 =>
 Option.bind (Rd_functionOf N π σ8 x1) (fun r11 =>
 grd (i32 r11.2) (
 if r11.2 < 0 then
 Rd_kindOf_41 N π N (sf r11.1 145 44 r11.2) x1 0
 else
 some ((sf r11.1 145 44 r11.2), 2))))
 else
 some ((sf r1.1 145 44 r1.2), 1))))
def Sc_isOp_24 (N : Nat)     : Option Int := some 1
def Sc_isOp (N : Nat)  (x0 : Int) : Option Int := grd (i32 x0) (
 if x0 = 35 then
 Sc_isOp_24 N
 else
 if x0 = 43 then
 Sc_isOp_24 N
 else
 if x0 = 45 then
 Sc_isOp_24 N
 else
 if x0 = 42 then
 Sc_isOp_24 N
 else
 some 0)
def Sc_isSign_49 (N : Nat)     : Option Int := some 1
def Sc_isSign (N : Nat)  (x0 : Int) : Option Int := Option.bind (Sc_isOp N x0) (fun r1 =>
 grd (i32 r1) (
 if r1 = 0 then
 grd (i32 x0) (
 if x0 = 40 then
 Sc_isSign_49 N
 else
 if x0 = 41 then
 Sc_isSign_49 N
 else
 if x0 = 38 then
 Sc_isSign_49 N
 else
 if x0 = 59 then
 Sc_isSign_49 N
 else
 if x0 = 46 then
 Sc_isSign_49 N
 else
 if x0 = 61 then
 Sc_isSign_49 N
 else
 if x0 = 10 then
 Sc_isSign_49 N
 else
 some 0)
 else
 Sc_isSign_49 N))
def Sc_digitsBehind_2 (N : Nat)  (π : Sh)  : Nat → St → Int → Option (St × Int)
  | 0, _, _ => none
  | n + 1, σ, x2 => grd (i32 x2) (
 grd (i32 (fl σ 181 1)) (
 if x2 < (fl σ 181 1) then
 grd (inb x2 2000) (
 Option.bind (Sc_isDigit N (el σ 2 x2)) (fun r5 =>
 grd (i32 r5) (
 if r5 = 0 then
 some (σ, x2)
 else
 (Sc_digitsBehind_2 N π n) σ (x2 + 1))))
 else
 some (σ, x2)))
def Sc_digitsBehind (N : Nat)  (π : Sh) (σ : St) (x1 : Int) : Option (St × Int) := Sc_digitsBehind_2 N π N σ x1
def Sc_valueOf_5 (N : Nat)  (π : Sh)  : Nat → St → Int → Int → Int → Option (St × Int)
  | 0, _, _, _, _ => none
  | n + 1, σ, x2, x3, x4 => grd (i32 x4) (
 grd (i32 x2) (
 if x4 < x2 then
 Option.bind (Sc_byteAt N π σ x4) (fun r4 =>
 bnd (((x3 * 10) + r4.2) - 48) (fun v8 =>
 (Sc_valueOf_5 N π n) r4.1 x2 v8 (x4 + 1)))
 else
 some (σ, x3)))
def Sc_valueOf (N : Nat)  (π : Sh) (σ : St) (x1 : Int) (x2 : Int) : Option (St × Int) := Sc_valueOf_5 N π N σ x2 0 x1
def Sc_scanCount_145 (N : Nat)  (π : Sh)  (σ : St) (x2 : Int) : Option St := grd (i32 x2) (
 if x2 = 0 then
 some (sf σ 185 1 5)
 else
 some σ)
def Sc_scanCount_137 (N : Nat)  (π : Sh)  (σ : St) (x2 : Int) (s0 : Int) : Option St := Sc_scanCount_145 N π (sf (sf σ 190 1 s0) 185 1 3) x2
def Sc_scanCount_116 (N : Nat)  (π : Sh)  (σ : St) (x1 : Int) (s0 : Int) : Option St := grd (i32 s0) (
 if s0 = 0 then
 Sc_scanCount_137 N π σ s0 1
 else
 Option.bind (Sc_valueOf N π σ (x1 + 1) (fl σ 187 1)) (fun r42 =>
 Sc_scanCount_137 N π r42.1 s0 r42.2))
def Sc_scanCount_115 (N : Nat)  (π : Sh)  (σ : St) (x1 : Int) : Option St := Sc_scanCount_116 N π σ x1 0
def Sc_scanCount_43 (N : Nat)  (π : Sh)  (σ : St) (x1 : Int) (x2 : Int) (s0 : Int) : Option St := bnd (sf (sf (sf (sf σ 189 1 s0) 190 1 1) 187 1 x1) 185 1 2) (fun σ13 =>
 Option.bind (Sc_byteAt N π σ13 x1) (fun r16 =>
 grd (i32 r16.2) (
 if r16.2 = 58 then
 Option.bind (Sc_byteAt N π r16.1 (x1 + 1)) (fun r22 =>
 Option.bind (Sc_isDigit N r22.2) (fun r26 =>
 grd (i32 r26) (
 if r26 = 0 then
 Sc_scanCount_145 N π r22.1 x2
 else
 Option.bind (Sc_digitsBehind N π r22.1 (x1 + 1)) (fun r30 =>
 grd (i32 x2) (
 if x2 = 0 then
 Sc_scanCount_115 N π (sf r30.1 187 1 r30.2) x1
 else
 grd (i32 ((r30.2 - x1) - 1)) (
 if (4 : Int) < ((r30.2 - x1) - 1) then
 Sc_scanCount_115 N π (sf r30.1 187 1 r30.2) x1
 else
 Sc_scanCount_116 N π (sf r30.1 187 1 r30.2) x1 1))))))
 else
 Sc_scanCount_145 N π r16.1 x2)))
def Sc_scanCount_24 (N : Nat)  (π : Sh)  (σ : St) (x1 : Int) (s0 : Int) : Option St := grd (i32 s0) (
 if s0 = 0 then
 Sc_scanCount_43 N π σ x1 s0 0
 else
 Option.bind (Sc_valueOf N π σ (fl σ 186 1) x1) (fun r9 =>
 Sc_scanCount_43 N π r9.1 x1 s0 r9.2))
def Sc_scanCount (N : Nat)  (π : Sh) (σ : St)  : Option St := Option.bind (Sc_digitsBehind N π σ (fl σ 186 1)) (fun r1 =>
 grd (i32 (r1.2 - (fl r1.1 186 1))) (
 if (4 : Int) < (r1.2 - (fl r1.1 186 1)) then
 Sc_scanCount_24 N π r1.1 r1.2 0
 else
 Sc_scanCount_24 N π r1.1 r1.2 1))
def Sc_longer_28 (N : Nat)    (s0 : Int) (s1 : Int) : Option Int := grd (i32 s0) (
 some (s1 + s0))
def Sc_longer (N : Nat)  (x0 : Int) (x2 : Int) : Option Int := Option.bind (Sc_isDigit N x2) (fun r1 =>
 grd (i32 r1) (
 if r1 = 0 then
 Sc_longer_28 N ((x2 - 97) + 1) (x0 * 37)
 else
 Sc_longer_28 N ((x2 - 48) + 27) (x0 * 37)))
def Sc_scanName_42 (N : Nat)  (π : Sh) (rec10 : St → Int → Option St) (σ : St) (x1 : Int) : Option St := grd (inb x1 2000) (
 Option.bind (Sc_longer N (fl σ 188 1) (el σ 2 x1)) (fun r16 =>
 rec10 (sf σ 188 1 r16) (x1 + 1)))
def Sc_scanName_87 (N : Nat)  (π : Sh)  (σ : St) (s0 : Int) : Option St := some (sf σ 185 1 s0)
def Sc_scanName_65 (N : Nat)  (π : Sh)  (σ : St) (x1 : Int) : Option St := grd (i32 (x1 - (fl σ 186 1))) (
 if (12 : Int) < (x1 - (fl σ 186 1)) then
 Sc_scanName_87 N π (sf σ 187 1 x1) 5
 else
 Sc_scanName_87 N π (sf σ 187 1 x1) 1)
def Sc_scanName_10 (N : Nat)  (π : Sh)  : Nat → St → Int → Option St
  | 0, _, _ => none
  | n + 1, σ, x1 => grd (i32 x1) (
 grd (i32 (fl σ 181 1)) (
 if x1 < (fl σ 181 1) then
 grd (inb x1 2000) (
 Option.bind (Sc_isLetter N (el σ 2 x1)) (fun r5 =>
 grd (i32 r5) (
 if r5 = 0 then
 Option.bind (Sc_isDigit N (el σ 2 x1)) (fun r9 =>
 grd (i32 r9) (
 if r9 = 0 then
 Sc_scanName_65 N π σ x1
 else
 Sc_scanName_42 N π (Sc_scanName_10 N π n) σ x1))
 else
 Sc_scanName_42 N π (Sc_scanName_10 N π n) σ x1)))
 else
 Sc_scanName_65 N π σ x1))
def Sc_scanName (N : Nat)  (π : Sh) (σ : St)  : Option St := Sc_scanName_10 N π N (sf σ 188 1 0) (fl σ 186 1)
def Sc_scanText_87 (N : Nat)  (π : Sh)  (σ : St) (s0 : Int) : Option St := some (sf σ 185 1 s0)
def Sc_scanText_69 (N : Nat)  (π : Sh)  (σ : St) (x1 : Int) (s0 : Int) : Option St := grd (i32 s0) (
 if s0 = 0 then
 Sc_scanText_87 N π (sf σ 187 1 (x1 + 1)) 5
 else
 Sc_scanText_87 N π (sf σ 187 1 (x1 + 1)) 4)
def Sc_scanText_54 (N : Nat)  (π : Sh)  (σ : St) (x1 : Int) : Option St := Option.bind (Sc_byteAt N π σ x1) (fun r11 =>
 grd (i32 r11.2) (
 if r11.2 = 34 then
 Sc_scanText_69 N π r11.1 x1 1
 else
 Sc_scanText_69 N π r11.1 x1 0))
def Sc_scanText_7 (N : Nat)  (π : Sh)  : Nat → St → Int → Option St
  | 0, _, _ => none
  | n + 1, σ, x1 => grd (i32 x1) (
 grd (i32 (fl σ 181 1)) (
 if x1 < (fl σ 181 1) then
 grd (inb x1 2000) (
 grd (i32 (el σ 2 x1)) (
 if (el σ 2 x1) < 32 then
 Sc_scanText_54 N π σ x1
 else
 if (126 : Int) < (el σ 2 x1) then
 Sc_scanText_54 N π σ x1
 else
 if (el σ 2 x1) = 34 then
 Sc_scanText_54 N π σ x1
 else
 (Sc_scanText_7 N π n) σ (x1 + 1)))
 else
 Sc_scanText_54 N π σ x1))
def Sc_scanText (N : Nat)  (π : Sh) (σ : St)  : Option St := bnd ((fl σ 186 1) + 1) (fun v1 =>
 Sc_scanText_7 N π N σ v1)
def Sc_advance_147 (N : Nat)  (π : Sh)  (σ : St) (s0 : Int) : Option St := some (sf σ 185 1 s0)
def Sc_advance_46 (N : Nat)  (π : Sh)  (σ : St)  : Option St := bnd (sf σ 187 1 ((fl σ 186 1) + 1)) (fun σ7 =>
 Option.bind (Sc_byteAt N π σ7 (fl σ 186 1)) (fun r10 =>
 grd (i32 (fl r10.1 186 1)) (
 grd (i32 (fl r10.1 181 1)) (
 if (fl r10.1 186 1) < (fl r10.1 181 1) then
 Option.bind (Sc_isLetter N r10.2) (fun r17 =>
 grd (i32 r17) (
 if r17 = 0 then
 Option.bind (Sc_isDigit N r10.2) (fun r21 =>
 grd (i32 r21) (
 if r21 = 0 then
 grd (i32 r10.2) (
 if r10.2 = 34 then
 Option.bind (Sc_scanText N π r10.1) (fun r31 =>
 some r31)
 else
 Option.bind (Sc_isSign N r10.2) (fun r27 =>
 grd (i32 r27) (
 if r27 = 0 then
 Sc_advance_147 N π r10.1 5
 else
 Sc_advance_147 N π r10.1 r10.2)))
 else
 Option.bind (Sc_scanCount N π r10.1) (fun r35 =>
 some r35)))
 else
 Option.bind (Sc_scanName N π r10.1) (fun r39 =>
 some r39)))
 else
 some (sf (sf r10.1 185 1 6) 187 1 (fl r10.1 186 1))))))
def Sc_advance_8 (N : Nat)  (π : Sh)  : Nat → St → Option St
  | 0, _ => none
  | n + 1, σ => grd (i32 (fl σ 186 1)) (
 grd (i32 (fl σ 181 1)) (
 if (fl σ 186 1) < (fl σ 181 1) then
 grd (inb (fl σ 186 1) 2000) (
 grd (i32 (el σ 2 (fl σ 186 1))) (
 if (el σ 2 (fl σ 186 1)) = 32 then
 (Sc_advance_8 N π n) (sf σ 186 1 ((fl σ 186 1) + 1))
 else
 Sc_advance_46 N π σ))
 else
 Sc_advance_46 N π σ))
def Sc_advance (N : Nat)  (π : Sh) (σ : St)  : Option St := Sc_advance_8 N π N (sf σ 186 1 (fl σ 187 1))
def Rd_count_31 (N : Nat)  (π : Sh)  (σ : St) (s0 : Int) : Option St := Option.bind (Sc_fail N π σ s0 (fl σ 186 1)) (fun r16 =>
 some r16)
def Rd_count_140 (N : Nat)  (π : Sh)  (σ : St)  : Option St := Option.bind (Sc_fail N π σ 3 (fl σ 186 1)) (fun r28 =>
 some r28)
def Rd_count_185 (N : Nat)  (π : Sh)  (σ : St)  : Option St := Option.bind (Sc_advance N π σ) (fun r36 =>
 some r36)
def Rd_count_156 (N : Nat)  (π : Sh)  (σ : St) (x1 : Int) (x2 : Int) : Option St := grd (i32 x2) (
 if x2 = 0 then
 grd (ob π x1 6) (
 Rd_count_185 N π (sf σ 123 x1 (fl σ 189 1)))
 else
 grd (ob π x1 6) (
 Rd_count_185 N π (sf σ 122 x1 (fl σ 189 1))))
def Rd_count_111 (N : Nat)  (π : Sh)  (σ : St) (x1 : Int) (x2 : Int) (x4 : Int) (s0 : Int) : Option St := grd (i32 (fl σ 189 1)) (
 grd (i32 s0) (
 if s0 < (fl σ 189 1) then
 Rd_count_140 N π σ
 else
 if (fl σ 189 1) = 0 then
 grd (i32 x4) (
 if x4 = 0 then
 Rd_count_140 N π σ
 else
 Rd_count_156 N π σ x1 x2)
 else
 Rd_count_156 N π σ x1 x2))
def Rd_count_97 (N : Nat)  (π : Sh)  (σ : St) (x1 : Int) (x2 : Int) (x3 : Int) (s0 : Int) : Option St := grd (i32 x3) (
 if x3 = 0 then
 Rd_count_111 N π σ x1 x2 s0 32
 else
 Rd_count_111 N π σ x1 x2 s0 1000)
def Rd_count_92 (N : Nat)  (π : Sh)  (σ : St) (x1 : Int) (x2 : Int) (x3 : Int) : Option St := Rd_count_97 N π σ x1 x2 x3 1
def Rd_count_74 (N : Nat)  (π : Sh)  (σ : St) (x1 : Int) (x2 : Int) (s0 : Int) : Option St := grd (i32 s0) (
 if s0 = 0 then
 grd (ob π x1 6) (
 grd (i32 (fl σ 120 x1)) (
 if (fl σ 120 x1) = 13 then
 Rd_count_92 N π σ x1 x2 s0
 else
 grd (i32 x2) (
 if x2 = 0 then
 Rd_count_92 N π σ x1 x2 s0
 else
 Rd_count_97 N π σ x1 x2 s0 0)))
 else
 Rd_count_92 N π σ x1 x2 s0)
def Rd_count_69 (N : Nat)  (π : Sh)  (σ : St) (x1 : Int) (x2 : Int) : Option St := Rd_count_74 N π σ x1 x2 1
def Rd_count (N : Nat)  (π : Sh) (σ : St) (x1 : Int) (x2 : Int) : Option St := grd (i32 (fl σ 185 1)) (
 if (fl σ 185 1) = 2 then
 grd (ob π x1 6) (
 grd (i32 (fl σ 120 x1)) (
 if (fl σ 120 x1) = 16 then
 Rd_count_69 N π σ x1 x2
 else
 if (fl σ 120 x1) = 17 then
 Rd_count_69 N π σ x1 x2
 else
 if (fl σ 120 x1) = 18 then
 Rd_count_69 N π σ x1 x2
 else
 Rd_count_74 N π σ x1 x2 0))
 else
 if (fl σ 185 1) = 3 then
 Rd_count_31 N π σ 3
 else
 Rd_count_31 N π σ 1)
def Rd_fraction_172 (N : Nat)  (π : Sh)  (σ : St)  : Option St := Option.bind (Sc_fail N π σ 3 (fl σ 186 1)) (fun r37 =>
 some r37)
def Rd_fraction_240 (N : Nat)  (π : Sh)  (σ : St)  : Option St := Option.bind (Sc_advance N π σ) (fun r53 =>
 some r53)
def Rd_fraction_188 (N : Nat)  (π : Sh)  (σ : St) (x1 : Int) (x2 : Int) (x3 : Int) (x4 : Int) : Option St := grd (i32 x3) (
 grd (i32 x4) (
 Option.bind (Pt_gcd N x3 x4) (fun r43 =>
 grd (i32 x2) (
 if x2 = 0 then
 grd (i32 r43) (
 grd (¬ r43 = 0) (
 grd (ob π x1 6) (
 Rd_fraction_240 N π (sf (sf σ 124 x1 (Int.tdiv x3 r43)) 125 x1 (Int.tdiv x4 r43)))))
 else
 grd (i32 r43) (
 grd (¬ r43 = 0) (
 grd (ob π x1 6) (
 Rd_fraction_240 N π (sf (sf σ 122 x1 (Int.tdiv x3 r43)) 123 x1 (Int.tdiv x4 r43)))))))))
def Rd_fraction_145 (N : Nat)  (π : Sh)  (σ : St) (x1 : Int) (x2 : Int) (x3 : Int) (x4 : Int) (s0 : Int) : Option St := grd (i32 s0) (
 if s0 = 0 then
 Rd_fraction_172 N π σ
 else
 grd (i32 x2) (
 if x2 = 0 then
 grd (ob π x1 6) (
 grd (i32 (x3 * (fl σ 123 x1))) (
 grd (i32 ((fl σ 122 x1) * x4)) (
 if ((fl σ 122 x1) * x4) < (x3 * (fl σ 123 x1)) then
 Rd_fraction_188 N π σ x1 x2 x3 x4
 else
 Rd_fraction_172 N π σ)))
 else
 Rd_fraction_188 N π σ x1 x2 x3 x4))
def Rd_fraction_140 (N : Nat)  (π : Sh)  (σ : St) (x1 : Int) (x2 : Int) (x3 : Int) (x4 : Int) : Option St := Rd_fraction_145 N π σ x1 x2 x3 x4 1
def Rd_fraction_144 (N : Nat)  (π : Sh)  (σ : St) (x1 : Int) (x2 : Int) (x3 : Int) (x4 : Int) : Option St := Rd_fraction_145 N π σ x1 x2 x3 x4 0
def Rd_fraction_129 (N : Nat)  (π : Sh)  (σ : St) (x1 : Int) (x2 : Int) (x3 : Int) (x4 : Int) (x6 : Int) : Option St := grd (i32 x6) (
 if x6 = 0 then
 Rd_fraction_140 N π σ x1 x2 x3 x4
 else
 grd (i32 x3) (
 grd (i32 x4) (
 if x4 < x3 then
 Rd_fraction_144 N π σ x1 x2 x3 x4
 else
 Rd_fraction_140 N π σ x1 x2 x3 x4)))
def Rd_fraction_100 (N : Nat)  (π : Sh)  (σ : St) (x1 : Int) (x2 : Int) (x3 : Int) (x4 : Int) (x5 : Int) (s0 : Int) : Option St := grd (i32 x3) (
 if (64 : Int) < x3 then
 Rd_fraction_144 N π σ x1 x2 x3 x4
 else
 grd (i32 x4) (
 if (64 : Int) < x4 then
 Rd_fraction_144 N π σ x1 x2 x3 x4
 else
 if (0 : Int) < x4 then
 grd (i32 x5) (
 if x5 = 0 then
 Rd_fraction_129 N π σ x1 x2 x3 x4 s0
 else
 if x3 = 0 then
 Rd_fraction_144 N π σ x1 x2 x3 x4
 else
 Rd_fraction_129 N π σ x1 x2 x3 x4 s0)
 else
 Rd_fraction_144 N π σ x1 x2 x3 x4))
def Rd_fraction_95 (N : Nat)  (π : Sh)  (σ : St) (x1 : Int) (x2 : Int) (x3 : Int) (x4 : Int) (x5 : Int) : Option St := Rd_fraction_100 N π σ x1 x2 x3 x4 x5 1
def Rd_fraction_75 (N : Nat)  (π : Sh)  (σ : St) (x1 : Int) (x2 : Int) (x3 : Int) (x4 : Int) (s0 : Int) : Option St := grd (ob π x1 6) (
 grd (i32 (fl σ 120 x1)) (
 if (fl σ 120 x1) = 19 then
 Rd_fraction_95 N π σ x1 x2 x3 x4 s0
 else
 if (fl σ 120 x1) = 20 then
 Rd_fraction_95 N π σ x1 x2 x3 x4 s0
 else
 Rd_fraction_100 N π σ x1 x2 x3 x4 s0 0))
def Rd_fraction_70 (N : Nat)  (π : Sh)  (σ : St) (x1 : Int) (x2 : Int) (x3 : Int) (x4 : Int) : Option St := Rd_fraction_75 N π σ x1 x2 x3 x4 1
def Rd_fraction_38 (N : Nat)  (π : Sh)  (σ : St) (x1 : Int) (x2 : Int) : Option St := grd (ob π x1 6) (
 grd (i32 (fl σ 120 x1)) (
 if (fl σ 120 x1) = 0 then
 Rd_fraction_70 N π σ x1 x2 (fl σ 189 1) (fl σ 190 1)
 else
 if (fl σ 120 x1) = 1 then
 Rd_fraction_70 N π σ x1 x2 (fl σ 189 1) (fl σ 190 1)
 else
 Rd_fraction_75 N π σ x1 x2 (fl σ 189 1) (fl σ 190 1) 0))
def Rd_fraction (N : Nat)  (π : Sh) (σ : St) (x1 : Int) (x2 : Int) : Option St := grd (i32 (fl σ 185 1)) (
 if (fl σ 185 1) = 2 then
 Rd_fraction_38 N π σ x1 x2
 else
 if (fl σ 185 1) = 3 then
 Rd_fraction_38 N π σ x1 x2
 else
 Option.bind (Sc_fail N π σ 1 (fl σ 186 1)) (fun r4 =>
 some r4))
def Rd_wants_147 (N : Nat) (rArg : Sh → St → Option (Sh × St × Int)) (rFun : Sh → St → Option (Sh × St × Int))  (rec9 : Sh → St → Int → Int → Int → Option (Sh × St)) (π : Sh) (σ : St) (x1 : Int) (x2 : Int) (x3 : Int) : Option (Sh × St) := rec9 π σ x1 x2 (x3 + 1)
def Rd_wants_144 (N : Nat) (rArg : Sh → St → Option (Sh × St × Int)) (rFun : Sh → St → Option (Sh × St × Int))  (rec9 : Sh → St → Int → Int → Int → Option (Sh × St)) (π : Sh) (σ : St) (x1 : Int) (x2 : Int) (x3 : Int) (s0 : Int) (s1 : Int) : Option (Sh × St) := Option.bind (Pc_give N π σ s1 s0) (fun r37 =>
 grd (ob π s1 6) (
 Rd_wants_147 N rArg rFun rec9 π r37 x1 x2 x3))
def Rd_wants_99 (N : Nat) (rArg : Sh → St → Option (Sh × St × Int)) (rFun : Sh → St → Option (Sh × St × Int))  (rec9 : Sh → St → Int → Int → Int → Option (Sh × St)) (π : Sh) (σ : St) (x1 : Int) (x2 : Int) (x3 : Int) (s0 : Int) (s1 : Int) : Option (Sh × St) := Option.bind (Rd_fraction N π σ s1 s0) (fun r28 =>
 Rd_wants_147 N rArg rFun rec9 π r28 x1 x2 x3)
def Rd_wants_127 (N : Nat) (rArg : Sh → St → Option (Sh × St × Int)) (rFun : Sh → St → Option (Sh × St × Int))  (rec9 : Sh → St → Int → Int → Int → Option (Sh × St)) (π : Sh) (σ : St) (x1 : Int) (x2 : Int) (x3 : Int) (s0 : Int) (s1 : Int) : Option (Sh × St) := grd (ob π s1 6) (
 Rd_wants_147 N rArg rFun rec9 π (sf σ 126 s1 s0) x1 x2 x3)
def Rd_wants_116 (N : Nat) (rArg : Sh → St → Option (Sh × St × Int)) (rFun : Sh → St → Option (Sh × St × Int))  (rec9 : Sh → St → Int → Int → Int → Option (Sh × St)) (π : Sh) (σ : St) (x1 : Int) (x2 : Int) (x3 : Int) (s0 : Int) (s1 : Int) : Option (Sh × St) := Option.bind (Rd_count N π σ s1 s0) (fun r33 =>
 Rd_wants_147 N rArg rFun rec9 π r33 x1 x2 x3)
def Rd_wants_44 (N : Nat) (rArg : Sh → St → Option (Sh × St × Int)) (rFun : Sh → St → Option (Sh × St × Int))  (rec9 : Sh → St → Int → Int → Int → Option (Sh × St)) (π : Sh) (σ : St) (x1 : Int) (x2 : Int) (x3 : Int) (s0 : Int) : Option (Sh × St) := grd (inb (x2 + x3) 84) (
 grd (i32 (chW (x2 + x3))) (
 if (chW (x2 + x3)) = 65 then
 grd (i32 x3) (
 if x3 = 0 then
 Rd_wants_99 N rArg rFun rec9 π σ x1 x2 x3 1 x1
 else
 Rd_wants_99 N rArg rFun rec9 π σ x1 x2 x3 0 x1)
 else (if (chW (x2 + x3)) = 70 then
 Option.bind (rFun π σ) (fun r17 =>
 Rd_wants_127 N rArg rFun rec9 r17.1 r17.2.1 x1 x2 x3 r17.2.2 x1)
 else (if (chW (x2 + x3)) = 78 then
 grd (i32 x3) (
 if x3 = 0 then
 Rd_wants_116 N rArg rFun rec9 π σ x1 x2 x3 1 x1
 else
 Rd_wants_116 N rArg rFun rec9 π σ x1 x2 x3 0 x1)
 else (grd (i32 s0) (
 if s0 = 0 then
 Option.bind (rArg π σ) (fun r25 =>
 Rd_wants_144 N rArg rFun rec9 r25.1 r25.2.1 x1 x2 x3 r25.2.2 x1)
 else
 some (π, σ)))))))
def Rd_wants_9 (N : Nat) (rArg : Sh → St → Option (Sh × St × Int)) (rFun : Sh → St → Option (Sh × St × Int))   : Nat → Sh → St → Int → Int → Int → Option (Sh × St)
  | 0, _, _, _, _, _ => none
  | n + 1, π, σ, x1, x2, x3 => grd (i32 x3) (
 if x3 < 3 then
 grd (i32 (fl σ 182 1)) (
 if (fl σ 182 1) = 0 then
 grd (inb ((x2 + x3) + 1) 84) (
 grd (i32 (chW ((x2 + x3) + 1))) (
 if (chW ((x2 + x3) + 1)) = 32 then
 Rd_wants_44 N rArg rFun (Rd_wants_9 N rArg rFun n) π σ x1 x2 x3 1
 else
 Rd_wants_44 N rArg rFun (Rd_wants_9 N rArg rFun n) π σ x1 x2 x3 0))
 else
 some (π, σ))
 else
 some (π, σ))
def Rd_wants (N : Nat) (rArg : Sh → St → Option (Sh × St × Int)) (rFun : Sh → St → Option (Sh × St × Int)) (π : Sh) (σ : St) (x1 : Int) : Option (Sh × St) := grd (ob π x1 6) (
 bnd ((fl σ 120 x1) * 4) (fun v2 =>
 Rd_wants_9 N rArg rFun N π σ x1 v2 0))
def Rd_named_46 (N : Nat) (rArg : Sh → St → Option (Sh × St × Int)) (rFun : Sh → St → Option (Sh × St × Int))   (π : Sh) (σ : St) (x2 : Int) : Option (Sh × St × Int) := some (π, σ, x2)
def Rd_named_97 (N : Nat) (rArg : Sh → St → Option (Sh × St × Int)) (rFun : Sh → St → Option (Sh × St × Int))  (rec76 : Sh → St → Int → Int → Int → Option (Sh × St × Int)) (π : Sh) (σ : St) (x2 : Int) (x3 : Int) (x4 : Int) (s0 : Int) (s1 : Int) : Option (Sh × St × Int) := Option.bind (Pc_give N π σ s1 s0) (fun r36 =>
 grd (ob π s1 6) (
 rec76 π r36 x2 x3 (x4 + 1)))
def Rd_named_106 (N : Nat) (rArg : Sh → St → Option (Sh × St × Int)) (rFun : Sh → St → Option (Sh × St × Int))   (π : Sh) (σ : St) (x2 : Int) : Option (Sh × St × Int) := some (π, σ, x2)
def Rd_named_76 (N : Nat) (rArg : Sh → St → Option (Sh × St × Int)) (rFun : Sh → St → Option (Sh × St × Int))   : Nat → Sh → St → Int → Int → Int → Option (Sh × St × Int)
  | 0, _, _, _, _, _ => none
  | n + 1, π, σ, x2, x3, x4 => grd (i32 x4) (
 grd (i32 x3) (
 if x4 < x3 then
 grd (i32 (fl σ 182 1)) (
 if (fl σ 182 1) = 0 then
 Option.bind (rArg π σ) (fun r33 =>
 Rd_named_97 N rArg rFun (Rd_named_76 N rArg rFun n) r33.1 r33.2.1 x2 x3 x4 r33.2.2 x2)
 else
 Rd_named_106 N rArg rFun π σ x2)
 else
 Rd_named_106 N rArg rFun π σ x2))
def Rd_named_28 (N : Nat) (rArg : Sh → St → Option (Sh × St × Int)) (rFun : Sh → St → Option (Sh × St × Int))   (π : Sh) (σ : St) (x1 : Int) (s0 : Int) : Option (Sh × St × Int) := grd (i32 x1) (
 if x1 = 2 then
 Option.bind (Sc_advance N π σ) (fun r21 =>
 Option.bind (Rd_wants N rArg rFun π r21 s0) (fun r25 =>
 Rd_named_46 N rArg rFun r25.1 r25.2 s0))
 else
 grd (ob π s0 6) (
 grd (ob π (fl σ 146 44) 1) (
 bnd ((fl σ 22 (fl σ 146 44)) - 1) (fun v12 =>
 bnd (sf σ 128 s0 (fl σ 146 44)) (fun σ14 =>
 Option.bind (Sc_advance N π σ14) (fun r17 =>
 Rd_named_76 N rArg rFun N π r17 s0 v12 0))))))
def Rd_named_18 (N : Nat) (rArg : Sh → St → Option (Sh × St × Int)) (rFun : Sh → St → Option (Sh × St × Int))   (π : Sh) (σ : St) (x1 : Int) (s0 : Int) (s1 : Int) (s2 : Int) : Option (Sh × St × Int) := Option.bind (Pc_init N π σ s1 s0 (fl σ 186 1)) (fun r4 =>
 grd (ob π s1 6) (
 Rd_named_28 N rArg rFun r4.1 r4.2 x1 s2))
def Rd_named_3 (N : Nat) (rArg : Sh → St → Option (Sh × St × Int)) (rFun : Sh → St → Option (Sh × St × Int))   (π : Sh) (σ : St) (x1 : Int) (s0 : Int) : Option (Sh × St × Int) := grd (i32 x1) (
 if x1 = 2 then
 Rd_named_18 N rArg rFun π σ x1 (fl σ 145 44) s0 s0
 else
 Rd_named_18 N rArg rFun π σ x1 22 s0 s0)
def Rd_named (N : Nat) (rArg : Sh → St → Option (Sh × St × Int)) (rFun : Sh → St → Option (Sh × St × Int)) (π : Sh) (σ : St) (x1 : Int) : Option (Sh × St × Int) := Rd_named_3 N rArg rFun (nO π 6 11) (zO σ (nn π) dfl) x1 (nn π)
def Rd_app_15 (N : Nat) (rArg : Sh → St → Option (Sh × St × Int)) (rFun : Sh → St → Option (Sh × St × Int))   (π : Sh) (σ : St) (s0 : Int) : Option (Sh × St × Int) := some (π, σ, s0)
def Rd_app_42 (N : Nat) (rArg : Sh → St → Option (Sh × St × Int)) (rFun : Sh → St → Option (Sh × St × Int))   (π : Sh) (σ : St) (s0 : Int) : Option (Sh × St × Int) := some (π, σ, s0)
def Rd_app_87 (N : Nat) (rArg : Sh → St → Option (Sh × St × Int)) (rFun : Sh → St → Option (Sh × St × Int))   (π : Sh) (σ : St) (s0 : Int) : Option (Sh × St × Int) := some (π, σ, s0)
def Rd_app_67 (N : Nat) (rArg : Sh → St → Option (Sh × St × Int)) (rFun : Sh → St → Option (Sh × St × Int))   (π : Sh) (σ : St) (x2 : Int) (s0 : Int) : Option (Sh × St × Int) := grd (i32 (fl σ 182 1)) (
 if (fl σ 182 1) = 0 then
 Option.bind (Pc_applyC N 24 π σ x2 (fl σ 144 44) s0) (fun r26 =>
 grd (ob π x2 6) (
 Rd_app_87 N rArg rFun r26.1 r26.2.1 r26.2.2))
 else
 some (π, σ, 0))
def Rd_app_63 (N : Nat) (rArg : Sh → St → Option (Sh × St × Int)) (rFun : Sh → St → Option (Sh × St × Int))   (π : Sh) (σ : St) (x2 : Int) (s0 : Int) : Option (Sh × St × Int) := Rd_app_67 N rArg rFun π σ x2 s0
def Rd_app_48 (N : Nat) (rArg : Sh → St → Option (Sh × St × Int)) (rFun : Sh → St → Option (Sh × St × Int))   (π : Sh) (σ : St) (s0 : Int) : Option (Sh × St × Int) := grd (i32 (fl σ 182 1)) (
 if (fl σ 182 1) = 0 then
 Option.bind (rArg π σ) (fun r21 =>
 Rd_app_63 N rArg rFun r21.1 r21.2.1 s0 r21.2.2)
 else
 Rd_app_67 N rArg rFun π σ s0 0)
def Rd_app_43 (N : Nat) (rArg : Sh → St → Option (Sh × St × Int)) (rFun : Sh → St → Option (Sh × St × Int))   (π : Sh) (σ : St) (x1 : Int) : Option (Sh × St × Int) := Option.bind (Rd_named N rArg rFun π σ x1) (fun r16 =>
 Rd_app_48 N rArg rFun r16.1 r16.2.1 r16.2.2)
def Rd_app (N : Nat) (rArg : Sh → St → Option (Sh × St × Int)) (rFun : Sh → St → Option (Sh × St × Int)) (π : Sh) (σ : St)  : Option (Sh × St × Int) := grd (i32 (fl σ 185 1)) (
 if (fl σ 185 1) = 1 then
 Option.bind (Rd_kindOf N π σ (fl σ 188 1)) (fun r3 =>
 grd (i32 r3.2) (
 if r3.2 = 2 then
 Rd_app_43 N rArg rFun π r3.1 r3.2
 else
 if r3.2 = 4 then
 Rd_app_43 N rArg rFun π r3.1 r3.2
 else
 Option.bind (rArg π r3.1) (fun r10 =>
 Rd_app_42 N rArg rFun r10.1 r10.2.1 r10.2.2)))
 else
 Option.bind (rArg π σ) (fun r13 =>
 Rd_app_15 N rArg rFun r13.1 r13.2.1 r13.2.2))
def Rd_sum_90 (N : Nat) (rArg : Sh → St → Option (Sh × St × Int)) (rFun : Sh → St → Option (Sh × St × Int))  (rec7 : Sh → St → Int → Int → Option (Sh × St × Int)) (π : Sh) (σ : St) (x2 : Int) (s0 : Int) : Option (Sh × St × Int) := rec7 π σ s0 (x2 + 1)
def Rd_sum_81 (N : Nat) (rArg : Sh → St → Option (Sh × St × Int)) (rFun : Sh → St → Option (Sh × St × Int))  (rec7 : Sh → St → Int → Int → Option (Sh × St × Int)) (π : Sh) (σ : St) (x2 : Int) (x3 : Int) (s0 : Int) : Option (Sh × St × Int) := Option.bind (Df_add N π σ (fl σ 144 44) x3) (fun r32 =>
 grd (ob π (fl σ 144 44) 1) (
 Rd_sum_90 N rArg rFun rec7 r32.1 r32.2.1 x2 r32.2.2))
def Rd_sum_78 (N : Nat) (rArg : Sh → St → Option (Sh × St × Int)) (rFun : Sh → St → Option (Sh × St × Int))  (rec7 : Sh → St → Int → Int → Option (Sh × St × Int)) (π : Sh) (σ : St) (x2 : Int) (x3 : Int) (s0 : Int) (s1 : Int) : Option (Sh × St × Int) := Option.bind (Sp_give N π σ s1 s0) (fun r28 =>
 grd (ob π s1 10) (
 Rd_sum_81 N rArg rFun rec7 r28.1 r28.2.1 x2 x3 r28.2.2))
def Rd_sum_74 (N : Nat) (rArg : Sh → St → Option (Sh × St × Int)) (rFun : Sh → St → Option (Sh × St × Int))  (rec7 : Sh → St → Int → Int → Option (Sh × St × Int)) (π : Sh) (σ : St) (x2 : Int) (x3 : Int) (s0 : Int) : Option (Sh × St × Int) := Option.bind (Rd_app N rArg rFun π σ) (fun r25 =>
 Rd_sum_78 N rArg rFun rec7 r25.1 r25.2.1 x2 x3 r25.2.2 s0)
def Rd_sum_61 (N : Nat) (rArg : Sh → St → Option (Sh × St × Int)) (rFun : Sh → St → Option (Sh × St × Int))  (rec7 : Sh → St → Int → Int → Option (Sh × St × Int)) (π : Sh) (σ : St) (x1 : Int) (x2 : Int) (s0 : Int) : Option (Sh × St × Int) := Option.bind (Sc_advance N π σ) (fun r17 =>
 Option.bind (Sp_give N π r17 s0 x1) (fun r21 =>
 grd (ob π s0 10) (
 Rd_sum_74 N rArg rFun rec7 r21.1 r21.2.1 x2 s0 r21.2.2)))
def Rd_sum_40 (N : Nat) (rArg : Sh → St → Option (Sh × St × Int)) (rFun : Sh → St → Option (Sh × St × Int))  (rec7 : Sh → St → Int → Int → Option (Sh × St × Int)) (π : Sh) (σ : St) (x1 : Int) (x2 : Int) (s0 : Int) : Option (Sh × St × Int) := Option.bind (Sp_initB N π σ s0 21 (fl σ 186 1) (fl σ 185 1) 0) (fun r13 =>
 grd (ob π s0 10) (
 Rd_sum_61 N rArg rFun rec7 r13.1 r13.2 x1 x2 s0))
def Rd_sum_7 (N : Nat) (rArg : Sh → St → Option (Sh × St × Int)) (rFun : Sh → St → Option (Sh × St × Int))   : Nat → Sh → St → Int → Int → Option (Sh × St × Int)
  | 0, _, _, _, _ => none
  | n + 1, π, σ, x1, x2 => grd (i32 x2) (
 if x2 < 2000 then
 grd (i32 (fl σ 182 1)) (
 if (fl σ 182 1) = 0 then
 Option.bind (Sc_isOp N (fl σ 185 1)) (fun r8 =>
 grd (i32 r8) (
 if r8 = 0 then
 some (π, σ, x1)
 else
 Rd_sum_40 N rArg rFun (Rd_sum_7 N rArg rFun n) (nO π 10 14) (zO σ (nn π) dfl) x1 x2 (nn π)))
 else
 some (π, σ, x1))
 else
 some (π, σ, x1))
def Rd_sum_4 (N : Nat) (rArg : Sh → St → Option (Sh × St × Int)) (rFun : Sh → St → Option (Sh × St × Int))   (π : Sh) (σ : St) (s0 : Int) : Option (Sh × St × Int) := Rd_sum_7 N rArg rFun N π σ s0 0
def Rd_sum (N : Nat) (rArg : Sh → St → Option (Sh × St × Int)) (rFun : Sh → St → Option (Sh × St × Int)) (π : Sh) (σ : St)  : Option (Sh × St × Int) := Option.bind (Rd_app N rArg rFun π σ) (fun r1 =>
 Rd_sum_4 N rArg rFun r1.1 r1.2.1 r1.2.2)
def Rd_cat_105 (N : Nat) (rArg : Sh → St → Option (Sh × St × Int)) (rFun : Sh → St → Option (Sh × St × Int))  (rec59 : Sh → St → Int → Int → Option (Sh × St × Int)) (π : Sh) (σ : St) (x2 : Int) (x3 : Int) : Option (Sh × St × Int) := rec59 π σ x2 (x3 + 1)
def Rd_cat_100 (N : Nat) (rArg : Sh → St → Option (Sh × St × Int)) (rFun : Sh → St → Option (Sh × St × Int))  (rec59 : Sh → St → Int → Int → Option (Sh × St × Int)) (π : Sh) (σ : St) (x2 : Int) (x3 : Int) (s0 : Int) (s1 : Int) : Option (Sh × St × Int) := Option.bind (Sp_giveWeighted N π σ s1 s0 1 1) (fun r37 =>
 grd (ob π s1 10) (
 Rd_cat_105 N rArg rFun rec59 r37.1 r37.2 x2 x3))
def Rd_cat_119 (N : Nat) (rArg : Sh → St → Option (Sh × St × Int)) (rFun : Sh → St → Option (Sh × St × Int))   (π : Sh) (σ : St) (s0 : Int) : Option (Sh × St × Int) := some (π, σ, s0)
def Rd_cat_111 (N : Nat) (rArg : Sh → St → Option (Sh × St × Int)) (rFun : Sh → St → Option (Sh × St × Int))   (π : Sh) (σ : St) (x2 : Int) : Option (Sh × St × Int) := Option.bind (Df_add N π σ (fl σ 144 44) x2) (fun r33 =>
 grd (ob π (fl σ 144 44) 1) (
 Rd_cat_119 N rArg rFun r33.1 r33.2.1 r33.2.2))
def Rd_cat_59 (N : Nat) (rArg : Sh → St → Option (Sh × St × Int)) (rFun : Sh → St → Option (Sh × St × Int))   : Nat → Sh → St → Int → Int → Option (Sh × St × Int)
  | 0, _, _, _, _ => none
  | n + 1, π, σ, x2, x3 => grd (i32 x3) (
 if x3 < 2000 then
 grd (i32 (fl σ 182 1)) (
 if (fl σ 182 1) = 0 then
 grd (i32 (fl σ 185 1)) (
 if (fl σ 185 1) = 59 then
 Option.bind (Sc_advance N π σ) (fun r26 =>
 Option.bind (Rd_sum N rArg rFun π r26) (fun r30 =>
 Rd_cat_100 N rArg rFun (Rd_cat_59 N rArg rFun n) r30.1 r30.2.1 x2 x3 r30.2.2 x2))
 else
 Rd_cat_111 N rArg rFun π σ x2)
 else
 Rd_cat_111 N rArg rFun π σ x2)
 else
 Rd_cat_111 N rArg rFun π σ x2)
def Rd_cat_57 (N : Nat) (rArg : Sh → St → Option (Sh × St × Int)) (rFun : Sh → St → Option (Sh × St × Int))   (π : Sh) (σ : St) (x2 : Int) : Option (Sh × St × Int) := Rd_cat_59 N rArg rFun N π σ x2 0
def Rd_cat_44 (N : Nat) (rArg : Sh → St → Option (Sh × St × Int)) (rFun : Sh → St → Option (Sh × St × Int))   (π : Sh) (σ : St) (x1 : Int) (s0 : Int) : Option (Sh × St × Int) := grd (ob π s0 10) (
 bnd (sf σ 206 s0 1) (fun σ14 =>
 Option.bind (Sp_giveWeighted N π σ14 s0 x1 1 1) (fun r17 =>
 Rd_cat_57 N rArg rFun r17.1 r17.2 s0)))
def Rd_cat_32 (N : Nat) (rArg : Sh → St → Option (Sh × St × Int)) (rFun : Sh → St → Option (Sh × St × Int))   (π : Sh) (σ : St) (x1 : Int) (s0 : Int) : Option (Sh × St × Int) := Option.bind (Sp_init N π σ s0 5 (fl σ 186 1)) (fun r9 =>
 grd (ob π s0 10) (
 Rd_cat_44 N rArg rFun r9.1 r9.2 x1 s0))
def Rd_cat_4 (N : Nat) (rArg : Sh → St → Option (Sh × St × Int)) (rFun : Sh → St → Option (Sh × St × Int))   (π : Sh) (σ : St) (s0 : Int) : Option (Sh × St × Int) := grd (i32 (fl σ 182 1)) (
 if (fl σ 182 1) = 0 then
 grd (i32 (fl σ 185 1)) (
 if (fl σ 185 1) = 59 then
 Rd_cat_32 N rArg rFun (nO π 10 14) (zO σ (nn π) dfl) s0 (nn π)
 else
 some (π, σ, s0))
 else
 some (π, σ, s0))
def Rd_cat (N : Nat) (rArg : Sh → St → Option (Sh × St × Int)) (rFun : Sh → St → Option (Sh × St × Int)) (π : Sh) (σ : St)  : Option (Sh × St × Int) := Option.bind (Rd_sum N rArg rFun π σ) (fun r1 =>
 Rd_cat_4 N rArg rFun r1.1 r1.2.1 r1.2.2)
def Rd_exp_103 (N : Nat) (rArg : Sh → St → Option (Sh × St × Int)) (rFun : Sh → St → Option (Sh × St × Int))  (rec59 : Sh → St → Int → Int → Option (Sh × St × Int)) (π : Sh) (σ : St) (x2 : Int) (x3 : Int) (s0 : Int) : Option (Sh × St × Int) := rec59 π σ x2 (x3 + 1)
def Rd_exp_100 (N : Nat) (rArg : Sh → St → Option (Sh × St × Int)) (rFun : Sh → St → Option (Sh × St × Int))  (rec59 : Sh → St → Int → Int → Option (Sh × St × Int)) (π : Sh) (σ : St) (x2 : Int) (x3 : Int) (s0 : Int) (s1 : Int) : Option (Sh × St × Int) := Option.bind (Sp_give N π σ s1 s0) (fun r37 =>
 grd (ob π s1 10) (
 Rd_exp_103 N rArg rFun rec59 r37.1 r37.2.1 x2 x3 r37.2.2))
def Rd_exp_118 (N : Nat) (rArg : Sh → St → Option (Sh × St × Int)) (rFun : Sh → St → Option (Sh × St × Int))   (π : Sh) (σ : St) (s0 : Int) : Option (Sh × St × Int) := some (π, σ, s0)
def Rd_exp_110 (N : Nat) (rArg : Sh → St → Option (Sh × St × Int)) (rFun : Sh → St → Option (Sh × St × Int))   (π : Sh) (σ : St) (x2 : Int) : Option (Sh × St × Int) := Option.bind (Df_add N π σ (fl σ 144 44) x2) (fun r33 =>
 grd (ob π (fl σ 144 44) 1) (
 Rd_exp_118 N rArg rFun r33.1 r33.2.1 r33.2.2))
def Rd_exp_59 (N : Nat) (rArg : Sh → St → Option (Sh × St × Int)) (rFun : Sh → St → Option (Sh × St × Int))   : Nat → Sh → St → Int → Int → Option (Sh × St × Int)
  | 0, _, _, _, _ => none
  | n + 1, π, σ, x2, x3 => grd (i32 x3) (
 if x3 < 2000 then
 grd (i32 (fl σ 182 1)) (
 if (fl σ 182 1) = 0 then
 grd (i32 (fl σ 185 1)) (
 if (fl σ 185 1) = 38 then
 Option.bind (Sc_advance N π σ) (fun r26 =>
 Option.bind (Rd_cat N rArg rFun π r26) (fun r30 =>
 Rd_exp_100 N rArg rFun (Rd_exp_59 N rArg rFun n) r30.1 r30.2.1 x2 x3 r30.2.2 x2))
 else
 Rd_exp_110 N rArg rFun π σ x2)
 else
 Rd_exp_110 N rArg rFun π σ x2)
 else
 Rd_exp_110 N rArg rFun π σ x2)
def Rd_exp_56 (N : Nat) (rArg : Sh → St → Option (Sh × St × Int)) (rFun : Sh → St → Option (Sh × St × Int))   (π : Sh) (σ : St) (x2 : Int) (s0 : Int) : Option (Sh × St × Int) := Rd_exp_59 N rArg rFun N π σ x2 0
def Rd_exp_45 (N : Nat) (rArg : Sh → St → Option (Sh × St × Int)) (rFun : Sh → St → Option (Sh × St × Int))   (π : Sh) (σ : St) (x1 : Int) (s0 : Int) : Option (Sh × St × Int) := grd (ob π s0 10) (
 bnd (sf σ 206 s0 1) (fun σ14 =>
 Option.bind (Sp_give N π σ14 s0 x1) (fun r17 =>
 Rd_exp_56 N rArg rFun r17.1 r17.2.1 s0 r17.2.2)))
def Rd_exp_32 (N : Nat) (rArg : Sh → St → Option (Sh × St × Int)) (rFun : Sh → St → Option (Sh × St × Int))   (π : Sh) (σ : St) (x1 : Int) (s0 : Int) : Option (Sh × St × Int) := Option.bind (Sp_init N π σ s0 8 (fl σ 186 1)) (fun r9 =>
 grd (ob π s0 10) (
 Rd_exp_45 N rArg rFun r9.1 r9.2 x1 s0))
def Rd_exp_4 (N : Nat) (rArg : Sh → St → Option (Sh × St × Int)) (rFun : Sh → St → Option (Sh × St × Int))   (π : Sh) (σ : St) (s0 : Int) : Option (Sh × St × Int) := grd (i32 (fl σ 182 1)) (
 if (fl σ 182 1) = 0 then
 grd (i32 (fl σ 185 1)) (
 if (fl σ 185 1) = 38 then
 Rd_exp_32 N rArg rFun (nO π 10 14) (zO σ (nn π) dfl) s0 (nn π)
 else
 some (π, σ, s0))
 else
 some (π, σ, s0))
def Rd_exp (N : Nat) (rArg : Sh → St → Option (Sh × St × Int)) (rFun : Sh → St → Option (Sh × St × Int)) (π : Sh) (σ : St)  : Option (Sh × St × Int) := Option.bind (Rd_cat N rArg rFun π σ) (fun r1 =>
 Rd_exp_4 N rArg rFun r1.1 r1.2.1 r1.2.2)
def Rd_expect (N : Nat)  (π : Sh) (σ : St) (x1 : Int) : Option St := grd (i32 (fl σ 185 1)) (
 grd (i32 x1) (
 if (fl σ 185 1) = x1 then
 Option.bind (Sc_advance N π σ) (fun r4 =>
 some r4)
 else
 Option.bind (Sc_fail N π σ 1 (fl σ 186 1)) (fun r8 =>
 some r8)))
def Rd_patternName_72 (N : Nat)    (π : Sh) (σ : St) (s0 : Int) : Option (Sh × St × Int) := some (π, σ, s0)
def Rd_patternName_39 (N : Nat)    (π : Sh) (σ : St) (x1 : Int) : Option (Sh × St × Int) := Option.bind (Sc_advance N π σ) (fun r12 =>
 grd (i32 x1) (
 if x1 = 1 then
 Rd_patternName_72 N π r12 (fl r12 145 44)
 else
 grd (ob π (fl r12 146 44) 1) (
 Option.bind (Df_addKnown N π r12 (fl r12 144 44) (fl r12 26 (fl r12 146 44))) (fun r19 =>
 grd (ob π (fl r12 144 44) 1) (
 Rd_patternName_72 N r19.1 r19.2.1 r19.2.2)))))
def Rd_patternName (N : Nat)  (π : Sh) (σ : St)  : Option (Sh × St × Int) := Option.bind (Rd_kindOf N π σ (fl σ 188 1)) (fun r1 =>
 grd (i32 r1.2) (
 if r1.2 = 1 then
 Rd_patternName_39 N π r1.1 r1.2
 else
 if r1.2 = 3 then
 Rd_patternName_39 N π r1.1 r1.2
 else
 Option.bind (Sc_fail N π r1.1 2 (fl r1.1 186 1)) (fun r8 =>
 some (π, r8, 0))))
def Rd_arg_15 (N : Nat) (rArg : Sh → St → Option (Sh × St × Int)) (rFun : Sh → St → Option (Sh × St × Int))   (π : Sh) (σ : St) (s0 : Int) : Option (Sh × St × Int) := some (π, σ, s0)
def Rd_arg_161 (N : Nat) (rArg : Sh → St → Option (Sh × St × Int)) (rFun : Sh → St → Option (Sh × St × Int))   (π : Sh) (σ : St) (x2 : Int) : Option (Sh × St × Int) := some (π, (sf σ 184 1 ((fl σ 184 1) - 1)), x2)
def Rd_arg_125 (N : Nat) (rArg : Sh → St → Option (Sh × St × Int)) (rFun : Sh → St → Option (Sh × St × Int))   (π : Sh) (σ : St) (s0 : Int) : Option (Sh × St × Int) := Option.bind (Tx_finish N π σ) (fun r41 =>
 Option.bind (Sc_advance N π r41) (fun r45 =>
 Rd_arg_161 N rArg rFun π r45 s0))
def Rd_arg_154 (N : Nat) (rArg : Sh → St → Option (Sh × St × Int)) (rFun : Sh → St → Option (Sh × St × Int))   (π : Sh) (σ : St) (s0 : Int) : Option (Sh × St × Int) := Option.bind (Rd_expect N π σ 41) (fun r37 =>
 Rd_arg_161 N rArg rFun π r37 s0)
def Rd_arg_66 (N : Nat) (rArg : Sh → St → Option (Sh × St × Int)) (rFun : Sh → St → Option (Sh × St × Int))   (π : Sh) (σ : St) (x1 : Int) : Option (Sh × St × Int) := Option.bind (Sc_opens N π σ (fl σ 186 1)) (fun r15 =>
 grd (i32 r15.2) (
 if r15.2 = 0 then
 some (π, r15.1, 0)
 else
 grd (i32 x1) (
 if x1 = 0 then
 Option.bind (Sc_advance N π r15.1) (fun r23 =>
 Option.bind (Rd_exp N rArg rFun π r23) (fun r27 =>
 Rd_arg_154 N rArg rFun r27.1 r27.2.1 r27.2.2))
 else
 Option.bind (Tx_start N π r15.1 (fl r15.1 144 44) (fl r15.1 186 1) ((fl r15.1 187 1) - 1)) (fun r30 =>
 Option.bind (Tx_seq N (Tx_partC N 24) π r30) (fun r34 =>
 Rd_arg_125 N rArg rFun r34.1 r34.2.1 r34.2.2)))))
def Rd_arg_32 (N : Nat) (rArg : Sh → St → Option (Sh × St × Int)) (rFun : Sh → St → Option (Sh × St × Int))   (π : Sh) (σ : St) (s0 : Int) : Option (Sh × St × Int) := grd (i32 s0) (
 if s0 = 0 then
 grd (i32 (fl σ 185 1)) (
 if (fl σ 185 1) = 40 then
 Rd_arg_66 N rArg rFun π σ s0
 else
 Option.bind (Sc_fail N π σ 1 (fl σ 186 1)) (fun r11 =>
 some (π, r11, 0)))
 else
 Rd_arg_66 N rArg rFun π σ s0)
def Rd_arg (N : Nat) (rArg : Sh → St → Option (Sh × St × Int)) (rFun : Sh → St → Option (Sh × St × Int)) (π : Sh) (σ : St)  : Option (Sh × St × Int) := grd (i32 (fl σ 185 1)) (
 if (fl σ 185 1) = 1 then
 Option.bind (Rd_patternName N π σ) (fun r4 =>
 Rd_arg_15 N rArg rFun r4.1 r4.2.1 r4.2.2)
 else
 if (fl σ 185 1) = 4 then
 Rd_arg_32 N rArg rFun π σ 1
 else
 Rd_arg_32 N rArg rFun π σ 0)
def Rd_funName_83 (N : Nat) (rArg : Sh → St → Option (Sh × St × Int)) (rFun : Sh → St → Option (Sh × St × Int))   (π : Sh) (σ : St) (s0 : Int) : Option (Sh × St × Int) := some (π, σ, s0)
def Rd_funName_78 (N : Nat) (rArg : Sh → St → Option (Sh × St × Int)) (rFun : Sh → St → Option (Sh × St × Int))   (π : Sh) (σ : St) (x1 : Int) : Option (Sh × St × Int) := Option.bind (Rd_named N rArg rFun π σ x1) (fun r22 =>
 Rd_funName_83 N rArg rFun r22.1 r22.2.1 r22.2.2)
def Rd_funName_52 (N : Nat) (rArg : Sh → St → Option (Sh × St × Int)) (rFun : Sh → St → Option (Sh × St × Int))   (π : Sh) (σ : St) (x1 : Int) (x2 : Int) (s0 : Int) : Option (Sh × St × Int) := grd (i32 x2) (
 if x2 = 0 then
 grd (i32 s0) (
 if s0 = 0 then
 Option.bind (Sc_fail N π σ 2 (fl σ 186 1)) (fun r18 =>
 some (π, r18, (-1)))
 else
 Rd_funName_78 N rArg rFun π σ x1)
 else
 Rd_funName_78 N rArg rFun π σ x1)
def Rd_funName_51 (N : Nat) (rArg : Sh → St → Option (Sh × St × Int)) (rFun : Sh → St → Option (Sh × St × Int))   (π : Sh) (σ : St) (x1 : Int) (x2 : Int) : Option (Sh × St × Int) := Rd_funName_52 N rArg rFun π σ x1 x2 0
def Rd_funName_30 (N : Nat) (rArg : Sh → St → Option (Sh × St × Int)) (rFun : Sh → St → Option (Sh × St × Int))   (π : Sh) (σ : St) (x1 : Int) (s0 : Int) : Option (Sh × St × Int) := grd (i32 x1) (
 if x1 = 4 then
 grd (ob π (fl σ 146 44) 1) (
 grd (i32 (fl σ 22 (fl σ 146 44))) (
 if (fl σ 22 (fl σ 146 44)) = 1 then
 Rd_funName_52 N rArg rFun π σ x1 s0 1
 else
 Rd_funName_51 N rArg rFun π σ x1 s0))
 else
 Rd_funName_51 N rArg rFun π σ x1 s0)
def Rd_funName_29 (N : Nat) (rArg : Sh → St → Option (Sh × St × Int)) (rFun : Sh → St → Option (Sh × St × Int))   (π : Sh) (σ : St) (x1 : Int) : Option (Sh × St × Int) := Rd_funName_30 N rArg rFun π σ x1 0
def Rd_funName (N : Nat) (rArg : Sh → St → Option (Sh × St × Int)) (rFun : Sh → St → Option (Sh × St × Int)) (π : Sh) (σ : St)  : Option (Sh × St × Int) := Option.bind (Rd_kindOf N π σ (fl σ 188 1)) (fun r1 =>
 grd (i32 r1.2) (
 if r1.2 = 2 then
 grd (i32 (fl r1.1 145 44)) (
 if (fl r1.1 145 44) = 4 then
 Rd_funName_30 N rArg rFun π r1.1 r1.2 1
 else
 Rd_funName_29 N rArg rFun π r1.1 r1.2)
 else
 Rd_funName_29 N rArg rFun π r1.1 r1.2))
def Rd_piece_46 (N : Nat) (rArg : Sh → St → Option (Sh × St × Int)) (rFun : Sh → St → Option (Sh × St × Int))   (π : Sh) (σ : St) (s0 : Int) : Option (Sh × St × Int) := some (π, σ, s0)
def Rd_piece_41 (N : Nat) (rArg : Sh → St → Option (Sh × St × Int)) (rFun : Sh → St → Option (Sh × St × Int))   (π : Sh) (σ : St) (x2 : Int) : Option (Sh × St × Int) := Option.bind (Rd_named N rArg rFun π σ x2) (fun r33 =>
 Rd_piece_46 N rArg rFun r33.1 r33.2.1 r33.2.2)
def Rd_piece_86 (N : Nat) (rArg : Sh → St → Option (Sh × St × Int)) (rFun : Sh → St → Option (Sh × St × Int))   (π : Sh) (σ : St) (x2 : Int) (s0 : Int) (s1 : Int) : Option (Sh × St × Int) := grd (ob π s1 6) (
 some (π, (sf σ 126 s1 s0), x2))
def Rd_piece_80 (N : Nat) (rArg : Sh → St → Option (Sh × St × Int)) (rFun : Sh → St → Option (Sh × St × Int))   (π : Sh) (σ : St) (s0 : Int) : Option (Sh × St × Int) := Option.bind (rFun π σ) (fun r47 =>
 Rd_piece_86 N rArg rFun r47.1 r47.2.1 s0 r47.2.2 s0)
def Rd_piece_73 (N : Nat) (rArg : Sh → St → Option (Sh × St × Int)) (rFun : Sh → St → Option (Sh × St × Int))   (π : Sh) (σ : St) (x1 : Int) (s0 : Int) : Option (Sh × St × Int) := Option.bind (Pc_init N π σ s0 23 x1) (fun r29 =>
 grd (ob π s0 6) (
 Rd_piece_80 N rArg rFun r29.1 r29.2 s0))
def Rd_piece_149 (N : Nat) (rArg : Sh → St → Option (Sh × St × Int)) (rFun : Sh → St → Option (Sh × St × Int))   (π : Sh) (σ : St) (x2 : Int) (s0 : Int) (s1 : Int) : Option (Sh × St × Int) := Option.bind (Pc_give N π σ s1 s0) (fun r50 =>
 grd (ob π s1 6) (
 some (π, r50, x2)))
def Rd_piece_125 (N : Nat) (rArg : Sh → St → Option (Sh × St × Int)) (rFun : Sh → St → Option (Sh × St × Int))   (π : Sh) (σ : St) (s0 : Int) : Option (Sh × St × Int) := grd (ob π s0 6) (
 bnd (sf σ 122 s0 (fl σ 185 1)) (fun σ37 =>
 Option.bind (Sc_advance N π σ37) (fun r40 =>
 Option.bind (rArg π r40) (fun r44 =>
 Rd_piece_149 N rArg rFun r44.1 r44.2.1 s0 r44.2.2 s0))))
def Rd_piece_118 (N : Nat) (rArg : Sh → St → Option (Sh × St × Int)) (rFun : Sh → St → Option (Sh × St × Int))   (π : Sh) (σ : St) (x1 : Int) (s0 : Int) : Option (Sh × St × Int) := Option.bind (Pc_init N π σ s0 21 x1) (fun r25 =>
 grd (ob π s0 6) (
 Rd_piece_125 N rArg rFun r25.1 r25.2 s0))
def Rd_piece (N : Nat) (rArg : Sh → St → Option (Sh × St × Int)) (rFun : Sh → St → Option (Sh × St × Int)) (π : Sh) (σ : St)  : Option (Sh × St × Int) := grd (i32 (fl σ 185 1)) (
 if (fl σ 185 1) = 1 then
 Option.bind (Rd_kindOf N π σ (fl σ 188 1)) (fun r14 =>
 grd (i32 r14.2) (
 if r14.2 = 2 then
 Rd_piece_41 N rArg rFun π r14.1 r14.2
 else
 if r14.2 = 4 then
 Rd_piece_41 N rArg rFun π r14.1 r14.2
 else
 Option.bind (Sc_fail N π r14.1 2 (fl σ 186 1)) (fun r21 =>
 some (π, r21, (-1)))))
 else
 if (fl σ 185 1) = 40 then
 Rd_piece_73 N rArg rFun (nO π 6 11) (zO σ (nn π) dfl) (fl σ 186 1) (nn π)
 else
 Option.bind (Sc_isOp N (fl σ 185 1)) (fun r4 =>
 grd (i32 r4) (
 if r4 = 0 then
 Option.bind (Sc_fail N π σ 1 (fl σ 186 1)) (fun r9 =>
 some (π, r9, (-1)))
 else
 Rd_piece_118 N rArg rFun (nO π 6 11) (zO σ (nn π) dfl) (fl σ 186 1) (nn π))))
def Rd_fun_15 (N : Nat) (rArg : Sh → St → Option (Sh × St × Int)) (rFun : Sh → St → Option (Sh × St × Int))   (π : Sh) (σ : St) (s0 : Int) : Option (Sh × St × Int) := some (π, σ, s0)
def Rd_fun_135 (N : Nat) (rArg : Sh → St → Option (Sh × St × Int)) (rFun : Sh → St → Option (Sh × St × Int))  (rec70 : Sh → St → Int → Int → Int → Option (Sh × St × Int)) (π : Sh) (σ : St) (x1 : Int) (x3 : Int) (s0 : Int) : Option (Sh × St × Int) := rec70 π σ x1 s0 (x3 + 1)
def Rd_fun_118 (N : Nat) (rArg : Sh → St → Option (Sh × St × Int)) (rFun : Sh → St → Option (Sh × St × Int))  (rec70 : Sh → St → Int → Int → Int → Option (Sh × St × Int)) (π : Sh) (σ : St) (x1 : Int) (x3 : Int) : Option (Sh × St × Int) := grd (i32 (fl σ 185 1)) (
 if (fl σ 185 1) = 46 then
 Rd_fun_135 N rArg rFun rec70 π σ x1 x3 1
 else
 Rd_fun_135 N rArg rFun rec70 π σ x1 x3 0)
def Rd_fun_102 (N : Nat) (rArg : Sh → St → Option (Sh × St × Int)) (rFun : Sh → St → Option (Sh × St × Int))  (rec70 : Sh → St → Int → Int → Int → Option (Sh × St × Int)) (π : Sh) (σ : St) (x1 : Int) (x3 : Int) (s0 : Int) : Option (Sh × St × Int) := if s0 < 0 then
 Rd_fun_118 N rArg rFun rec70 π σ x1 x3
 else
 grd (ob π s0 6) (
 Rd_fun_118 N rArg rFun rec70 π (sf σ 127 s0 x1) s0 x3)
def Rd_fun_142 (N : Nat) (rArg : Sh → St → Option (Sh × St × Int)) (rFun : Sh → St → Option (Sh × St × Int))   (π : Sh) (σ : St) (x1 : Int) : Option (Sh × St × Int) := Option.bind (Rd_expect N π σ 41) (fun r30 =>
 some (π, (sf r30 184 1 ((fl r30 184 1) - 1)), x1))
def Rd_fun_70 (N : Nat) (rArg : Sh → St → Option (Sh × St × Int)) (rFun : Sh → St → Option (Sh × St × Int))   : Nat → Sh → St → Int → Int → Int → Option (Sh × St × Int)
  | 0, _, _, _, _, _ => none
  | n + 1, π, σ, x1, x2, x3 => grd (i32 x3) (
 if x3 < 2000 then
 grd (i32 x2) (
 if x2 = 0 then
 Rd_fun_142 N rArg rFun π σ x1
 else
 grd (i32 (fl σ 182 1)) (
 if (fl σ 182 1) = 0 then
 Option.bind (Sc_advance N π σ) (fun r23 =>
 Option.bind (Rd_piece N rArg rFun π r23) (fun r27 =>
 Rd_fun_102 N rArg rFun (Rd_fun_70 N rArg rFun n) r27.1 r27.2.1 x1 x3 r27.2.2))
 else
 Rd_fun_142 N rArg rFun π σ x1))
 else
 Rd_fun_142 N rArg rFun π σ x1)
def Rd_fun (N : Nat) (rArg : Sh → St → Option (Sh × St × Int)) (rFun : Sh → St → Option (Sh × St × Int)) (π : Sh) (σ : St)  : Option (Sh × St × Int) := grd (i32 (fl σ 185 1)) (
 if (fl σ 185 1) = 1 then
 Option.bind (Rd_funName N rArg rFun π σ) (fun r14 =>
 Rd_fun_15 N rArg rFun r14.1 r14.2.1 r14.2.2)
 else
 if (fl σ 185 1) = 40 then
 Option.bind (Sc_opens N π σ (fl σ 186 1)) (fun r4 =>
 grd (i32 r4.2) (
 if r4.2 = 0 then
 some (π, r4.1, (-1))
 else
 Rd_fun_70 N rArg rFun N π r4.1 (-1) 1 0))
 else
 Option.bind (Sc_fail N π σ 1 (fl σ 186 1)) (fun r10 =>
 some (π, r10, (-1))))
def RdC (N : Nat) : Nat → (Sh → St → Option (Sh × St × Int)) × (Sh → St → Option (Sh × St × Int))
  | 0 => (fun _ _ => none, fun _ _ => none)
  | d + 1 => (Rd_arg N (RdC N d).1 (RdC N d).2, Rd_fun N (RdC N d).1 (RdC N d).2)
def Rd_argC (N d : Nat) : Sh → St → Option (Sh × St × Int) := (RdC N d).1
def Rd_funC (N d : Nat) : Sh → St → Option (Sh × St × Int) := (RdC N d).2
def Rd_header_144 (N : Nat)    (π : Sh) (σ : St)  : Option (Sh × St) := Option.bind (Sc_fail N π σ 2 (fl σ 186 1)) (fun r62 =>
 some (π, r62))
def Rd_header_208 (N : Nat)    (π : Sh) (σ : St)  : Option (Sh × St) := Option.bind (Rd_expect N π σ 61) (fun r58 =>
 some (π, r58))
def Rd_header_84 (N : Nat)    : Nat → Sh → St → Int → Option (Sh × St)
  | 0, _, _, _ => none
  | n + 1, π, σ, x1 => grd (i32 x1) (
 if x1 < 2000 then
 grd (i32 (fl σ 185 1)) (
 if (fl σ 185 1) = 1 then
 Option.bind (Rd_functionOf N π σ (fl σ 188 1)) (fun r33 =>
 grd (i32 r33.2) (
 if r33.2 < 0 then
 Option.bind (Df_hasName N π r33.1 (fl r33.1 144 44) (fl r33.1 188 1)) (fun r39 =>
 grd (ob π (fl r33.1 144 44) 1) (
 grd (i32 r39.2) (
 if r39.2 = 0 then
 grd (ob π (fl r39.1 144 44) 1) (
 grd (i32 (fl r39.1 22 (fl r39.1 144 44))) (
 if (fl r39.1 22 (fl r39.1 144 44)) < 4 then
 grd (ob π (fl r39.1 21 (fl r39.1 144 44)) 23) (
 grd (ina π (fl r39.1 21 (fl r39.1 144 44)) (fl r39.1 22 (fl r39.1 144 44))) (
 bnd (sf (se r39.1 (fl r39.1 21 (fl r39.1 144 44)) (fl r39.1 22 (fl r39.1 144 44)) (fl r39.1 188 1)) 22 (fl r39.1 144 44) ((fl r39.1 22 (fl r39.1 144 44)) + 1)) (fun σ51 =>
 Option.bind (Sc_advance N π σ51) (fun r54 =>
 (Rd_header_84 N n) π r54 (x1 + 1)))))
 else
 Rd_header_144 N π r39.1))
 else
 Rd_header_144 N π r39.1)))
 else
 Rd_header_144 N π r33.1))
 else
 Rd_header_208 N π σ)
 else
 Rd_header_208 N π σ)
def Rd_header_72 (N : Nat)    (π : Sh) (σ : St) (s0 : Int) : Option (Sh × St) := bnd (sf σ 144 44 s0) (fun σ22 =>
 Option.bind (Sc_advance N π σ22) (fun r25 =>
 Rd_header_84 N N π r25 0))
def Rd_header_61 (N : Nat)    (π : Sh) (σ : St) (s0 : Int) : Option (Sh × St) := Option.bind (Df_init N π σ s0 (fl σ 188 1)) (fun r18 =>
 grd (ob π s0 1) (
 Rd_header_72 N r18.1 r18.2 s0))
def Rd_header (N : Nat)  (π : Sh) (σ : St)  : Option (Sh × St) := grd (i32 (fl σ 185 1)) (
 if (fl σ 185 1) = 1 then
 Option.bind (Rd_functionOf N π σ (fl σ 188 1)) (fun r3 =>
 grd (i32 r3.2) (
 if r3.2 < 0 then
 Rd_header_61 N (nO π 1 7) (zO r3.1 (nn π) dfl) (nn π)
 else
 Option.bind (Sc_fail N π r3.1 2 (fl r3.1 186 1)) (fun r10 =>
 some (π, r10))))
 else
 Option.bind (Sc_fail N π σ 1 (fl σ 186 1)) (fun r14 =>
 some (π, r14)))
def Rd_line_84 (N : Nat)    (π : Sh) (σ : St)  : Option (Sh × St × Int) := grd (i32 (fl σ 182 1)) (
 if (fl σ 182 1) = 0 then
 Option.bind (Sc_advance N π σ) (fun r8 =>
 some (π, r8, (fl r8 144 44)))
 else
 some (π, σ, (-1)))
def Rd_line_37 (N : Nat)    (π : Sh) (σ : St)  : Option (Sh × St × Int) := grd (i32 (fl σ 185 1)) (
 if (fl σ 185 1) = 10 then
 Rd_line_84 N π σ
 else
 if (fl σ 185 1) = 6 then
 Rd_line_84 N π σ
 else
 Option.bind (Sc_fail N π σ 1 (fl σ 186 1)) (fun r20 =>
 Rd_line_84 N π r20))
def Rd_line_34 (N : Nat)    (π : Sh) (σ : St) (s0 : Int) (s1 : Int) : Option (Sh × St × Int) := grd (ob π s1 1) (
 Rd_line_37 N π (sf σ 25 s1 s0))
def Rd_line_16 (N : Nat)    (π : Sh) (σ : St)  : Option (Sh × St × Int) := grd (i32 (fl σ 182 1)) (
 if (fl σ 182 1) = 0 then
 Option.bind (Rd_exp N (Rd_argC N 24) (Rd_funC N 24) π σ) (fun r14 =>
 Rd_line_34 N r14.1 r14.2.1 r14.2.2 (fl σ 144 44))
 else
 Rd_line_37 N π σ)
def Rd_line (N : Nat)  (π : Sh) (σ : St)  : Option (Sh × St × Int) := grd (i32 (fl σ 185 1)) (
 if (fl σ 185 1) = 10 then
 Rd_line_84 N π (sf σ 144 44 (-1))
 else
 Option.bind (Rd_header N π σ) (fun r3 =>
 Rd_line_16 N r3.1 r3.2 ))
def Rd_wholeExp_94 (N : Nat)    (π : Sh) (σ : St)  : Option (Sh × St × Int) := some (π, σ, (fl σ 144 44))
def Rd_wholeExp_67 (N : Nat)    (π : Sh) (σ : St)  : Option (Sh × St × Int) := grd (i32 (fl σ 185 1)) (
 if (fl σ 185 1) = 6 then
 Rd_wholeExp_94 N π σ
 else
 Option.bind (Sc_fail N π σ 1 (fl σ 186 1)) (fun r25 =>
 Rd_wholeExp_94 N π r25))
def Rd_wholeExp_25 (N : Nat)    : Nat → Sh → St → Int → Option (Sh × St × Int)
  | 0, _, _, _ => none
  | n + 1, π, σ, x1 => grd (i32 x1) (
 if x1 < 2000 then
 grd (i32 (fl σ 182 1)) (
 if (fl σ 182 1) = 0 then
 grd (i32 (fl σ 185 1)) (
 if (fl σ 185 1) = 10 then
 Option.bind (Sc_advance N π σ) (fun r19 =>
 (Rd_wholeExp_25 N n) π r19 (x1 + 1))
 else
 Rd_wholeExp_67 N π σ)
 else
 Rd_wholeExp_67 N π σ)
 else
 Rd_wholeExp_67 N π σ)
def Rd_wholeExp_20 (N : Nat)    (π : Sh) (σ : St) (s0 : Int) (s1 : Int) : Option (Sh × St × Int) := grd (ob π s1 1) (
 Rd_wholeExp_25 N N π (sf σ 25 s1 s0) 0)
def Rd_wholeExp_9 (N : Nat)    (π : Sh) (σ : St) (s0 : Int) : Option (Sh × St × Int) := bnd (sf σ 144 44 s0) (fun σ6 =>
 Option.bind (Rd_exp N (Rd_argC N 24) (Rd_funC N 24) π σ6) (fun r9 =>
 Rd_wholeExp_20 N r9.1 r9.2.1 r9.2.2 s0))
def Rd_wholeExp_4 (N : Nat)    (π : Sh) (σ : St) (s0 : Int) : Option (Sh × St × Int) := Option.bind (Df_init N π σ s0 0) (fun r2 =>
 grd (ob π s0 1) (
 Rd_wholeExp_9 N r2.1 r2.2 s0))
def Rd_wholeExp (N : Nat)  (π : Sh) (σ : St)  : Option (Sh × St × Int) := Rd_wholeExp_4 N (nO π 1 7) (zO σ (nn π) dfl) (nn π)
def M_floorMod (N : Nat)  (x0 : Int) (x2 : Int) : Option Int := grd (i64 x0) (
 grd (i64 x2) (
 grd (¬ x2 = 0) (
 bnd (Int.tmod x0 x2) (fun v4 =>
 grd (i64 (lxor x0 x2)) (
 if (lxor x0 x2) < 0 then
 grd (i64 v4) (
 if v4 = 0 then
 some v4
 else
 some (v4 + x2))
 else
 some v4)))))
def Rw_within (N : Nat) (rRow : Sh → St → Int → Int → Option St) (π : Sh) (σ : St) (x1 : Int) (x2 : Int) (x4 : Int) (x6 : Int) : Option St := grd (ob π x1 5) (
 grd (ob π (fl σ 101 x1) 26) (
 grd (ina π (fl σ 101 x1) 0) (
 Option.bind (rRow π σ (el σ (fl σ 101 x1) 0) x2) (fun r4 =>
 grd (ob π (fl r4 101 x1) 26) (
 grd (ina π (fl r4 101 x1) 0) (
 grd (ob π (el r4 (fl r4 101 x1) 0) 5) (
 grd (i64 (fl r4 102 x1)) (
 grd (i64 (fl r4 102 (el r4 (fl r4 101 x1) 0))) (
 grd (¬ (fl r4 102 (el r4 (fl r4 101 x1) 0)) = 0) (
 Option.bind (Es_scale N π r4 (fl σ 46 10) (Int.tdiv (fl r4 102 x1) (fl r4 102 (el r4 (fl r4 101 x1) 0))) 0) (fun r14 =>
 Option.bind (Es_choose N π r14 (fl σ 46 10) x4 x6 0) (fun r18 =>
 grd (ob π (fl r18 101 x1) 26) (
 grd (ina π (fl r18 101 x1) 1) (
 Option.bind (rRow π r18 (el r18 (fl r18 101 x1) 1) x2) (fun r24 =>
 grd (ob π (fl r24 101 x1) 26) (
 grd (ina π (fl r24 101 x1) 1) (
 grd (ob π (el r24 (fl r24 101 x1) 1) 5) (
 grd (i64 (fl r24 102 x1)) (
 grd (i64 (fl r24 102 (el r24 (fl r24 101 x1) 1))) (
 grd (¬ (fl r24 102 (el r24 (fl r24 101 x1) 1)) = 0) (
 Option.bind (Es_scale N π r24 (fl r18 46 10) (Int.tdiv (fl r24 102 x1) (fl r24 102 (el r24 (fl r24 101 x1) 1))) 0) (fun r34 =>
 Option.bind (Es_choose N π r34 (fl r18 46 10) x4 x6 1) (fun r38 =>
 Option.bind (Es_sort N π r38 (fl σ 46 10)) (fun r42 =>
 some r42))))))))))))))))))))))))
def Rw_chunk (N : Nat) (rRow : Sh → St → Int → Int → Option St) (π : Sh) (σ : St) (x1 : Int) (x2 : Int) : Option St := grd (ob π x1 5) (
 grd (ob π (fl σ 100 x1) 10) (
 grd (i32 (fl σ 202 (fl σ 100 x1))) (
 grd (i32 (max 1 (fl σ 202 (fl σ 100 x1)))) (
 bnd (max 1 (fl σ 202 (fl σ 100 x1))) (fun v5 =>
 Option.bind (M_floorMod N x2 v5) (fun r7 =>
 Option.bind (Rw_ceiling N (r7 * (fl σ 102 x1)) v5) (fun r9 =>
 Option.bind (Rw_ceiling N ((r7 + 1) * (fl σ 102 x1)) v5) (fun r11 =>
 Option.bind (Rw_within N rRow π σ x1 x2 r9 r11) (fun r13 =>
 some r13)))))))))
def Rw_draw (N : Nat)  (π : Sh) (σ : St) (x1 : Int) (x3 : Int) (x5 : Int) (x7 : Int) : Option (St × Int) := Option.bind (Pt_gcd N x3 x5) (fun r1 =>
 grd (i64 x3) (
 grd (i64 r1) (
 grd (¬ r1 = 0) (
 bnd (Int.tdiv x3 r1) (fun v6 =>
 grd (i64 x5) (
 bnd (Int.tdiv x5 r1) (fun v9 =>
 grd (i32 (fl σ 161 9)) (
 grd (i32 x7) (
 bnd (((((fl σ 161 9) + (9973 * x1)) + (7919 * v6)) + (104729 * v9)) + x7) (fun v13 =>
 bnd (ixor v13 (iushr v13 15)) (fun v15 =>
 bnd (v15 * 668265263) (fun v17 =>
 bnd (ixor v17 (iushr v17 13)) (fun v19 =>
 grd (i32 (iand v19 1048575)) (
 some (σ, (Int.tmod (iand v19 1048575) 1000))))))))))))))))
def Rw_draws_119 (N : Nat) (rRow : Sh → St → Int → Int → Option St) (π : Sh) (rec43 : St → Int → Int → Int → Int → Int → Option St) (σ : St) (x1 : Int) (x2 : Int) (x4 : Int) (x5 : Int) (x6 : Int) (s0 : Int) (s1 : Int) : Option St := grd (inb s1 6000) (
 rec43 (se σ 16 s1 s0) x1 x2 x4 x5 (x6 + 1))
def Rw_draws_96 (N : Nat) (rRow : Sh → St → Int → Int → Option St) (π : Sh) (rec43 : St → Int → Int → Int → Int → Int → Option St) (σ : St) (x1 : Int) (x2 : Int) (x4 : Int) (x5 : Int) (x6 : Int) (s0 : Int) : Option St := grd (i32 s0) (
 grd (i32 x5) (
 if s0 = x5 then
 Rw_draws_119 N rRow π rec43 σ x1 x2 x4 x5 x6 1 x6
 else
 Rw_draws_119 N rRow π rec43 σ x1 x2 x4 x5 x6 2 x6))
def Rw_draws_43 (N : Nat) (rRow : Sh → St → Int → Int → Option St) (π : Sh)  : Nat → St → Int → Int → Int → Int → Int → Option St
  | 0, _, _, _, _, _, _ => none
  | n + 1, σ, x1, x2, x4, x5, x6 => grd (i32 x6) (
 grd (i32 (fl σ 46 10)) (
 if x6 < (fl σ 46 10) then
 grd (inb x6 6000) (
 grd (ob π x1 5) (
 grd (ob π (fl σ 100 x1) 10) (
 Option.bind (Rw_draw N π σ x2 (el σ 11 x6) (fl σ 102 x1) (fl σ 203 (fl σ 100 x1))) (fun r21 =>
 grd (ob π (fl r21.1 100 x1) 10) (
 grd (i32 r21.2) (
 grd (i32 (fl r21.1 202 (fl r21.1 100 x1))) (
 if r21.2 < (fl r21.1 202 (fl r21.1 100 x1)) then
 Rw_draws_96 N rRow π (Rw_draws_43 N rRow π n) r21.1 x1 x2 x4 x5 x6 1
 else
 Rw_draws_96 N rRow π (Rw_draws_43 N rRow π n) r21.1 x1 x2 x4 x5 x6 0)))))))
 else
 Option.bind (Es_chooseMarked N π σ x4 1) (fun r14 =>
 some r14)))
def Rw_draws_37 (N : Nat) (rRow : Sh → St → Int → Int → Option St) (π : Sh)  (σ : St) (x1 : Int) (x2 : Int) (x4 : Int) (s0 : Int) : Option St := Rw_draws_43 N rRow π N σ x1 x2 x4 s0 x4
def Rw_draws (N : Nat) (rRow : Sh → St → Int → Int → Option St) (π : Sh) (σ : St) (x1 : Int) (x2 : Int) : Option St := grd (ob π x1 5) (
 grd (ob π (fl σ 101 x1) 26) (
 grd (ina π (fl σ 101 x1) 0) (
 Option.bind (rRow π σ (el σ (fl σ 101 x1) 0) x2) (fun r4 =>
 grd (ob π (fl r4 100 x1) 10) (
 grd (i32 (fl r4 200 (fl r4 100 x1))) (
 if (fl r4 200 (fl r4 100 x1)) = 23 then
 Rw_draws_37 N rRow π r4 x1 x2 (fl σ 46 10) 1
 else
 Rw_draws_37 N rRow π r4 x1 x2 (fl σ 46 10) 0))))))
def Rw_either_20 (N : Nat) (rRow : Sh → St → Int → Int → Option St) (π : Sh)  (σ : St) (x1 : Int) (x2 : Int) (s0 : Int) : Option St := Option.bind (rRow π σ s0 x2) (fun r9 =>
 grd (ob π x1 5) (
 grd (ob π s0 5) (
 grd (i64 (fl r9 102 x1)) (
 grd (i64 (fl r9 102 s0)) (
 grd (¬ (fl r9 102 s0) = 0) (
 Option.bind (Es_scale N π r9 (fl σ 46 10) (Int.tdiv (fl r9 102 x1) (fl r9 102 s0)) 0) (fun r18 =>
 some r18)))))))
def Rw_either (N : Nat) (rRow : Sh → St → Int → Int → Option St) (π : Sh) (σ : St) (x1 : Int) (x2 : Int) (x4 : Int) : Option St := grd (i32 x4) (
 if x4 = 0 then
 grd (ob π x1 5) (
 grd (ob π (fl σ 101 x1) 26) (
 grd (ina π (fl σ 101 x1) 0) (
 Rw_either_20 N rRow π σ x1 x2 (el σ (fl σ 101 x1) 0))))
 else
 grd (ob π x1 5) (
 grd (ob π (fl σ 101 x1) 26) (
 grd (ina π (fl σ 101 x1) 1) (
 Rw_either_20 N rRow π σ x1 x2 (el σ (fl σ 101 x1) 1)))))
def Rw_euclid_136 (N : Nat) (rRow : Sh → St → Int → Int → Option St) (π : Sh) (rec46 : St → Int → Int → Int → Int → Int → Int → Int → Int → Option St) (σ : St) (x2 : Int) (x4 : Int) (x5 : Int) (x6 : Int) (x7 : Int) (x8 : Int) (x9 : Int) (x11 : Int) : Option St := rec46 σ x2 x4 x5 x6 x7 x8 x9 (x11 + 1)
def Rw_euclid_146 (N : Nat) (rRow : Sh → St → Int → Int → Option St) (π : Sh)  : Nat → St → Int → Int → Int → Int → Option St
  | 0, _, _, _, _, _ => none
  | n + 1, σ, x5, x8, x9, x11 => grd (i32 x11) (
 grd (i32 x8) (
 if x11 < x8 then
 grd (inb x11 6000) (
 grd (ob π x5 5) (
 (Rw_euclid_146 N rRow π n) (se σ 11 x11 ((el σ 11 x11) + (x9 * (fl σ 102 x5)))) x5 x8 x9 (x11 + 1)))
 else
 some σ))
def Rw_euclid_46 (N : Nat) (rRow : Sh → St → Int → Int → Option St) (π : Sh)  : Nat → St → Int → Int → Int → Int → Int → Int → Int → Int → Option St
  | 0, _, _, _, _, _, _, _, _, _ => none
  | n + 1, σ, x2, x4, x5, x6, x7, x8, x9, x11 => grd (i32 x11) (
 grd (i32 x6) (
 if x11 < x6 then
 grd (ob π x4 10) (
 grd (i32 (x11 + (fl σ 204 x4))) (
 grd (¬ x6 = 0) (
 grd (i32 ((Int.tmod (x11 + (fl σ 204 x4)) x6) * (fl σ 202 x4))) (
 grd (i32 (Int.tmod ((Int.tmod (x11 + (fl σ 204 x4)) x6) * (fl σ 202 x4)) x6)) (
 grd (i32 (fl σ 202 x4)) (
 if (Int.tmod ((Int.tmod (x11 + (fl σ 204 x4)) x6) * (fl σ 202 x4)) x6) < (fl σ 202 x4) then
 grd (i64 x9) (
 if x9 < 0 then
 Option.bind (rRow π σ x5 x2) (fun r27 =>
 Rw_euclid_136 N rRow π (Rw_euclid_46 N rRow π n) r27 x2 x4 x5 x6 x7 (fl r27 46 10) x11 x11)
 else
 grd (ob π x5 5) (
 Option.bind (Es_pushAgain N π σ x7 x8 1 (x11 * (fl σ 102 x5))) (fun r23 =>
 Rw_euclid_136 N rRow π (Rw_euclid_46 N rRow π n) r23 x2 x4 x5 x6 x7 x8 x9 x11)))
 else
 Rw_euclid_136 N rRow π (Rw_euclid_46 N rRow π n) σ x2 x4 x5 x6 x7 x8 x9 x11))))))
 else
 Rw_euclid_146 N rRow π N σ x5 x8 x9 x7))
def Rw_euclid (N : Nat) (rRow : Sh → St → Int → Int → Option St) (π : Sh) (σ : St) (x1 : Int) (x2 : Int) : Option St := grd (ob π x1 5) (
 grd (ob π (fl σ 101 x1) 26) (
 grd (ina π (fl σ 101 x1) 0) (
 bnd (el σ (fl σ 101 x1) 0) (fun v4 =>
 grd (ob π (fl σ 100 x1) 10) (
 grd (i32 (fl σ 203 (fl σ 100 x1))) (
 bnd (max 1 (fl σ 203 (fl σ 100 x1))) (fun v8 =>
 Rw_euclid_46 N rRow π N σ x2 (fl σ 100 x1) v4 v8 (fl σ 46 10) (fl σ 46 10) (-1) 0)))))))
def Rw_fast_62 (N : Nat) (rRow : Sh → St → Int → Int → Option St) (π : Sh)  : Nat → St → Int → Int → Int → Int → Int → Int → Int → Option St
  | 0, _, _, _, _, _, _, _, _ => none
  | n + 1, σ, x1, x2, x4, x5, x7, x9, x11 => grd (i64 x11) (
 grd (i64 x9) (
 if x9 < x11 then
 some σ
 else
 Option.bind (rRow π σ x4 x11) (fun r22 =>
 grd (ob π x4 5) (
 Option.bind (Es_scale N π r22 (fl σ 46 10) x7 (((x11 * x7) - (x2 * x5)) * (fl r22 102 x4))) (fun r27 =>
 grd (ob π x1 5) (
 Option.bind (Es_choose N π r27 (fl σ 46 10) 0 (fl r27 102 x1) 1) (fun r32 =>
 bnd (x11 + 1) (fun v36 =>
 (Rw_fast_62 N rRow π n) r32 x1 x2 x4 x5 x7 x9 v36))))))))
def Rw_fast (N : Nat) (rRow : Sh → St → Int → Int → Option St) (π : Sh) (σ : St) (x1 : Int) (x2 : Int) : Option St := grd (ob π x1 5) (
 grd (ob π (fl σ 101 x1) 26) (
 grd (ina π (fl σ 101 x1) 0) (
 bnd (el σ (fl σ 101 x1) 0) (fun v4 =>
 grd (ob π (fl σ 100 x1) 10) (
 grd (i32 (fl σ 202 (fl σ 100 x1))) (
 grd (i32 (max 1 (fl σ 202 (fl σ 100 x1)))) (
 bnd (max 1 (fl σ 202 (fl σ 100 x1))) (fun v9 =>
 grd (i32 (fl σ 203 (fl σ 100 x1))) (
 grd (i32 (max 1 (fl σ 203 (fl σ 100 x1)))) (
 bnd (max 1 (fl σ 203 (fl σ 100 x1))) (fun v13 =>
 Option.bind (M_floorDiv N (((x2 + 1) * v9) - 1) v13) (fun r15 =>
 Option.bind (M_floorDiv N (x2 * v9) v13) (fun r17 =>
 Rw_fast_62 N rRow π N σ x1 x2 v4 v9 v13 r15 r17)))))))))))))
def Rw_layer_12 (N : Nat) (rRow : Sh → St → Int → Int → Option St) (π : Sh)  : Nat → St → Int → Int → Int → Int → Option St
  | 0, _, _, _, _, _ => none
  | n + 1, σ, x1, x2, x4, x5 => grd (ob π x1 5) (
 grd (ob π (fl σ 101 x1) 26) (
 grd (0 ≤ ln π (fl σ 101 x1)) (
 grd (i32 x5) (
 grd (i32 (ln π (fl σ 101 x1))) (
 if x5 < (ln π (fl σ 101 x1)) then
 grd (ina π (fl σ 101 x1) x5) (
 Option.bind (rRow π σ (el σ (fl σ 101 x1) x5) x2) (fun r12 =>
 grd (ob π (fl r12 101 x1) 26) (
 grd (ina π (fl r12 101 x1) x5) (
 grd (ob π (el r12 (fl r12 101 x1) x5) 5) (
 grd (i64 (fl r12 102 x1)) (
 grd (i64 (fl r12 102 (el r12 (fl r12 101 x1) x5))) (
 grd (¬ (fl r12 102 (el r12 (fl r12 101 x1) x5)) = 0) (
 Option.bind (Es_scale N π r12 (fl σ 46 10) (Int.tdiv (fl r12 102 x1) (fl r12 102 (el r12 (fl r12 101 x1) x5))) 0) (fun r22 =>
 (Rw_layer_12 N rRow π n) r22 x1 x2 x4 (x5 + 1))))))))))
 else
 Option.bind (Es_sort N π σ x4) (fun r7 =>
 some r7))))))
def Rw_layer (N : Nat) (rRow : Sh → St → Int → Int → Option St) (π : Sh) (σ : St) (x1 : Int) (x2 : Int) : Option St := Rw_layer_12 N rRow π N σ x1 x2 (fl σ 46 10) 0
def Rw_overwrite_32 (N : Nat)  (π : Sh)  (σ : St) (x1 : Int) (x2 : Int) : Option St := grd (inb x2 6000) (
 grd (i32 (el σ 15 x2)) (
 if (el σ 15 x2) = 0 then
 some σ
 else
 grd (inb x1 6000) (
 some (se (se σ 14 x1 (el σ 14 x2)) 15 x1 1))))
def Rw_overwrite (N : Nat)  (π : Sh) (σ : St) (x1 : Int) (x2 : Int) : Option St := grd (inb x2 6000) (
 grd (i64 (el σ 13 x2)) (
 if (el σ 13 x2) = 0 then
 Rw_overwrite_32 N π σ x1 x2
 else
 grd (inb x1 6000) (
 Rw_overwrite_32 N π (se σ 13 x1 (el σ 13 x2)) x1 x2)))
def Rw_reckon (N : Nat)  (x0 : Int) (x1 : Int) (x2 : Int) : Option Int := grd (i32 x0) (
 if x0 = 43 then
 some (w32 (x1 + x2))
 else
 if x0 = 45 then
 some (w32 (x1 - x2))
 else
 some (w32 (x1 * x2)))
def Rw_join_127 (N : Nat)  (π : Sh)  (σ : St) (x1 : Int) (x2 : Int) (x3 : Int) : Option St := grd (ob π x1 10) (
 grd (i32 (fl σ 200 x1)) (
 if (fl σ 200 x1) = 21 then
 grd (inb x2 6000) (
 grd (i32 (el σ 15 x2)) (
 if (el σ 15 x2) = 0 then
 some σ
 else
 grd (inb x3 6000) (
 grd (i32 (el σ 15 x3)) (
 if (el σ 15 x3) = 0 then
 some σ
 else
 Option.bind (Rw_reckon N (fl σ 202 x1) (el σ 14 x2) (el σ 14 x3)) (fun r36 =>
 some (se σ 14 x2 r36))))))
 else
 some σ))
def Rw_join_33 (N : Nat)  (π : Sh)  (σ : St) (x1 : Int) (x2 : Int) (x3 : Int) (s0 : Int) (s1 : Int) : Option St := grd (inb s1 6000) (
 grd (ob π x1 10) (
 grd (i32 (fl σ 200 x1)) (
 if (fl σ 200 x1) = 19 then
 grd (inb x3 6000) (
 grd (inb x2 6000) (
 grd (isZ (el σ 15 x3)) (
 some (se (se (se (se σ 16 s1 s0) 13 x2 (el σ 13 x3)) 14 x2 (el σ 14 x3)) 15 x2 (el σ 15 x3)))))
 else
 if (fl σ 200 x1) = 21 then
 grd (i32 (fl σ 202 x1)) (
 if (fl σ 202 x1) = 35 then
 bnd (se σ 16 s1 s0) (fun σ17 =>
 Option.bind (Rw_overwrite N π σ17 x2 x3) (fun r20 =>
 some r20))
 else
 Rw_join_127 N π (se σ 16 s1 s0) x1 x2 x3)
 else
 Rw_join_127 N π (se σ 16 s1 s0) x1 x2 x3)))
def Rw_join_32 (N : Nat)  (π : Sh)  (σ : St) (x1 : Int) (x2 : Int) (x3 : Int) (s0 : Int) : Option St := Rw_join_33 N π σ x1 x2 x3 1 s0
def Rw_join (N : Nat)  (π : Sh) (σ : St) (x1 : Int) (x2 : Int) (x3 : Int) : Option St := grd (ob π x1 10) (
 grd (i32 (fl σ 200 x1)) (
 if (fl σ 200 x1) = 20 then
 Option.bind (Es_isLoud N π σ x3) (fun r4 =>
 grd (i32 r4.2) (
 if r4.2 = 0 then
 Rw_join_33 N π r4.1 x1 x2 x3 2 x2
 else
 Rw_join_32 N π r4.1 x1 x2 x3 x2))
 else
 Rw_join_32 N π σ x1 x2 x3 x2))
def Rw_meetRow_155 (N : Nat)  (π : Sh) (rec9 : St → Int → Int → Int → Int → Int → Int → Int → Int → Option (St × Int)) (σ : St) (x1 : Int) (x3 : Int) (x4 : Int) (x6 : Int) (x8 : Int) (x10 : Int) (x11 : Int) (x12 : Int) : Option (St × Int) := rec9 σ x1 x3 x4 x6 x8 x10 x11 (x12 + 1)
def Rw_meetRow_137 (N : Nat)  (π : Sh) (rec9 : St → Int → Int → Int → Int → Int → Int → Int → Int → Option (St × Int)) (σ : St) (x1 : Int) (x3 : Int) (x4 : Int) (x6 : Int) (x8 : Int) (x10 : Int) (x11 : Int) (x12 : Int) (x15 : Int) : Option (St × Int) := grd (i32 x15) (
 grd (i32 x3) (
 if x15 < x3 then
 Rw_meetRow_155 N π rec9 σ x1 x3 x4 x6 x8 x10 x11 x12
 else
 Option.bind (Rw_join N π σ x1 x12 x15) (fun r28 =>
 Rw_meetRow_155 N π rec9 r28 x1 x3 x4 x6 x8 (x10 + 1) x11 x12)))
def Rw_meetRow_92 (N : Nat)  (π : Sh) (rec9 : St → Int → Int → Int → Int → Int → Int → Int → Int → Option (St × Int)) : Nat → St → Int → Int → Int → Int → Int → Int → Int → Int → Int → Int → Option (St × Int)
  | 0, _, _, _, _, _, _, _, _, _, _, _ => none
  | n + 1, σ, x1, x3, x4, x6, x8, x10, x11, x12, x13, x15 => grd (i32 x15) (
 grd (i32 x3) (
 if x15 < x3 then
 Rw_meetRow_137 N π rec9 σ x1 x3 x4 x6 x8 x10 x11 x12 x15
 else
 grd (inb x15 6000) (
 grd (i64 ((((el σ 11 x15) + (el σ 12 x15)) + x8) * x4)) (
 grd (i64 x13) (
 if x13 < ((((el σ 11 x15) + (el σ 12 x15)) + x8) * x4) then
 Rw_meetRow_137 N π rec9 σ x1 x3 x4 x6 x8 x10 x11 x12 x15
 else
 (Rw_meetRow_92 N π rec9 n) σ x1 x3 x4 x6 x8 x10 x11 x12 x13 (x15 + (-1)))))))
def Rw_meetRow_86 (N : Nat)  (π : Sh) (rec9 : St → Int → Int → Int → Int → Int → Int → Int → Int → Option (St × Int)) (σ : St) (x1 : Int) (x3 : Int) (x4 : Int) (x6 : Int) (x8 : Int) (x10 : Int) (x11 : Int) (x12 : Int) (x13 : Int) : Option (St × Int) := bnd (x11 - 1) (fun v16 =>
 Rw_meetRow_92 N π rec9 N σ x1 x3 x4 x6 x8 x10 x11 x12 x13 v16)
def Rw_meetRow_46 (N : Nat)  (π : Sh) (rec9 : St → Int → Int → Int → Int → Int → Int → Int → Int → Option (St × Int)) : Nat → St → Int → Int → Int → Int → Int → Int → Int → Int → Int → Option (St × Int)
  | 0, _, _, _, _, _, _, _, _, _, _ => none
  | n + 1, σ, x1, x3, x4, x6, x8, x10, x11, x12, x13 => grd (i32 x11) (
 grd (i32 (fl σ 46 10)) (
 if x11 < (fl σ 46 10) then
 grd (inb x11 6000) (
 grd (i64 (((el σ 11 x11) + x8) * x4)) (
 grd (i64 x13) (
 if x13 < (((el σ 11 x11) + x8) * x4) then
 Rw_meetRow_86 N π rec9 σ x1 x3 x4 x6 x8 x10 x11 x12 x13
 else
 (Rw_meetRow_46 N π rec9 n) σ x1 x3 x4 x6 x8 x10 (x11 + 1) x12 x13)))
 else
 Rw_meetRow_86 N π rec9 σ x1 x3 x4 x6 x8 x10 x11 x12 x13))
def Rw_meetRow_9 (N : Nat)  (π : Sh)  : Nat → St → Int → Int → Int → Int → Int → Int → Int → Int → Option (St × Int)
  | 0, _, _, _, _, _, _, _, _, _ => none
  | n + 1, σ, x1, x3, x4, x6, x8, x10, x11, x12 => grd (i32 x12) (
 grd (i32 x3) (
 if x12 < x3 then
 grd (inb x12 6000) (
 grd (i32 (el σ 16 x12)) (
 if (el σ 16 x12) = 0 then
 bnd ((el σ 11 x12) * x6) (fun v7 =>
 Rw_meetRow_46 N π (Rw_meetRow_9 N π n) N σ x1 x3 x4 x6 x8 x10 x11 x12 v7)
 else
 Rw_meetRow_155 N π (Rw_meetRow_9 N π n) σ x1 x3 x4 x6 x8 x10 x11 x12))
 else
 some (σ, x10)))
def Rw_meetRow (N : Nat)  (π : Sh) (σ : St) (x1 : Int) (x2 : Int) (x3 : Int) (x4 : Int) (x6 : Int) (x8 : Int) : Option (St × Int) := Rw_meetRow_9 N π N σ x1 x3 x4 x6 x8 0 x3 x2
def Rw_meet_74 (N : Nat) (rRow : Sh → St → Int → Int → Option St) (π : Sh) (rec29 : St → Int → Int → Int → Int → Int → Int → Int → Option St) (σ : St) (x1 : Int) (x2 : Int) (x4 : Int) (x5 : Int) (x6 : Int) (x7 : Int) (x8 : Int) (s0 : Int) (s1 : Int) : Option St := grd (inb s1 6000) (
 rec29 (se σ 16 s1 s0) x1 x2 x4 x5 x6 x7 (x8 + 1))
def Rw_meet_73 (N : Nat) (rRow : Sh → St → Int → Int → Option St) (π : Sh) (rec29 : St → Int → Int → Int → Int → Int → Int → Int → Option St) (σ : St) (x1 : Int) (x2 : Int) (x4 : Int) (x5 : Int) (x6 : Int) (x7 : Int) (x8 : Int) (s0 : Int) : Option St := Rw_meet_74 N rRow π rec29 σ x1 x2 x4 x5 x6 x7 x8 0 s0
def Rw_meet_198 (N : Nat) (rRow : Sh → St → Int → Int → Option St) (π : Sh)  (σ : St) (x6 : Int) (x7 : Int) : Option St := grd (i32 x6) (
 if x6 = 21 then
 some σ
 else
 Option.bind (Es_chooseMarked N π σ x7 1) (fun r51 =>
 some r51))
def Rw_meet_117 (N : Nat) (rRow : Sh → St → Int → Int → Option St) (π : Sh)  : Nat → St → Int → Int → Int → Int → Int → Int → Int → Int → Int → Option St
  | 0, _, _, _, _, _, _, _, _, _, _ => none
  | n + 1, σ, x1, x2, x4, x5, x6, x7, x8, x9, x10 => grd (ob π x5 5) (
 grd (i64 x10) (
 grd (i64 (x2 - (fl σ 104 x5))) (
 if x10 < (x2 - (fl σ 104 x5)) then
 Rw_meet_198 N rRow π σ x6 x7
 else
 grd (i32 x9) (
 if (0 : Int) < x9 then
 Option.bind (rRow π σ x5 x10) (fun r35 =>
 grd (ob π x1 5) (
 grd (ob π x4 5) (
 Option.bind (Rw_meetRow N π r35 (fl r35 100 x1) x7 x8 (fl r35 102 x4) (fl r35 102 x5) ((x10 - x2) * (fl r35 102 x5))) (fun r41 =>
 bnd (x9 - r41.2) (fun v45 =>
 bnd (x10 - 1) (fun v47 =>
 (Rw_meet_117 N rRow π n) (sf r41.1 46 10 x8) x1 x2 x4 x5 x6 x7 x8 v45 v47))))))
 else
 Rw_meet_198 N rRow π σ x6 x7))))
def Rw_meet_98 (N : Nat) (rRow : Sh → St → Int → Int → Option St) (π : Sh)  (σ : St) (x1 : Int) (x2 : Int) (x4 : Int) (x5 : Int) (x6 : Int) (x7 : Int) : Option St := bnd ((fl σ 46 10) - x7) (fun v26 =>
 Rw_meet_117 N rRow π N σ x1 x2 x4 x5 x6 x7 (fl σ 46 10) v26 x2)
def Rw_meet_29 (N : Nat) (rRow : Sh → St → Int → Int → Option St) (π : Sh)  : Nat → St → Int → Int → Int → Int → Int → Int → Int → Option St
  | 0, _, _, _, _, _, _, _, _ => none
  | n + 1, σ, x1, x2, x4, x5, x6, x7, x8 => grd (i32 x8) (
 grd (i32 (fl σ 46 10)) (
 if x8 < (fl σ 46 10) then
 grd (i32 x6) (
 if x6 = 19 then
 Option.bind (Es_isLoud N π σ x8) (fun r20 =>
 grd (i32 r20.2) (
 if r20.2 = 0 then
 Rw_meet_74 N rRow π (Rw_meet_29 N rRow π n) r20.1 x1 x2 x4 x5 x6 x7 x8 2 x8
 else
 Rw_meet_73 N rRow π (Rw_meet_29 N rRow π n) r20.1 x1 x2 x4 x5 x6 x7 x8 x8))
 else
 Rw_meet_73 N rRow π (Rw_meet_29 N rRow π n) σ x1 x2 x4 x5 x6 x7 x8 x8)
 else
 grd (i32 x6) (
 if x6 = 19 then
 Option.bind (Es_chooseMarked N π σ x7 0) (fun r14 =>
 Rw_meet_98 N rRow π r14 x1 x2 x4 x5 x6 x7)
 else
 Rw_meet_98 N rRow π σ x1 x2 x4 x5 x6 x7)))
def Rw_meet (N : Nat) (rRow : Sh → St → Int → Int → Option St) (π : Sh) (σ : St) (x1 : Int) (x2 : Int) (x4 : Int) (x5 : Int) : Option St := grd (ob π x1 5) (
 grd (ob π (fl σ 100 x1) 10) (
 bnd (fl σ 200 (fl σ 100 x1)) (fun v3 =>
 Option.bind (rRow π σ x4 x2) (fun r5 =>
 Rw_meet_29 N rRow π N r5 x1 x2 x4 x5 v3 (fl σ 46 10) (fl σ 46 10)))))
def Rw_plyOne_89 (N : Nat)  (π : Sh) (rec30 : St → Int → Int → Int → Int → Int → Int → Option St) (σ : St) (x1 : Int) (x2 : Int) (x5 : Int) (x7 : Int) (x9 : Int) (x11 : Int) : Option St := bnd (x9 + x7) (fun v19 =>
 rec30 σ x1 x2 x5 x7 v19 (x11 + 1))
def Rw_plyOne_30 (N : Nat)  (π : Sh)  : Nat → St → Int → Int → Int → Int → Int → Int → Option St
  | 0, _, _, _, _, _, _, _ => none
  | n + 1, σ, x1, x2, x5, x7, x9, x11 => grd (i32 x11) (
 grd (i32 x2) (
 if x11 < x2 then
 grd (i64 x9) (
 if x9 < 0 then
 Rw_plyOne_89 N π (Rw_plyOne_30 N π n) σ x1 x2 x5 x7 x9 x11
 else
 grd (i64 x5) (
 if x9 < x5 then
 grd (inb x1 6000) (
 Option.bind (Es_push N π σ x9 x7 (el σ 13 x1) (el σ 14 x1) (el σ 15 x1)) (fun r15 =>
 Rw_plyOne_89 N π (Rw_plyOne_30 N π n) r15 x1 x2 x5 x7 x9 x11))
 else
 Rw_plyOne_89 N π (Rw_plyOne_30 N π n) σ x1 x2 x5 x7 x9 x11))
 else
 some σ))
def Rw_plyOne (N : Nat)  (π : Sh) (σ : St) (x1 : Int) (x2 : Int) (x3 : Int) (x5 : Int) : Option St := grd (inb x1 6000) (
 bnd (el σ 12 x1) (fun v2 =>
 grd (i32 x2) (
 bnd (((el σ 11 x1) * x2) + x3) (fun v5 =>
 Rw_plyOne_30 N π N σ x1 x2 x5 v2 v5 0))))
def Rw_ply_72 (N : Nat) (rRow : Sh → St → Int → Int → Option St) (π : Sh) (rec35 : St → Int → Int → Int → Int → Int → Int → Option St) : Nat → St → Int → Int → Int → Int → Int → Int → Int → Int → Int → Option St
  | 0, _, _, _, _, _, _, _, _, _, _ => none
  | n + 1, σ, x1, x2, x4, x5, x6, x7, x9, x10, x11 => grd (i32 x11) (
 grd (i32 x10) (
 if x11 < x10 then
 grd (ob π x1 5) (
 Option.bind (Rw_plyOne N π σ x11 x5 ((x7 - x2) * (fl σ 102 x1)) (fl σ 102 x1)) (fun r33 =>
 (Rw_ply_72 N rRow π rec35 n) r33 x1 x2 x4 x5 x6 x7 x9 x10 (x11 + 1)))
 else
 Option.bind (Es_remove N π σ x9 x10) (fun r26 =>
 bnd (x7 + 1) (fun v30 =>
 rec35 r26 x1 x2 x4 x5 x6 v30))))
def Rw_ply_35 (N : Nat) (rRow : Sh → St → Int → Int → Option St) (π : Sh)  : Nat → St → Int → Int → Int → Int → Int → Int → Option St
  | 0, _, _, _, _, _, _, _ => none
  | n + 1, σ, x1, x2, x4, x5, x6, x7 => grd (i64 x7) (
 grd (i64 x2) (
 if x2 < x7 then
 Option.bind (Es_sort N π σ x6) (fun r15 =>
 some r15)
 else
 Option.bind (rRow π σ x4 x7) (fun r19 =>
 Rw_ply_72 N rRow π (Rw_ply_35 N rRow π n) N r19 x1 x2 x4 x5 x6 x7 (fl σ 46 10) (fl r19 46 10) (fl σ 46 10))))
def Rw_ply (N : Nat) (rRow : Sh → St → Int → Int → Option St) (π : Sh) (σ : St) (x1 : Int) (x2 : Int) : Option St := grd (ob π x1 5) (
 grd (ob π (fl σ 101 x1) 26) (
 grd (ina π (fl σ 101 x1) 0) (
 bnd (el σ (fl σ 101 x1) 0) (fun v4 =>
 grd (ob π (fl σ 100 x1) 10) (
 bnd (fl σ 202 (fl σ 100 x1)) (fun v7 =>
 grd (ob π v4 5) (
 bnd (x2 - (fl σ 104 v4)) (fun v10 =>
 Rw_ply_35 N rRow π N σ x1 x2 v4 v7 (fl σ 46 10) v10))))))))
def Rw_partAt_53 (N : Nat)  (π : Sh) (rec11 : St → Int → Int → Int → Int → Option (St × Int)) (σ : St) (x0 : Int) (x1 : Int) (x3 : Int) (x4 : Int) : Option (St × Int) := rec11 σ x0 x1 x3 x4
def Rw_partAt_11 (N : Nat)  (π : Sh)  : Nat → St → Int → Int → Int → Int → Option (St × Int)
  | 0, _, _, _, _, _ => none
  | n + 1, σ, x0, x1, x3, x4 => grd (i32 x3) (
 grd (i32 x4) (
 if x3 < x4 then
 grd (i32 (x3 + x4)) (
 bnd (Int.tdiv (x3 + x4) 2) (fun v13 =>
 grd (ob π x0 5) (
 grd (ob π (fl σ 100 x0) 10) (
 grd (ob π (fl σ 213 (fl σ 100 x0)) 22) (
 grd (ina π (fl σ 213 (fl σ 100 x0)) v13) (
 grd (i32 (el σ (fl σ 213 (fl σ 100 x0)) v13)) (
 grd (i64 x1) (
 grd (i64 (el σ (fl σ 213 (fl σ 100 x0)) v13)) (
 if x1 < (el σ (fl σ 213 (fl σ 100 x0)) v13) then
 Rw_partAt_53 N π (Rw_partAt_11 N π n) σ x0 x1 x3 v13
 else
 bnd (v13 + 1) (fun v23 =>
 Rw_partAt_53 N π (Rw_partAt_11 N π n) σ x0 x1 v23 x4))))))))))
 else
 grd (ob π x0 5) (
 grd (ob π (fl σ 101 x0) 26) (
 grd (ina π (fl σ 101 x0) x3) (
 some (σ, (el σ (fl σ 101 x0) x3)))))))
def Rw_partAt (N : Nat)  (π : Sh) (σ : St) (x0 : Int) (x1 : Int) : Option (St × Int) := grd (ob π x0 5) (
 grd (ob π (fl σ 101 x0) 26) (
 grd (0 ≤ ln π (fl σ 101 x0)) (
 bnd ((ln π (fl σ 101 x0)) - 1) (fun v4 =>
 Rw_partAt_11 N π N σ x0 x1 0 v4))))
def Rw_poly_40 (N : Nat) (rRow : Sh → St → Int → Int → Option St) (π : Sh)  : Nat → St → Int → Int → Int → Int → Int → Int → Option St
  | 0, _, _, _, _, _, _, _ => none
  | n + 1, σ, x1, x2, x4, x6, x8, x10 => grd (i64 x10) (
 grd (i64 x6) (
 if x10 < x6 then
 bnd ((x2 * x6) + x10) (fun v19 =>
 Option.bind (M_floorMod N v19 x4) (fun r21 =>
 Option.bind (Rw_partAt N π σ x1 r21) (fun r23 =>
 Option.bind (M_floorDiv N v19 x4) (fun r27 =>
 Option.bind (rRow π r23.1 r23.2 r27) (fun r29 =>
 grd (ob π r23.2 5) (
 grd (i64 x8) (
 grd (i64 (fl r29 102 r23.2)) (
 grd (¬ (fl r29 102 r23.2) = 0) (
 Option.bind (Es_scale N π r29 (fl r23.1 46 10) (Int.tdiv x8 (fl r29 102 r23.2)) (x10 * x8)) (fun r37 =>
 bnd (x10 + 1) (fun v41 =>
 (Rw_poly_40 N rRow π n) r37 x1 x2 x4 x6 x8 v41)))))))))))
 else
 some σ))
def Rw_poly (N : Nat) (rRow : Sh → St → Int → Int → Option St) (π : Sh) (σ : St) (x1 : Int) (x2 : Int) : Option St := grd (ob π x1 5) (
 grd (ob π (fl σ 100 x1) 10) (
 grd (i32 (fl σ 202 (fl σ 100 x1))) (
 grd (i32 (max 1 (fl σ 202 (fl σ 100 x1)))) (
 bnd (max 1 (fl σ 202 (fl σ 100 x1))) (fun v5 =>
 grd (i32 (fl σ 203 (fl σ 100 x1))) (
 grd (i32 (max 1 (fl σ 203 (fl σ 100 x1)))) (
 bnd (max 1 (fl σ 203 (fl σ 100 x1))) (fun v9 =>
 grd (i64 (fl σ 102 x1)) (
 grd (i64 v9) (
 grd (¬ v9 = 0) (
 bnd (Int.tdiv (fl σ 102 x1) v9) (fun v14 =>
 Rw_poly_40 N rRow π N σ x1 x2 v5 v9 v14 0))))))))))))
def Rw_reverse_24 (N : Nat) (rRow : Sh → St → Int → Int → Option St) (π : Sh)  : Nat → St → Int → Int → Int → Option St
  | 0, _, _, _, _ => none
  | n + 1, σ, x1, x4, x5 => grd (i32 x5) (
 grd (i32 (fl σ 46 10)) (
 if x5 < (fl σ 46 10) then
 grd (inb x5 6000) (
 bnd (el σ 11 x5) (fun v16 =>
 grd (ob π x1 5) (
 grd (i64 (fl σ 102 x1)) (
 grd (i64 (v16 + (el σ 12 x5))) (
 bnd (min (fl σ 102 x1) (v16 + (el σ 12 x5))) (fun v21 =>
 (Rw_reverse_24 N rRow π n) (se (se σ 11 x5 ((fl σ 102 x1) - v21)) 12 x5 (v21 - v16)) x1 x4 (x5 + 1)))))))
 else
 Option.bind (Es_sort N π σ x4) (fun r11 =>
 some r11)))
def Rw_reverse (N : Nat) (rRow : Sh → St → Int → Int → Option St) (π : Sh) (σ : St) (x1 : Int) (x2 : Int) : Option St := grd (ob π x1 5) (
 grd (ob π (fl σ 101 x1) 26) (
 grd (ina π (fl σ 101 x1) 0) (
 Option.bind (rRow π σ (el σ (fl σ 101 x1) 0) x2) (fun r4 =>
 Rw_reverse_24 N rRow π N r4 x1 (fl σ 46 10) (fl σ 46 10)))))
def Rw_rotate (N : Nat) (rRow : Sh → St → Int → Int → Option St) (π : Sh) (σ : St) (x1 : Int) (x2 : Int) : Option St := grd (ob π x1 5) (
 grd (ob π (fl σ 101 x1) 26) (
 grd (ina π (fl σ 101 x1) 0) (
 Option.bind (rRow π σ (el σ (fl σ 101 x1) 0) x2) (fun r4 =>
 grd (ob π (fl r4 100 x1) 10) (
 Option.bind (Es_rotateValues N π r4 (fl σ 46 10) (fl r4 202 (fl r4 100 x1))) (fun r9 =>
 some r9))))))
def Rw_sequence_155 (N : Nat) (rRow : Sh → St → Int → Int → Option St) (π : Sh) (rec29 : St → Int → Int → Int → Int → Int → Int → Option St) : Nat → St → Int → Int → Int → Int → Int → Int → Int → Int → Int → Int → Option St
  | 0, _, _, _, _, _, _, _, _, _, _, _ => none
  | n + 1, σ, x1, x2, x4, x5, x7, x9, x11, x13, x16, x17 => grd (i32 x17) (
 grd (i32 x16) (
 if x17 < x16 then
 grd (inb x17 6000) (
 (Rw_sequence_155 N rRow π rec29 n) (se (se σ 11 x17 (((el σ 11 x17) * x13) + (x7 * x5))) 12 x17 ((el σ 12 x17) * x13)) x1 x2 x4 x5 x7 x9 x11 x13 x16 (x17 + 1))
 else
 grd (ob π x4 10) (
 grd (ob π (fl σ 212 x4) 22) (
 grd (ina π (fl σ 212 x4) x9) (
 grd (i32 (el σ (fl σ 212 x4) x9)) (
 bnd (x7 + (x11 * (el σ (fl σ 212 x4) x9))) (fun v55 =>
 rec29 σ x1 x2 x4 x5 v55 (x9 + 1))))))))
def Rw_sequence_151 (N : Nat) (rRow : Sh → St → Int → Int → Option St) (π : Sh) (rec29 : St → Int → Int → Int → Int → Int → Int → Option St) (σ : St) (x1 : Int) (x2 : Int) (x4 : Int) (x5 : Int) (x7 : Int) (x9 : Int) (x11 : Int) (x13 : Int) (x15 : Int) (x16 : Int) : Option St := Rw_sequence_155 N rRow π rec29 N σ x1 x2 x4 x5 x7 x9 x11 x13 x16 x15
def Rw_sequence_100 (N : Nat) (rRow : Sh → St → Int → Int → Option St) (π : Sh) (rec29 : St → Int → Int → Int → Int → Int → Int → Option St) : Nat → St → Int → Int → Int → Int → Int → Int → Int → Int → Int → Int → Int → Option St
  | 0, _, _, _, _, _, _, _, _, _, _, _, _ => none
  | n + 1, σ, x1, x2, x4, x5, x7, x9, x11, x13, x15, x16, x17 => grd (ob π x4 10) (
 grd (ob π (fl σ 212 x4) 22) (
 grd (ina π (fl σ 212 x4) x9) (
 grd (i32 x17) (
 grd (i32 (el σ (fl σ 212 x4) x9)) (
 if x17 < (el σ (fl σ 212 x4) x9) then
 grd (i32 x16) (
 grd (i32 x15) (
 if x15 < x16 then
 Option.bind (Es_pushAgain N π σ x15 x16 x13 ((x7 + (x17 * x11)) * x5)) (fun r44 =>
 (Rw_sequence_100 N rRow π rec29 n) r44 x1 x2 x4 x5 x7 x9 x11 x13 x15 x16 (x17 + 1))
 else
 Rw_sequence_151 N rRow π rec29 σ x1 x2 x4 x5 x7 x9 x11 x13 x15 x16))
 else
 Rw_sequence_151 N rRow π rec29 σ x1 x2 x4 x5 x7 x9 x11 x13 x15 x16)))))
def Rw_sequence_29 (N : Nat) (rRow : Sh → St → Int → Int → Option St) (π : Sh)  : Nat → St → Int → Int → Int → Int → Int → Int → Option St
  | 0, _, _, _, _, _, _, _ => none
  | n + 1, σ, x1, x2, x4, x5, x7, x9 => grd (ob π x1 5) (
 grd (ob π (fl σ 101 x1) 26) (
 grd (0 ≤ ln π (fl σ 101 x1)) (
 grd (i32 x9) (
 grd (i32 (ln π (fl σ 101 x1))) (
 if x9 < (ln π (fl σ 101 x1)) then
 grd (ina π (fl σ 101 x1) x9) (
 bnd (el σ (fl σ 101 x1) x9) (fun v17 =>
 grd (ob π x4 10) (
 grd (ob π (fl σ 211 x4) 22) (
 grd (ina π (fl σ 211 x4) x9) (
 grd (i32 (el σ (fl σ 211 x4) x9)) (
 bnd (el σ (fl σ 211 x4) x9) (fun v23 =>
 grd (ob π v17 5) (
 grd (i64 x5) (
 grd (i64 (fl σ 102 v17)) (
 grd (¬ (fl σ 102 v17) = 0) (
 bnd (v23 * (Int.tdiv x5 (fl σ 102 v17))) (fun v29 =>
 Option.bind (rRow π σ v17 x2) (fun r31 =>
 Rw_sequence_100 N rRow π (Rw_sequence_29 N rRow π n) N r31 x1 x2 x4 x5 x7 x9 v23 v29 (fl σ 46 10) (fl r31 46 10) 1)))))))))))))
 else
 some σ)))))
def Rw_sequence (N : Nat) (rRow : Sh → St → Int → Int → Option St) (π : Sh) (σ : St) (x1 : Int) (x2 : Int) : Option St := grd (ob π x1 5) (
 grd (ob π (fl σ 100 x1) 10) (
 grd (i32 (fl σ 202 (fl σ 100 x1))) (
 grd (i32 (max 1 (fl σ 202 (fl σ 100 x1)))) (
 grd (i64 (fl σ 102 x1)) (
 grd (i64 (max 1 (fl σ 202 (fl σ 100 x1)))) (
 grd (¬ (max 1 (fl σ 202 (fl σ 100 x1))) = 0) (
 bnd (Int.tdiv (fl σ 102 x1) (max 1 (fl σ 202 (fl σ 100 x1)))) (fun v8 =>
 Rw_sequence_29 N rRow π N σ x1 x2 (fl σ 100 x1) v8 0 0))))))))
def Rw_shift_38 (N : Nat) (rRow : Sh → St → Int → Int → Option St) (π : Sh)  : Nat → St → Int → Int → Int → Int → Int → Int → Int → Option St
  | 0, _, _, _, _, _, _, _, _ => none
  | n + 1, σ, x1, x2, x4, x8, x9, x13, x15 => grd (i64 x15) (
 grd (i64 x13) (
 if x13 < x15 then
 some σ
 else
 Option.bind (rRow π σ x8 (x2 + x15)) (fun r16 =>
 grd (ob π x1 5) (
 grd (ob π x8 5) (
 grd (i64 (fl r16 102 x1)) (
 grd (i64 (fl r16 102 x8)) (
 grd (¬ (fl r16 102 x8) = 0) (
 grd (i64 x9) (
 grd (¬ x9 = 0) (
 Option.bind (Es_scale N π r16 (fl σ 46 10) (Int.tdiv (fl r16 102 x1) (fl r16 102 x8)) ((x15 * (fl r16 102 x1)) - (x4 * (Int.tdiv (fl r16 102 x1) x9)))) (fun r27 =>
 Option.bind (Es_choose N π r27 (fl σ 46 10) 0 (fl r27 102 x1) 1) (fun r31 =>
 bnd (x15 + 1) (fun v35 =>
 (Rw_shift_38 N rRow π n) r31 x1 x2 x4 x8 x9 x13 v35)))))))))))))
def Rw_shift (N : Nat) (rRow : Sh → St → Int → Int → Option St) (π : Sh) (σ : St) (x1 : Int) (x2 : Int) (x4 : Int) (x6 : Int) : Option St := grd (ob π x1 5) (
 grd (ob π (fl σ 101 x1) 26) (
 grd (ina π (fl σ 101 x1) 0) (
 bnd (el σ (fl σ 101 x1) 0) (fun v4 =>
 grd (i64 x6) (
 bnd (max 1 x6) (fun v7 =>
 Option.bind (M_floorDiv N x4 v7) (fun r9 =>
 Option.bind (Rw_ceiling N x4 v7) (fun r11 =>
 Rw_shift_38 N rRow π N σ x1 x2 x4 v4 v7 r11 r9))))))))
def Rw_squeeze (N : Nat) (rRow : Sh → St → Int → Int → Option St) (π : Sh) (σ : St) (x1 : Int) (x2 : Int) : Option St := grd (ob π x1 5) (
 grd (ob π (fl σ 101 x1) 26) (
 grd (ina π (fl σ 101 x1) 0) (
 Option.bind (rRow π σ (el σ (fl σ 101 x1) 0) x2) (fun r4 =>
 Option.bind (Pt_spanUpper N π r4 x1) (fun r8 =>
 Option.bind (Pt_spanLower N π r8.1 x1) (fun r12 =>
 grd (ob π (fl r12.1 101 x1) 26) (
 grd (ina π (fl r12.1 101 x1) 0) (
 grd (ob π (el r12.1 (fl r12.1 101 x1) 0) 5) (
 grd (i64 (fl r8.1 102 x1)) (
 grd (i64 (r12.2 * (fl r12.1 102 (el r12.1 (fl r12.1 101 x1) 0)))) (
 grd (¬ (r12.2 * (fl r12.1 102 (el r12.1 (fl r12.1 101 x1) 0))) = 0) (
 bnd (r8.2 * (Int.tdiv (fl r8.1 102 x1) (r12.2 * (fl r12.1 102 (el r12.1 (fl r12.1 101 x1) 0))))) (fun v22 =>
 grd (ob π (fl σ 100 x1) 10) (
 grd (i32 (fl r12.1 202 (fl σ 100 x1))) (
 grd (i32 (fl r12.1 203 (fl σ 100 x1))) (
 grd (i32 (max 1 (fl r12.1 203 (fl σ 100 x1)))) (
 grd (i64 (fl r12.1 102 x1)) (
 grd (i64 (max 1 (fl r12.1 203 (fl σ 100 x1)))) (
 grd (¬ (max 1 (fl r12.1 203 (fl σ 100 x1))) = 0) (
 Option.bind (Es_scale N π r12.1 (fl σ 46 10) v22 ((fl r12.1 202 (fl σ 100 x1)) * (Int.tdiv (fl r12.1 102 x1) (max 1 (fl r12.1 203 (fl σ 100 x1)))))) (fun r31 =>
 some r31)))))))))))))))))))))
def Rw_turn (N : Nat) (rRow : Sh → St → Int → Int → Option St) (π : Sh) (σ : St) (x1 : Int) (x2 : Int) : Option St := grd (ob π x1 5) (
 grd (ob π (fl σ 100 x1) 10) (
 grd (i32 (fl σ 202 (fl σ 100 x1))) (
 grd (i32 (max 1 (fl σ 202 (fl σ 100 x1)))) (
 bnd (max 1 (fl σ 202 (fl σ 100 x1))) (fun v5 =>
 Option.bind (M_floorMod N x2 v5) (fun r7 =>
 Option.bind (Rw_partAt N π σ x1 r7) (fun r9 =>
 Option.bind (M_floorDiv N x2 v5) (fun r13 =>
 Option.bind (rRow π r9.1 r9.2 r13) (fun r15 =>
 grd (ob π r9.2 5) (
 grd (i64 (fl r15 102 x1)) (
 grd (i64 (fl r15 102 r9.2)) (
 grd (¬ (fl r15 102 r9.2) = 0) (
 Option.bind (Es_scale N π r15 (fl r9.1 46 10) (Int.tdiv (fl r15 102 x1) (fl r15 102 r9.2)) 0) (fun r23 =>
 some r23))))))))))))))
def Rw_row_280 (N : Nat) (rRow : Sh → St → Int → Int → Option St) (π : Sh)  (σ : St) (s0 : Int) (s1 : Int) (s2 : Int) : Option St := Option.bind (Rw_either N rRow π σ s2 s1 s0) (fun r148 =>
 some r148)
def Rw_row_314 (N : Nat) (rRow : Sh → St → Int → Int → Option St) (π : Sh)  (σ : St) (s0 : Int) (s1 : Int) (s2 : Int) : Option St := Option.bind (Rw_either N rRow π σ s2 s1 s0) (fun r152 =>
 some r152)
def Rw_row (N : Nat) (rRow : Sh → St → Int → Int → Option St) (π : Sh) (σ : St) (x1 : Int) (x2 : Int) : Option St := grd (ob π x1 5) (
 grd (i64 (fl σ 103 x1)) (
 if (fl σ 103 x1) = 0 then
 some σ
 else
 grd (ob π (fl σ 100 x1) 10) (
 grd (i32 (fl σ 200 (fl σ 100 x1))) (
 if (fl σ 200 (fl σ 100 x1)) = 1 then
 Option.bind (Es_push N π σ 0 1 (fl σ 207 (fl σ 100 x1)) 0 0) (fun r7 =>
 some r7)
 else (if (fl σ 200 (fl σ 100 x1)) = 2 then
 Option.bind (Es_push N π σ 0 1 0 (fl σ 202 (fl σ 100 x1)) 1) (fun r12 =>
 some r12)
 else (if (fl σ 200 (fl σ 100 x1)) = 3 then
 some σ
 else (if (fl σ 200 (fl σ 100 x1)) = 4 then
 Option.bind (Rw_sequence N rRow π σ x1 x2) (fun r18 =>
 some r18)
 else (if (fl σ 200 (fl σ 100 x1)) = 5 then
 Option.bind (Rw_turn N rRow π σ x1 x2) (fun r23 =>
 some r23)
 else (if (fl σ 200 (fl σ 100 x1)) = 6 then
 Option.bind (Rw_poly N rRow π σ x1 x2) (fun r28 =>
 some r28)
 else (if (fl σ 200 (fl σ 100 x1)) = 7 then
 Option.bind (Rw_euclid N rRow π σ x1 x2) (fun r33 =>
 some r33)
 else (if (fl σ 200 (fl σ 100 x1)) = 8 then
 Option.bind (Rw_layer N rRow π σ x1 x2) (fun r38 =>
 some r38)
 else (if (fl σ 200 (fl σ 100 x1)) = 9 then
 Option.bind (Rw_fast N rRow π σ x1 x2) (fun r43 =>
 some r43)
 else (if (fl σ 200 (fl σ 100 x1)) = 10 then
 grd (i32 (fl σ 202 (fl σ 100 x1))) (
 grd (i32 (fl σ 203 (fl σ 100 x1))) (
 Option.bind (Rw_shift N rRow π σ x1 x2 (fl σ 202 (fl σ 100 x1)) (fl σ 203 (fl σ 100 x1))) (fun r50 =>
 some r50)))
 else (if (fl σ 200 (fl σ 100 x1)) = 11 then
 Option.bind (Rw_reverse N rRow π σ x1 x2) (fun r55 =>
 some r55)
 else (if (fl σ 200 (fl σ 100 x1)) = 12 then
 grd (i32 (fl σ 202 (fl σ 100 x1))) (
 Option.bind (M_floorMod N x2 (fl σ 202 (fl σ 100 x1))) (fun r61 =>
 grd (i64 r61) (
 if r61 = 0 then
 Rw_row_280 N rRow π σ 1 x2 x1
 else
 Rw_row_280 N rRow π σ 0 x2 x1)))
 else (if (fl σ 200 (fl σ 100 x1)) = 13 then
 grd (i32 (fl σ 202 (fl σ 100 x1))) (
 Option.bind (M_floorMod N x2 (fl σ 202 (fl σ 100 x1))) (fun r67 =>
 grd (i32 (fl σ 203 (fl σ 100 x1))) (
 grd (i64 r67) (
 grd (i64 (fl σ 203 (fl σ 100 x1))) (
 if r67 < (fl σ 203 (fl σ 100 x1)) then
 Rw_row_314 N rRow π σ 0 x2 x1
 else
 Rw_row_314 N rRow π σ 1 x2 x1)))))
 else (if (fl σ 200 (fl σ 100 x1)) = 14 then
 grd (i32 (fl σ 202 (fl σ 100 x1))) (
 Option.bind (M_floorMod N x2 (fl σ 202 (fl σ 100 x1))) (fun r75 =>
 Option.bind (Rw_shift N rRow π σ x1 x2 r75 (fl σ 202 (fl σ 100 x1))) (fun r77 =>
 some r77)))
 else (if (fl σ 200 (fl σ 100 x1)) = 15 then
 Option.bind (Rw_ply N rRow π σ x1 x2) (fun r82 =>
 some r82)
 else (if (fl σ 200 (fl σ 100 x1)) = 16 then
 Option.bind (Rw_chunk N rRow π σ x1 x2) (fun r87 =>
 some r87)
 else (if (fl σ 200 (fl σ 100 x1)) = 17 then
 grd (i32 (fl σ 202 (fl σ 100 x1))) (
 grd (i32 (fl σ 203 (fl σ 100 x1))) (
 Option.bind (Rw_ceiling N ((fl σ 202 (fl σ 100 x1)) * (fl σ 102 x1)) (fl σ 203 (fl σ 100 x1))) (fun r94 =>
 grd (i32 (fl σ 204 (fl σ 100 x1))) (
 grd (i32 (fl σ 205 (fl σ 100 x1))) (
 Option.bind (Rw_ceiling N ((fl σ 204 (fl σ 100 x1)) * (fl σ 102 x1)) (fl σ 205 (fl σ 100 x1))) (fun r98 =>
 Option.bind (Rw_within N rRow π σ x1 x2 r94 r98) (fun r100 =>
 some r100)))))))
 else (if (fl σ 200 (fl σ 100 x1)) = 18 then
 Option.bind (Rw_rotate N rRow π σ x1 x2) (fun r105 =>
 some r105)
 else (if (fl σ 200 (fl σ 100 x1)) = 19 then
 grd (ob π (fl σ 101 x1) 26) (
 grd (ina π (fl σ 101 x1) 0) (
 grd (ina π (fl σ 101 x1) 1) (
 Option.bind (Rw_meet N rRow π σ x1 x2 (el σ (fl σ 101 x1) 0) (el σ (fl σ 101 x1) 1)) (fun r113 =>
 some r113))))
 else (if (fl σ 200 (fl σ 100 x1)) = 20 then
 grd (ob π (fl σ 101 x1) 26) (
 grd (ina π (fl σ 101 x1) 1) (
 grd (ina π (fl σ 101 x1) 0) (
 Option.bind (Rw_meet N rRow π σ x1 x2 (el σ (fl σ 101 x1) 1) (el σ (fl σ 101 x1) 0)) (fun r121 =>
 some r121))))
 else (if (fl σ 200 (fl σ 100 x1)) = 21 then
 grd (ob π (fl σ 101 x1) 26) (
 grd (ina π (fl σ 101 x1) 0) (
 grd (ina π (fl σ 101 x1) 1) (
 Option.bind (Rw_meet N rRow π σ x1 x2 (el σ (fl σ 101 x1) 0) (el σ (fl σ 101 x1) 1)) (fun r129 =>
 some r129))))
 else (if (fl σ 200 (fl σ 100 x1)) = 22 then
 Option.bind (Rw_draws N rRow π σ x1 x2) (fun r134 =>
 some r134)
 else (if (fl σ 200 (fl σ 100 x1)) = 23 then
 Option.bind (Rw_draws N rRow π σ x1 x2) (fun r139 =>
 some r139)
 else (if (fl σ 200 (fl σ 100 x1)) = 24 then
 Option.bind (Rw_squeeze N rRow π σ x1 x2) (fun r144 =>
 some r144)
 else (some σ))))))))))))))))))))))))))))
def Rw_rowC (N : Nat) : Nat → Sh → St → Int → Int → Option St
  | 0, _, _, _, _ => none
  | d + 1, π, σ, y0, y1 => Rw_row N (Rw_rowC N d) π σ y0 y1
def Rw_workOut (N : Nat)  (π : Sh) (σ : St) (x1 : Int) (x2 : Int) : Option St := bnd (sf σ 46 10 0) (fun σ1 =>
 Option.bind (Rw_rowC N 64 π σ1 x1 x2) (fun r4 =>
 some r4))
def Sc_append_3 (N : Nat)  (π : Sh)  : Nat → St → Int → Int → Option St
  | 0, _, _, _ => none
  | n + 1, σ, x1, x2 => grd (i32 x2) (
 if x2 < 0 then
 some σ
 else
 grd (i32 (fl σ 181 1)) (
 if (fl σ 181 1) < 2000 then
 grd (inb (fl σ 181 1) 2000) (
 (Sc_append_3 N π n) (sf (se σ 2 (fl σ 181 1) (b8 (iushr x1 x2))) 181 1 ((fl σ 181 1) + 1)) x1 (x2 + (-8)))
 else
 some σ))
def Sc_append (N : Nat)  (π : Sh) (σ : St) (x1 : Int) : Option St := Sc_append_3 N π N σ x1 24
def Sc_restart (N : Nat)  (π : Sh) (σ : St)  : Option St := bnd (sf (sf (sf (sf σ 182 1 0) 183 1 0) 184 1 0) 187 1 0) (fun σ1 =>
 Option.bind (Sc_advance N π σ1) (fun r4 =>
 some r4))
def Cs_feed (N : Nat)  (π : Sh) (σ : St) (x1 : Int) (x2 : Int) (x3 : Int) (x4 : Int) (x5 : Int) : Option (St × Int) := grd (i32 ((fl σ 181 1) + 20)) (
 if (2000 : Int) < ((fl σ 181 1) + 20) then
 some (σ, 0)
 else
 Option.bind (Sc_append N π σ x1) (fun r3 =>
 Option.bind (Sc_append N π r3 x2) (fun r7 =>
 Option.bind (Sc_append N π r7 x3) (fun r11 =>
 Option.bind (Sc_append N π r11 x4) (fun r15 =>
 Option.bind (Sc_append N π r15 x5) (fun r19 =>
 some (r19, 1)))))))
def Cs_end (N : Nat)  (π : Sh) (σ : St) (x1 : Int) : Option (St × Int) := grd (i32 x1) (
 if x1 < 0 then
 some (σ, 0)
 else
 grd (i32 (fl σ 181 1)) (
 if (fl σ 181 1) < x1 then
 some (σ, 0)
 else
 some ((sf σ 181 1 x1), 1)))
def Cs_copyDefinitions_26 (N : Nat)   (rec6 : Sh → St → Int → Int → Int → Option (Sh × St)) (π : Sh) (σ : St) (x0 : Int) (x1 : Int) (x2 : Int) (s0 : Int) : Option (Sh × St) := rec6 π σ x0 x1 (x2 + 1)
def Cs_copyDefinitions_6 (N : Nat)    : Nat → Sh → St → Int → Int → Int → Option (Sh × St)
  | 0, _, _, _, _, _ => none
  | n + 1, π, σ, x0, x1, x2 => Option.bind (L_size π σ x0) (fun r6 =>
 grd (ob π x0 0) (
 grd (i32 x2) (
 grd (i32 r6.2) (
 if x2 < r6.2 then
 Option.bind (L_get π r6.1 x0 x2) (fun r14 =>
 grd (ob π r14.2 1) (
 Option.bind (L_add π r14.1 x1 r14.2) (fun r19 =>
 grd (ob π x1 0) (
 Cs_copyDefinitions_26 N (Cs_copyDefinitions_6 N n) r19.1 r19.2.1 x0 x1 x2 r19.2.2))))
 else
 some (π, r6.1)))))
def Cs_copyDefinitions (N : Nat)  (π : Sh) (σ : St) (x0 : Int) (x1 : Int) : Option (Sh × St) := Option.bind (L_clear π σ x1) (fun r1 =>
 grd (ob π x1 0) (
 Cs_copyDefinitions_6 N N π r1 x0 x1 0))
def Cs_finishReading_60 (N : Nat)  (π : Sh)  (σ : St) (x1 : Int) : Option (St × Int) := some ((sf (sf σ 258 0 (fl σ 87 3)) 181 1 0), x1)
def Cs_finishReading (N : Nat)  (π : Sh) (σ : St) (x1 : Int) : Option (St × Int) := grd (i32 (fl σ 182 1)) (
 if (fl σ 182 1) = 0 then
 grd (i32 (fl σ 88 3)) (
 if (fl σ 88 3) = 0 then
 Cs_finishReading_60 N π (sf (sf (sf σ 255 0 1) 256 0 x1) 257 0 (-1)) x1
 else
 Cs_finishReading_60 N π (sf (sf (sf (sf σ 255 0 1) 256 0 x1) 257 0 (-1)) 257 0 (fl σ 89 3)) x1)
 else
 Cs_finishReading_60 N π (sf (sf (sf (sf σ 255 0 1) 256 0 x1) 257 0 (-1)) 257 0 (fl σ 183 1)) x1)
def Cs_startReading_11 (N : Nat)    (π : Sh) (σ : St)  : Option (Sh × St) := Option.bind (Sc_restart N π σ) (fun r4 =>
 Option.bind (Mk_restart N π r4) (fun r8 =>
 some (π, r8)))
def Cs_startReading (N : Nat)  (π : Sh) (σ : St)  : Option (Sh × St) := Option.bind (Cs_copyDefinitions N π σ 42 43) (fun r1 =>
 Cs_startReading_11 N r1.1 r1.2 )
def Cs_takeLine_112 (N : Nat)    (π : Sh) (σ : St) (s0 : Int) : Option (Sh × St × Int) := some (π, σ, 1)
def Cs_takeLine_53 (N : Nat)    : Nat → Sh → St → Int → Int → Option (Sh × St × Int)
  | 0, _, _, _, _ => none
  | n + 1, π, σ, x1, x2 => Option.bind (L_size π σ 43) (fun r13 =>
 grd (i32 x2) (
 grd (i32 r13.2) (
 if x2 < r13.2 then
 Option.bind (L_get π r13.1 43 x2) (fun r23 =>
 grd (ob π r23.2 1) (
 grd (ob π x1 1) (
 grd (i64 (fl r23.1 20 r23.2)) (
 grd (i64 (fl r23.1 20 x1)) (
 if (fl r23.1 20 r23.2) = (fl r23.1 20 x1) then
 Option.bind (L_set π r23.1 43 x2 x1) (fun r32 =>
 some (π, r32.1, 1))
 else
 (Cs_takeLine_53 N n) π r23.1 x1 (x2 + 1))))))
 else
 Option.bind (L_add π r13.1 43 x1) (fun r20 =>
 Cs_takeLine_112 N r20.1 r20.2.1 r20.2.2))))
def Cs_takeLine_39 (N : Nat)    (π : Sh) (σ : St) (x1 : Int) : Option (Sh × St × Int) := grd (i32 (fl σ 88 3)) (
 if (fl σ 88 3) = 0 then
 Cs_takeLine_53 N N π σ x1 0
 else
 some (π, σ, 0))
def Cs_takeLine_36 (N : Nat)    (π : Sh) (σ : St) (x1 : Int) (s0 : Int) (s1 : Int) : Option (Sh × St × Int) := grd (ob π s1 1) (
 Cs_takeLine_39 N π (sf σ 26 s1 s0) x1)
def Cs_takeLine (N : Nat)  (π : Sh) (σ : St) (x1 : Int) : Option (Sh × St × Int) := if x1 < 0 then
 grd (i32 (fl σ 182 1)) (
 if (fl σ 182 1) = 0 then
 some (π, σ, 1)
 else
 some (π, σ, 0))
 else
 grd (ob π x1 1) (
 grd (i32 (fl σ 22 x1)) (
 if (fl σ 22 x1) = 0 then
 Option.bind (Mk_make N π σ x1) (fun r5 =>
 Cs_takeLine_36 N r5.1 r5.2.1 x1 r5.2.2 x1)
 else
 Cs_takeLine_39 N π σ x1))
def Cs_read_54 (N : Nat)   (rec14 : Sh → St → Int → Int → Option (Sh × St × Int)) (π : Sh) (σ : St) (x2 : Int) (s0 : Int) : Option (Sh × St × Int) := rec14 π σ s0 (x2 + 1)
def Cs_read_53 (N : Nat)   (rec14 : Sh → St → Int → Int → Option (Sh × St × Int)) (π : Sh) (σ : St) (x2 : Int) : Option (Sh × St × Int) := Cs_read_54 N rec14 π σ x2 0
def Cs_read_36 (N : Nat)   (rec14 : Sh → St → Int → Int → Option (Sh × St × Int)) (π : Sh) (σ : St) (x2 : Int) (s0 : Int) : Option (Sh × St × Int) := grd (i32 s0) (
 if s0 = 0 then
 Cs_read_53 N rec14 π σ x2
 else
 Option.bind (Rd_hasMore N π σ) (fun r30 =>
 grd (i32 r30.2) (
 if r30.2 = 0 then
 Cs_read_53 N rec14 π r30.1 x2
 else
 Cs_read_54 N rec14 π r30.1 x2 1)))
def Cs_read_33 (N : Nat)   (rec14 : Sh → St → Int → Int → Option (Sh × St × Int)) (π : Sh) (σ : St) (x2 : Int) (s0 : Int) : Option (Sh × St × Int) := Option.bind (Cs_takeLine N π σ s0) (fun r17 =>
 Cs_read_36 N rec14 r17.1 r17.2.1 x2 r17.2.2)
def Cs_read_123 (N : Nat)    (π : Sh) (σ : St) (x2 : Int) : Option (Sh × St × Int) := Option.bind (Cs_finishReading N π σ x2) (fun r41 =>
 some (π, r41.1, r41.2))
def Cs_read_108 (N : Nat)    (π : Sh) (σ : St) (x2 : Int) : Option (Sh × St × Int) := grd (i32 x2) (
 if x2 = 0 then
 Option.bind (Cs_copyDefinitions N π σ 43 42) (fun r38 =>
 Cs_read_123 N r38.1 r38.2 x2)
 else
 Cs_read_123 N π σ x2)
def Cs_read_88 (N : Nat)    (π : Sh) (σ : St) (s0 : Int) : Option (Sh × St × Int) := grd (i32 s0) (
 if s0 = 0 then
 Option.bind (L_size π σ 43) (fun r22 =>
 grd (i32 r22.2) (
 if (40 : Int) < r22.2 then
 Cs_read_108 N π r22.1 11
 else
 Cs_read_108 N π r22.1 s0))
 else
 Cs_read_108 N π σ s0)
def Cs_read_61 (N : Nat)    (π : Sh) (σ : St)  : Option (Sh × St × Int) := grd (i32 (fl σ 182 1)) (
 if (fl σ 182 1) = 0 then
 Cs_read_88 N π σ (fl σ 88 3)
 else
 Cs_read_88 N π σ (fl σ 182 1))
def Cs_read_14 (N : Nat)    : Nat → Sh → St → Int → Int → Option (Sh × St × Int)
  | 0, _, _, _, _ => none
  | n + 1, π, σ, x1, x2 => grd (i32 x2) (
 if (2000 : Int) < x2 then
 Cs_read_61 N π σ
 else
 grd (i32 x1) (
 if x1 = 0 then
 Cs_read_61 N π σ
 else
 Option.bind (Rd_line N π σ) (fun r12 =>
 Cs_read_33 N (Cs_read_14 N n) r12.1 r12.2.1 x2 r12.2.2)))
def Cs_read_4 (N : Nat)    (π : Sh) (σ : St)  : Option (Sh × St × Int) := Option.bind (Rd_hasMore N π σ) (fun r4 =>
 Cs_read_14 N N π r4.1 r4.2 0)
def Cs_read (N : Nat)  (π : Sh) (σ : St)  : Option (Sh × St × Int) := Option.bind (Cs_startReading N π σ) (fun r1 =>
 Cs_read_4 N r1.1 r1.2 )
def Cs_settle_55 (N : Nat)  (π : Sh) (rec14 : St → Int → Option St) (σ : St) (x1 : Int) : Option St := rec14 σ (x1 + 1)
def Cs_settle_14 (N : Nat)  (π : Sh)  : Nat → St → Int → Option St
  | 0, _, _ => none
  | n + 1, σ, x1 => grd (i32 x1) (
 if x1 < 8 then
 grd (inb x1 8) (
 grd (i32 (el σ 53 x1)) (
 if (el σ 53 x1) = 0 then
 Cs_settle_55 N π (Cs_settle_14 N π n) σ x1
 else
 grd ((el σ 52 x1) < 0 ∨ ob π (el σ 52 x1) 5) (
 Cs_settle_55 N π (Cs_settle_14 N π n) (se (se (se σ 51 x1 (el σ 52 x1)) 52 x1 (-1)) 53 x1 0) x1)))
 else
 some σ)
def Cs_settle (N : Nat)  (π : Sh) (σ : St)  : Option St := grd (i32 (fl σ 253 0)) (
 grd (i32 (Int.tmod (fl σ 253 0) 960)) (
 if (Int.tmod (fl σ 253 0) 960) = 0 then
 Cs_settle_14 N π N σ 0
 else
 some σ))
def Cs_assign (N : Nat)  (π : Sh) (σ : St) (x1 : Int) (x2 : Int) : Option St := grd (inb x1 8) (
 grd (x2 < 0 ∨ ob π x2 5) (
 bnd (se (se σ 52 x1 x2) 53 x1 1) (fun σ3 =>
 Option.bind (Cs_settle N π σ3) (fun r6 =>
 some r6))))
def Cs_isTrack (N : Nat)  (x0 : Int) : Option Int := grd (i32 x0) (
 if x0 < 0 then
 some 0
 else
 if x0 < 8 then
 some 1
 else
 some 0)
def Cs_hang_84 (N : Nat)    (π : Sh) (σ : St) (x4 : Int) : Option (Sh × St × Int) := Option.bind (Cs_finishReading N π σ x4) (fun r24 =>
 some (π, r24.1, r24.2))
def Cs_hang_71 (N : Nat)    (π : Sh) (σ : St) (x1 : Int) (x3 : Int) (s0 : Int) : Option (Sh × St × Int) := grd (i32 s0) (
 if s0 = 0 then
 Option.bind (Cs_assign N π σ x1 x3) (fun r20 =>
 Cs_hang_84 N π r20 s0)
 else
 Cs_hang_84 N π σ s0)
def Cs_hang_43 (N : Nat)    (π : Sh) (σ : St) (x1 : Int) (s0 : Int) : Option (Sh × St × Int) := grd (i32 (fl σ 182 1)) (
 if (fl σ 182 1) = 0 then
 Cs_hang_71 N π σ x1 s0 (fl σ 88 3)
 else
 Cs_hang_71 N π σ x1 s0 (fl σ 182 1))
def Cs_hang_39 (N : Nat)    (π : Sh) (σ : St) (x1 : Int) (s0 : Int) : Option (Sh × St × Int) := Cs_hang_43 N π σ x1 s0
def Cs_hang_20 (N : Nat)    (π : Sh) (σ : St) (x1 : Int) (s0 : Int) : Option (Sh × St × Int) := grd (i32 (fl σ 182 1)) (
 if (fl σ 182 1) = 0 then
 Option.bind (Mk_make N π σ s0) (fun r13 =>
 Cs_hang_39 N r13.1 r13.2.1 x1 r13.2.2)
 else
 Cs_hang_43 N π σ x1 (-1))
def Cs_hang_13 (N : Nat)    (π : Sh) (σ : St) (x1 : Int) : Option (Sh × St × Int) := Option.bind (Rd_wholeExp N π σ) (fun r8 =>
 Cs_hang_20 N r8.1 r8.2.1 x1 r8.2.2)
def Cs_hang (N : Nat)  (π : Sh) (σ : St) (x1 : Int) : Option (Sh × St × Int) := Option.bind (Cs_isTrack N x1) (fun r1 =>
 grd (i32 r1) (
 if r1 = 0 then
 some (π, σ, (-1))
 else
 Option.bind (Cs_startReading N π σ) (fun r5 =>
 Cs_hang_13 N r5.1 r5.2 x1)))
def Cs_hush (N : Nat)  (π : Sh) (σ : St) (x1 : Int) : Option (St × Int) := Option.bind (Cs_isTrack N x1) (fun r1 =>
 grd (i32 r1) (
 if r1 = 0 then
 some (σ, 0)
 else
 Option.bind (Cs_assign N π σ x1 (-1)) (fun r5 =>
 some (r5, 1))))
def Cs_told (N : Nat)  (π : Sh) (σ : St) (x1 : Int) : Option (St × Int) := grd (i32 (fl σ 255 0)) (
 if (fl σ 255 0) = 0 then
 some (σ, (-1))
 else
 grd (i32 x1) (
 if x1 = 0 then
 some (σ, (fl σ 256 0))
 else (if x1 = 1 then
 some (σ, (fl σ 257 0))
 else (if x1 = 2 then
 some (σ, (fl σ 258 0))
 else (some (σ, (-1)))))))
def Cs_bound (N : Nat)  (π : Sh) (σ : St) (x1 : Int) (x2 : Int) : Option (St × Int) := Option.bind (Cs_isTrack N x1) (fun r1 =>
 grd (i32 r1) (
 if r1 = 0 then
 some (σ, (-1))
 else
 grd (inb x1 8) (
 if (el σ 51 x1) < 0 then
 some (σ, (-1))
 else
 bnd (el σ 51 x1) (fun v7 =>
 grd (i32 x2) (
 if x2 = 0 then
 grd (ob π v7 5) (
 some (σ, (fl σ 102 v7)))
 else (if x2 = 1 then
 grd (ob π v7 5) (
 some (σ, (fl σ 103 v7)))
 else (if x2 = 2 then
 grd (ob π v7 5) (
 some (σ, (fl σ 104 v7)))
 else (if x2 = 3 then
 grd (ob π v7 5) (
 some (σ, (fl σ 105 v7)))
 else (if x2 = 4 then
 grd (ob π v7 5) (
 some (σ, (fl σ 106 v7)))
 else (some (σ, (-1))))))))))))
def Cs_ask (N : Nat)  (π : Sh) (σ : St) (x1 : Int) (x2 : Int) : Option (St × Int) := Option.bind (Cs_isTrack N x1) (fun r1 =>
 grd (i32 r1) (
 if r1 = 0 then
 some (σ, (-1))
 else
 grd (inb x1 8) (
 if (el σ 51 x1) < 0 then
 some (σ, (-1))
 else
 grd (i32 x2) (
 if x2 < (-1000) then
 some (σ, (-1))
 else
 if (100000 : Int) < x2 then
 some (σ, (-1))
 else
 bnd (el σ 51 x1) (fun v10 =>
 Option.bind (Rw_workOut N π σ v10 x2) (fun r12 =>
 grd (ob π v10 5) (
 bnd (sf r12 68 24 0) (fun σ17 =>
 Option.bind (Ka_merge N π σ17 10 (fl r12 102 v10) x1 x2 0) (fun r20 =>
 some (r20, (fl r20 68 24)))))))))))
def Cs_event (N : Nat)  (π : Sh) (σ : St) (x1 : Int) (x2 : Int) : Option (St × Int) := grd (i32 x1) (
 if x1 < 0 then
 some (σ, (-1))
 else
 grd (i32 (fl σ 68 24)) (
 if x1 < (fl σ 68 24) then
 grd (i32 x2) (
 if x2 = 0 then
 Option.bind (Ka_time N π σ x1 x2) (fun r7 =>
 some (r7.1, r7.2))
 else (if x2 = 1 then
 Option.bind (Ka_time N π σ x1 x2) (fun r12 =>
 some (r12.1, r12.2))
 else (if x2 = 2 then
 Option.bind (Ka_time N π σ x1 x2) (fun r17 =>
 some (r17.1, r17.2))
 else (if x2 = 3 then
 Option.bind (Ka_time N π σ x1 x2) (fun r22 =>
 some (r22.1, r22.2))
 else (if x2 = 4 then
 grd (inb x1 400) (
 some (σ, (el σ 31 x1)))
 else (if x2 = 5 then
 grd (inb x1 400) (
 grd (i32 (el σ 32 x1)) (
 if (el σ 32 x1) = 0 then
 some (σ, 0)
 else
 some (σ, 1)))
 else (if x2 = 6 then
 grd (inb x1 400) (
 Option.bind (Ks_lettersOf N (el σ 30 x1)) (fun r34 =>
 some (σ, r34)))
 else (some (σ, (-1))))))))))
 else
 some (σ, (-1))))
def Cs_letter (N : Nat)  (π : Sh) (σ : St) (x1 : Int) (x2 : Int) : Option (St × Int) := Option.bind (Ka_letterAt N π σ x1 x2) (fun r1 =>
 some (r1.1, r1.2))
def Cs_anyAlone_2 (N : Nat)  (π : Sh)  : Nat → St → Int → Option (St × Int)
  | 0, _, _ => none
  | n + 1, σ, x1 => grd (i32 x1) (
 if x1 < 8 then
 grd (inb x1 8) (
 grd (i32 (el σ 55 x1)) (
 if (el σ 55 x1) = 0 then
 (Cs_anyAlone_2 N π n) σ (x1 + 1)
 else
 some (σ, 1)))
 else
 some (σ, 0))
def Cs_anyAlone (N : Nat)  (π : Sh) (σ : St)  : Option (St × Int) := Cs_anyAlone_2 N π N σ 0
def Cs_hearCycle_154 (N : Nat)  (π : Sh) (rec21 : St → Int → Int → Int → Int → Int → Int → Int → Option (St × Int)) (σ : St) (x1 : Int) (x2 : Int) (x3 : Int) (x4 : Int) (x5 : Int) (x6 : Int) (x7 : Int) : Option (St × Int) := rec21 σ x1 x2 x3 x4 x5 x6 (x7 + 1)
def Cs_hearCycle_70 (N : Nat)  (π : Sh) (rec21 : St → Int → Int → Int → Int → Int → Int → Int → Option (St × Int)) (σ : St) (x1 : Int) (x2 : Int) (x3 : Int) (x4 : Int) (x5 : Int) (x6 : Int) (x7 : Int) (x8 : Int) : Option (St × Int) := grd (i32 x1) (
 Option.bind (Rw_workOut N π σ x8 x1) (fun r18 =>
 grd (i32 x2) (
 grd (ob π x8 5) (
 Option.bind (Rw_ceiling N (x2 * (fl r18 102 x8)) 960) (fun r24 =>
 grd (i32 x3) (
 Option.bind (Rw_ceiling N (x3 * (fl r18 102 x8)) 960) (fun r27 =>
 Option.bind (Es_choose N π r18 0 r24 r27 1) (fun r29 =>
 bnd (x6 + (fl r29 46 10)) (fun v33 =>
 Option.bind (Kh_merge N π r29 10 (fl r29 102 x8) x7 x1 x4) (fun r35 =>
 Cs_hearCycle_154 N π rec21 r35 x1 x2 x3 x4 x5 v33 x7))))))))))
def Cs_hearCycle_21 (N : Nat)  (π : Sh)  : Nat → St → Int → Int → Int → Int → Int → Int → Int → Option (St × Int)
  | 0, _, _, _, _, _, _, _, _ => none
  | n + 1, σ, x1, x2, x3, x4, x5, x6, x7 => grd (i32 x7) (
 if x7 < 8 then
 grd (inb x7 8) (
 bnd (el σ 51 x7) (fun v8 =>
 if v8 < 0 then
 Cs_hearCycle_154 N π (Cs_hearCycle_21 N π n) σ x1 x2 x3 x4 x5 x6 x7
 else
 grd (i32 (el σ 54 x7)) (
 if (el σ 54 x7) = 0 then
 grd (i32 x5) (
 if x5 = 0 then
 Cs_hearCycle_70 N π (Cs_hearCycle_21 N π n) σ x1 x2 x3 x4 x5 x6 x7 v8
 else
 grd (i32 (el σ 55 x7)) (
 if (el σ 55 x7) = 0 then
 Cs_hearCycle_154 N π (Cs_hearCycle_21 N π n) σ x1 x2 x3 x4 x5 x6 x7
 else
 Cs_hearCycle_70 N π (Cs_hearCycle_21 N π n) σ x1 x2 x3 x4 x5 x6 x7 v8))
 else
 Cs_hearCycle_154 N π (Cs_hearCycle_21 N π n) σ x1 x2 x3 x4 x5 x6 x7)))
 else
 some (σ, x6))
def Cs_hearCycle (N : Nat)  (π : Sh) (σ : St) (x1 : Int) (x2 : Int) (x3 : Int) : Option (St × Int) := Option.bind (Cs_anyAlone N π σ) (fun r1 =>
 Cs_hearCycle_21 N π N r1.1 x1 x2 x3 (fl σ 68 33) r1.2 0 0)
def Cs_play_130 (N : Nat)  (π : Sh)  (σ : St) (x3 : Int) : Option (St × Int) := some ((sf σ 254 0 ((fl σ 254 0) + x3)), x3)
def Cs_play_45 (N : Nat)  (π : Sh)  : Nat → St → Int → Int → Int → Option (St × Int)
  | 0, _, _, _, _ => none
  | n + 1, σ, x2, x3, x4 => grd (i32 x4) (
 if (3840 : Int) < x4 then
 Cs_play_130 N π σ x3
 else
 grd (i32 (fl σ 253 0)) (
 grd (i32 x2) (
 if (fl σ 253 0) < x2 then
 bnd (Int.tdiv (fl σ 253 0) 960) (fun v13 =>
 grd (i32 ((v13 + 1) * 960)) (
 bnd (min x2 ((v13 + 1) * 960)) (fun v16 =>
 Option.bind (Cs_hearCycle N π σ v13 ((fl σ 253 0) - (v13 * 960)) (v16 - (v13 * 960))) (fun r18 =>
 bnd (x3 + r18.2) (fun v22 =>
 bnd (sf r18.1 253 0 v16) (fun σ24 =>
 Option.bind (Cs_settle N π σ24) (fun r27 =>
 (Cs_play_45 N π n) r27 x2 v22 (x4 + 1))))))))
 else
 Cs_play_130 N π σ x3)))
def Cs_play (N : Nat)  (π : Sh) (σ : St) (x1 : Int) : Option (St × Int) := grd (i32 x1) (
 if x1 < 1 then
 some (σ, (-1))
 else
 if (3840 : Int) < x1 then
 some (σ, (-1))
 else
 grd (i32 ((fl σ 253 0) + x1)) (
 if (96000000 : Int) < ((fl σ 253 0) + x1) then
 some (σ, (-1))
 else
 bnd ((fl σ 253 0) + x1) (fun v6 =>
 Cs_play_45 N π N (sf σ 68 33 0) v6 0 0)))
def Cs_heard (N : Nat)  (π : Sh) (σ : St) (x1 : Int) (x2 : Int) : Option (St × Int) := grd (i32 x1) (
 if x1 < 0 then
 some (σ, (-1))
 else
 grd (i32 (fl σ 68 33)) (
 if x1 < (fl σ 68 33) then
 grd (i32 x2) (
 if x2 = 0 then
 grd (inb x1 400) (
 some (σ, (el σ 34 x1)))
 else (if x2 = 1 then
 grd (inb x1 400) (
 some (σ, (el σ 35 x1)))
 else (if x2 = 2 then
 Option.bind (Kh_time N π σ x1 (x2 - 2)) (fun r11 =>
 some (r11.1, r11.2))
 else (if x2 = 3 then
 Option.bind (Kh_time N π σ x1 (x2 - 2)) (fun r16 =>
 some (r16.1, r16.2))
 else (if x2 = 4 then
 Option.bind (Kh_time N π σ x1 (x2 - 2)) (fun r21 =>
 some (r21.1, r21.2))
 else (if x2 = 5 then
 Option.bind (Kh_time N π σ x1 (x2 - 2)) (fun r26 =>
 some (r26.1, r26.2))
 else (if x2 = 6 then
 grd (inb x1 400) (
 some (σ, (el σ 40 x1)))
 else (if x2 = 7 then
 grd (inb x1 400) (
 Option.bind (Ks_lettersOf N (el σ 39 x1)) (fun r34 =>
 some (σ, r34)))
 else (some (σ, (-1)))))))))))
 else
 some (σ, (-1))))
def Cs_heardLetter (N : Nat)  (π : Sh) (σ : St) (x1 : Int) (x2 : Int) : Option (St × Int) := Option.bind (Kh_letterAt N π σ x1 x2) (fun r1 =>
 some (r1.1, r1.2))
def Cs_jump (N : Nat)  (π : Sh) (σ : St) (x1 : Int) : Option (St × Int) := grd (i32 x1) (
 if x1 < 0 then
 some (σ, 0)
 else
 if x1 < 100000 then
 bnd (sf σ 253 0 (x1 * 960)) (fun σ4 =>
 Option.bind (Cs_settle N π σ4) (fun r7 =>
 some (r7, 1)))
 else
 some (σ, 0))
def Cs_mute (N : Nat)  (π : Sh) (σ : St) (x1 : Int) (x2 : Int) : Option (St × Int) := Option.bind (Cs_isTrack N x1) (fun r1 =>
 grd (i32 r1) (
 if r1 = 0 then
 some (σ, 0)
 else
 grd (inb x1 8) (
 bnd (el σ 54 x1) (fun v6 =>
 grd (isZ x2) (
 grd (isZ v6) (
 some ((se σ 54 x1 x2), v6)))))))
def Cs_solo (N : Nat)  (π : Sh) (σ : St) (x1 : Int) (x2 : Int) : Option (St × Int) := Option.bind (Cs_isTrack N x1) (fun r1 =>
 grd (i32 r1) (
 if r1 = 0 then
 some (σ, 0)
 else
 grd (inb x1 8) (
 bnd (el σ 55 x1) (fun v6 =>
 grd (isZ x2) (
 grd (isZ v6) (
 some ((se σ 55 x1 x2), v6)))))))
def Cs_seed (N : Nat)  (π : Sh) (σ : St) (x1 : Int) : Option St := some (sf σ 161 9 x1)
def Cs_tracksWaiting_25 (N : Nat)  (π : Sh) (rec4 : St → Int → Int → Option (St × Int)) (σ : St) (x2 : Int) (s0 : Int) (s1 : Int) : Option (St × Int) := bnd (s1 + s0) (fun v6 =>
 rec4 σ v6 (x2 + 1))
def Cs_tracksWaiting_4 (N : Nat)  (π : Sh)  : Nat → St → Int → Int → Option (St × Int)
  | 0, _, _, _ => none
  | n + 1, σ, x1, x2 => grd (i32 x2) (
 if x2 < 8 then
 grd (inb x2 8) (
 grd (i32 (el σ 53 x2)) (
 if (el σ 53 x2) = 0 then
 Cs_tracksWaiting_25 N π (Cs_tracksWaiting_4 N π n) σ x2 0 x1
 else
 Cs_tracksWaiting_25 N π (Cs_tracksWaiting_4 N π n) σ x2 1 x1))
 else
 some (σ, x1))
def Cs_tracksWaiting (N : Nat)  (π : Sh) (σ : St)  : Option (St × Int) := Cs_tracksWaiting_4 N π N σ 0 0
def Cs_tracksWithPattern_25 (N : Nat)  (π : Sh) (rec4 : St → Int → Int → Option (St × Int)) (σ : St) (x2 : Int) (s0 : Int) (s1 : Int) : Option (St × Int) := bnd (s1 + s0) (fun v5 =>
 rec4 σ v5 (x2 + 1))
def Cs_tracksWithPattern_4 (N : Nat)  (π : Sh)  : Nat → St → Int → Int → Option (St × Int)
  | 0, _, _, _ => none
  | n + 1, σ, x1, x2 => grd (i32 x2) (
 if x2 < 8 then
 grd (inb x2 8) (
 if (el σ 51 x2) < 0 then
 Cs_tracksWithPattern_25 N π (Cs_tracksWithPattern_4 N π n) σ x2 0 x1
 else
 Cs_tracksWithPattern_25 N π (Cs_tracksWithPattern_4 N π n) σ x2 1 x1)
 else
 some (σ, x1))
def Cs_tracksWithPattern (N : Nat)  (π : Sh) (σ : St)  : Option (St × Int) := Cs_tracksWithPattern_4 N π N σ 0 0
def Cs_about (N : Nat)  (π : Sh) (σ : St) (x1 : Int) : Option (St × Int) := grd (i32 x1) (
 if x1 = 0 then
 grd (i32 (fl σ 253 0)) (
 some (σ, (Int.tdiv (fl σ 253 0) 960)))
 else (if x1 = 1 then
 grd (i32 (fl σ 253 0)) (
 some (σ, (Int.tmod (fl σ 253 0) 960)))
 else (if x1 = 2 then
 Option.bind (L_size π σ 42) (fun r7 =>
 some (r7.1, r7.2))
 else (if x1 = 3 then
 Option.bind (Cs_tracksWithPattern N π σ) (fun r12 =>
 some (r12.1, r12.2))
 else (if x1 = 4 then
 Option.bind (Cs_tracksWaiting N π σ) (fun r17 =>
 some (r17.1, r17.2))
 else (if x1 = 5 then
 some (σ, (fl σ 254 0))
 else (if x1 = 6 then
 some (σ, (fl σ 181 1))
 else (some (σ, (-1))))))))))
