def r_node (N : Nat) (σ : St) (x1 : Int) (x2 : Int) : Option (St × Int) := grd (inb (fl σ 16 0) 32768) (
 some ((se (se (se (se (se (se (se (se (se (se (se (sf σ 16 0 ((fl σ 16 0) + 1)) 94 (fl σ 16 0) x1) 93 (fl σ 16 0) x2) 92 (fl σ 16 0) 0) 91 (fl σ 16 0) 0) 90 (fl σ 16 0) 0) 89 (fl σ 16 0) 0) 88 (fl σ 16 0) 0) 87 (fl σ 16 0) (-1)) 86 (fl σ 16 0) (-1)) 85 (fl σ 16 0) (-1)) 84 (fl σ 16 0) (-1)), (fl σ 16 0)))
def r_append_32 (N : Nat)  (σ : St) (x1 : Int) (x2 : Int) : Option St := grd (inb x1 32768) (
 grd (inb x2 32768) (
 some (se (se σ 86 x1 x2) 85 x2 (-1))))
def r_append (N : Nat) (σ : St) (x1 : Int) (x2 : Int) : Option St := grd (inb x1 32768) (
 grd (i32 (el σ 87 x1)) (
 if (el σ 87 x1) = (-1) then
 r_append_32 N (se σ 87 x1 x2) x1 x2
 else
 grd (inb (el σ 86 x1) 32768) (
 r_append_32 N (se σ 85 (el σ 86 x1) x2) x1 x2)))
def r_fail (N : Nat) (σ : St) (x1 : Int) (x2 : Int) : Option St := grd (i32 (fl σ 11 0)) (
 if (fl σ 11 0) = 0 then
 some (sf (sf σ 11 0 x1) 12 0 x2)
 else
 some σ)
def r_byteAt (N : Nat) (σ : St) (x1 : Int) : Option (St × Int) := grd (i32 x1) (
 if x1 < 0 then
 some (σ, 0)
 else
 grd (i32 (fl σ 1 0)) (
 if x1 < (fl σ 1 0) then
 grd (inb x1 2000) (
 some (σ, (el σ 97 x1)))
 else
 some (σ, 0)))
def r_isLow (N : Nat) (x0 : Int) : Option Int := grd (i32 x0) (
 if x0 < 97 then
 some 0
 else
 if (122 : Int) < x0 then
 some 0
 else
 some 1)
def r_isDigit (N : Nat) (x0 : Int) : Option Int := grd (i32 x0) (
 if x0 < 48 then
 some 0
 else
 if (57 : Int) < x0 then
 some 0
 else
 some 1)
def r_isOp_24 (N : Nat)   : Option Int := some 1
def r_isOp (N : Nat) (x0 : Int) : Option Int := grd (i32 x0) (
 if x0 = 35 then
 r_isOp_24 N
 else
 if x0 = 43 then
 r_isOp_24 N
 else
 if x0 = 45 then
 r_isOp_24 N
 else
 if x0 = 42 then
 r_isOp_24 N
 else
 some 0)
def r_isSignByte_43 (N : Nat)   : Option Int := some 1
def r_isSignByte (N : Nat) (x0 : Int) : Option Int := grd (i32 x0) (
 if x0 = 40 then
 r_isSignByte_43 N
 else
 if x0 = 41 then
 r_isSignByte_43 N
 else
 if x0 = 38 then
 r_isSignByte_43 N
 else
 if x0 = 59 then
 r_isSignByte_43 N
 else
 if x0 = 46 then
 r_isSignByte_43 N
 else
 if x0 = 61 then
 r_isSignByte_43 N
 else
 Option.bind (r_isOp N x0) (fun r8 =>
 grd (i32 r8) (
 if r8 = 0 then
 some 0
 else
 r_isSignByte_43 N)))
def r_lookName_113 (N : Nat) (rec17 : St → Int → Int → Option St) (σ : St) (x1 : Int) (x2 : Int) : Option St := rec17 σ (x1 + 1) (x2 + 1)
def r_lookName_70 (N : Nat) (rec17 : St → Int → Int → Option St) (σ : St) (x1 : Int) (x2 : Int) (s0 : Int) : Option St := grd (i32 x2) (
 if x2 < 6 then
 r_lookName_113 N rec17 (sf σ 7 0 (lor (lshl (fl σ 7 0) 6) s0)) x1 x2
 else
 r_lookName_113 N rec17 (sf σ 8 0 (lor (lshl (land (fl σ 8 0) 1099511627775) 6) s0)) x1 x2)
def r_lookName_39 (N : Nat) (rec17 : St → Int → Int → Option St) (σ : St) (x1 : Int) (x2 : Int) : Option St := Option.bind (r_byteAt N σ x1) (fun r15 =>
 Option.bind (r_isDigit N r15.2) (fun r17 =>
 grd (i32 r17) (
 if r17 = 0 then
 grd (i32 ((r15.2 - 97) + 1)) (
 r_lookName_70 N rec17 r15.1 x1 x2 ((r15.2 - 97) + 1))
 else
 grd (i32 ((r15.2 - 48) + 27)) (
 r_lookName_70 N rec17 r15.1 x1 x2 ((r15.2 - 48) + 27)))))
def r_lookName_140 (N : Nat)  (σ : St) (s0 : Int) : Option St := some (sf σ 3 0 s0)
def r_lookName_17 (N : Nat)  : Nat → St → Int → Int → Option St
  | 0, _, _, _ => none
  | n + 1, σ, x1, x2 => Option.bind (r_byteAt N σ x1) (fun r1 =>
 Option.bind (r_isLow N r1.2) (fun r3 =>
 grd (i32 r3) (
 if r3 = 0 then
 Option.bind (r_byteAt N r1.1 x1) (fun r7 =>
 Option.bind (r_isDigit N r7.2) (fun r9 =>
 grd (i32 r9) (
 if r9 = 0 then
 grd (i32 x2) (
 if (12 : Int) < x2 then
 r_lookName_140 N (sf r7.1 5 0 x1) 7
 else
 r_lookName_140 N (sf r7.1 5 0 x1) 2)
 else
 r_lookName_39 N (r_lookName_17 N n) r7.1 x1 x2)))
 else
 r_lookName_39 N (r_lookName_17 N n) r1.1 x1 x2)))
def r_lookName (N : Nat) (σ : St)  : Option St := r_lookName_17 N N (sf (sf σ 7 0 0) 8 0 0) (fl σ 4 0) 0
def r_lookNumber_42 (N : Nat) (rec9 : St → Int → Int → Int → Option St) (σ : St) (x1 : Int) (x3 : Int) (s0 : Int) : Option St := rec9 σ (x1 + 1) s0 (x3 + 1)
def r_lookNumber_137 (N : Nat) (rec103 : St → Int → Int → Int → Int → Option St) (σ : St) (x1 : Int) (x3 : Int) (x4 : Int) (s0 : Int) : Option St := rec103 σ (x1 + 1) s0 x3 (x4 + 1)
def r_lookNumber_173 (N : Nat)  (σ : St) (x1 : Int) : Option St := some (sf σ 5 0 x1)
def r_lookNumber_170 (N : Nat)  (σ : St) (x1 : Int) (s0 : Int) : Option St := r_lookNumber_173 N (sf σ 3 0 s0) x1
def r_lookNumber_164 (N : Nat)  (σ : St) (x1 : Int) : Option St := r_lookNumber_170 N σ x1 7
def r_lookNumber_103 (N : Nat)  : Nat → St → Int → Int → Int → Int → Option St
  | 0, _, _, _, _, _ => none
  | n + 1, σ, x1, x2, x3, x4 => Option.bind (r_byteAt N σ x1) (fun r25 =>
 Option.bind (r_isDigit N r25.2) (fun r27 =>
 grd (i32 r27) (
 if r27 = 0 then
 grd (i32 x3) (
 if (4 : Int) < x3 then
 r_lookNumber_164 N (sf r25.1 10 0 x2) x1
 else
 grd (i32 x4) (
 if (4 : Int) < x4 then
 r_lookNumber_164 N (sf r25.1 10 0 x2) x1
 else
 r_lookNumber_170 N (sf r25.1 10 0 x2) x1 4))
 else
 grd (i32 x4) (
 if x4 < 4 then
 Option.bind (r_byteAt N r25.1 x1) (fun r37 =>
 r_lookNumber_137 N (r_lookNumber_103 N n) r37.1 x1 x3 x4 (((10 * x2) + r37.2) - 48))
 else
 r_lookNumber_137 N (r_lookNumber_103 N n) r25.1 x1 x3 x4 x2))))
def r_lookNumber_69 (N : Nat)  (σ : St) (x1 : Int) (x3 : Int) (s0 : Int) : Option St := bnd (sf σ 3 0 s0) (fun σ13 =>
 Option.bind (r_byteAt N σ13 x1) (fun r15 =>
 grd (i32 r15.2) (
 if r15.2 = 58 then
 Option.bind (r_byteAt N r15.1 (x1 + 1)) (fun r19 =>
 Option.bind (r_isDigit N r19.2) (fun r21 =>
 grd (i32 r21) (
 if r21 = 0 then
 r_lookNumber_173 N r19.1 x1
 else
 r_lookNumber_103 N N r19.1 (x1 + 1) 0 x3 0)))
 else
 r_lookNumber_173 N r15.1 x1)))
def r_lookNumber_9 (N : Nat)  : Nat → St → Int → Int → Int → Option St
  | 0, _, _, _, _ => none
  | n + 1, σ, x1, x2, x3 => Option.bind (r_byteAt N σ x1) (fun r1 =>
 Option.bind (r_isDigit N r1.2) (fun r3 =>
 grd (i32 r3) (
 if r3 = 0 then
 grd (i32 x3) (
 if (4 : Int) < x3 then
 r_lookNumber_69 N (sf r1.1 9 0 x2) x1 x3 7
 else
 r_lookNumber_69 N (sf r1.1 9 0 x2) x1 x3 3)
 else
 grd (i32 x3) (
 if x3 < 4 then
 Option.bind (r_byteAt N r1.1 x1) (fun r11 =>
 r_lookNumber_42 N (r_lookNumber_9 N n) r11.1 x1 x3 (((10 * x2) + r11.2) - 48))
 else
 r_lookNumber_42 N (r_lookNumber_9 N n) r1.1 x1 x3 x2))))
def r_lookNumber (N : Nat) (σ : St)  : Option St := r_lookNumber_9 N N σ (fl σ 4 0) 0 0
def r_lookText_80 (N : Nat)  (σ : St) (x1 : Int) (s0 : Int) : Option St := some (sf (sf σ 3 0 s0) 5 0 (x1 + 1))
def r_lookText_78 (N : Nat)  (σ : St) (x1 : Int) : Option St := r_lookText_80 N σ x1 7
def r_lookText_54 (N : Nat)  (σ : St) (x1 : Int) : Option St := grd (i32 x1) (
 grd (i32 (fl σ 1 0)) (
 if x1 < (fl σ 1 0) then
 grd (inb x1 2000) (
 grd (i32 (el σ 97 x1)) (
 if (el σ 97 x1) = 34 then
 r_lookText_80 N σ x1 5
 else
 r_lookText_78 N σ x1))
 else
 r_lookText_78 N σ x1))
def r_lookText_7 (N : Nat)  : Nat → St → Int → Option St
  | 0, _, _ => none
  | n + 1, σ, x1 => grd (i32 x1) (
 grd (i32 (fl σ 1 0)) (
 if x1 < (fl σ 1 0) then
 grd (inb x1 2000) (
 grd (i32 (el σ 97 x1)) (
 if (el σ 97 x1) = 34 then
 r_lookText_54 N σ x1
 else
 if (el σ 97 x1) < 32 then
 r_lookText_54 N σ x1
 else
 if (el σ 97 x1) < 127 then
 (r_lookText_7 N n) σ (x1 + 1)
 else
 r_lookText_54 N σ x1))
 else
 r_lookText_54 N σ x1))
def r_lookText (N : Nat) (σ : St)  : Option St := bnd ((fl σ 4 0) + 1) (fun v1 =>
 r_lookText_7 N N σ v1)
def r_look_27 (N : Nat)  (σ : St) (x2 : Int) : Option St := bnd (sf (sf σ 4 0 x2) 5 0 (x2 + 1)) (fun σ7 =>
 Option.bind (r_byteAt N σ7 x2) (fun r9 =>
 grd (i32 x2) (
 grd (i32 (fl r9.1 1 0)) (
 if x2 < (fl r9.1 1 0) then
 grd (i32 r9.2) (
 if r9.2 = 10 then
 some (sf r9.1 3 0 1)
 else
 Option.bind (r_isLow N r9.2) (fun r16 =>
 grd (i32 r16) (
 if r16 = 0 then
 Option.bind (r_isDigit N r9.2) (fun r20 =>
 grd (i32 r20) (
 if r20 = 0 then
 if r9.2 = 34 then
 Option.bind (r_lookText N r9.1) (fun r29 =>
 some r29)
 else
 Option.bind (r_isSignByte N r9.2) (fun r25 =>
 grd (i32 r25) (
 if r25 = 0 then
 some (sf r9.1 3 0 7)
 else
 some (sf (sf r9.1 3 0 6) 6 0 r9.2)))
 else
 Option.bind (r_lookNumber N r9.1) (fun r31 =>
 some r31)))
 else
 Option.bind (r_lookName N r9.1) (fun r33 =>
 some r33))))
 else
 some (sf (sf r9.1 3 0 0) 5 0 (fl r9.1 1 0))))))
def r_look_2 (N : Nat)  : Nat → St → Int → Option St
  | 0, _, _ => none
  | n + 1, σ, x2 => grd (i32 x2) (
 grd (i32 (fl σ 1 0)) (
 if x2 < (fl σ 1 0) then
 grd (inb x2 2000) (
 grd (i32 (el σ 97 x2)) (
 if (el σ 97 x2) = 32 then
 (r_look_2 N n) σ (x2 + 1)
 else
 r_look_27 N σ x2))
 else
 r_look_27 N σ x2))
def r_look (N : Nat) (σ : St) (x1 : Int) : Option St := r_look_2 N N σ x1
def r_advance (N : Nat) (σ : St)  : Option St := Option.bind (r_look N σ (fl σ 5 0)) (fun r1 =>
 some r1)
def r_isSign (N : Nat) (σ : St) (x1 : Int) : Option (St × Int) := grd (i32 (fl σ 3 0)) (
 if (fl σ 3 0) = 6 then
 grd (i32 (fl σ 6 0)) (
 grd (i32 x1) (
 if (fl σ 6 0) = x1 then
 some (σ, 1)
 else
 some (σ, 0)))
 else
 some (σ, 0))
def r_isOpToken (N : Nat) (σ : St)  : Option (St × Int) := grd (i32 (fl σ 3 0)) (
 if (fl σ 3 0) = 6 then
 Option.bind (r_isOp N (fl σ 6 0)) (fun r3 =>
 grd (i32 r3) (
 if r3 = 0 then
 some (σ, 0)
 else
 some (σ, 1)))
 else
 some (σ, 0))
def r_functionHere_65 (N : Nat) (rec6 : St → Int → Int → Int → Option (St × Int)) (rec18 : St → Int → Int → Int → Int → Int → Option (St × Int)) (σ : St) (x1 : Int) (x2 : Int) (x3 : Int) (x4 : Int) (s0 : Int) : Option (St × Int) := rec18 σ x1 x2 x3 (x4 + 1) s0
def r_functionHere_64 (N : Nat) (rec6 : St → Int → Int → Int → Option (St × Int)) (rec18 : St → Int → Int → Int → Int → Int → Option (St × Int)) (σ : St) (x1 : Int) (x2 : Int) (x3 : Int) (x4 : Int) : Option (St × Int) := r_functionHere_65 N rec6 rec18 σ x1 x2 x3 x4 0
def r_functionHere_94 (N : Nat) (rec6 : St → Int → Int → Int → Option (St × Int)) (σ : St) (x1 : Int) (x2 : Int) (x3 : Int) (x4 : Int) : Option (St × Int) := bnd (x1 + (x4 + 1)) (fun v18 =>
 rec6 σ v18 x2 (x3 + 1))
def r_functionHere_18 (N : Nat) (rec6 : St → Int → Int → Int → Option (St × Int)) : Nat → St → Int → Int → Int → Int → Int → Option (St × Int)
  | 0, _, _, _, _, _, _ => none
  | n + 1, σ, x1, x2, x3, x4, x5 => grd (inb (x1 + x4) 113) (
 grd (i32 (el σ 96 (x1 + x4))) (
 if (el σ 96 (x1 + x4)) = 32 then
 grd (i32 x5) (
 if x5 = 0 then
 r_functionHere_94 N rec6 σ x1 x2 x3 x4
 else
 grd (i32 x4) (
 grd (i32 ((fl σ 5 0) - (fl σ 4 0))) (
 if x4 = ((fl σ 5 0) - (fl σ 4 0)) then
 r_functionHere_94 N rec6 σ x1 x3 x3 x4
 else
 r_functionHere_94 N rec6 σ x1 x2 x3 x4)))
 else
 grd (i32 x5) (
 if x5 = 0 then
 r_functionHere_64 N rec6 (r_functionHere_18 N rec6 n) σ x1 x2 x3 x4
 else
 Option.bind (r_byteAt N σ ((fl σ 4 0) + x4)) (fun r13 =>
 grd (i32 r13.2) (
 grd (i32 (el r13.1 96 (x1 + x4))) (
 if r13.2 = (el r13.1 96 (x1 + x4)) then
 r_functionHere_65 N rec6 (r_functionHere_18 N rec6 n) r13.1 x1 x2 x3 x4 1
 else
 r_functionHere_64 N rec6 (r_functionHere_18 N rec6 n) r13.1 x1 x2 x3 x4))))))
def r_functionHere_6 (N : Nat)  : Nat → St → Int → Int → Int → Option (St × Int)
  | 0, _, _, _, _ => none
  | n + 1, σ, x1, x2, x3 => grd (i32 x3) (
 if (20 : Int) < x3 then
 some (σ, x2)
 else
 r_functionHere_18 N (r_functionHere_6 N n) N σ x1 x2 x3 0 1)
def r_functionHere (N : Nat) (σ : St)  : Option (St × Int) := r_functionHere_6 N N σ 0 (-1) 0
def r_paramHere_40 (N : Nat) (rec2 : St → Int → Option (St × Int)) (σ : St) (x1 : Int) : Option (St × Int) := rec2 σ (x1 + 1)
def r_paramHere_2 (N : Nat)  : Nat → St → Int → Option (St × Int)
  | 0, _, _ => none
  | n + 1, σ, x1 => grd (i32 x1) (
 grd (i32 (fl σ 38 0)) (
 if x1 < (fl σ 38 0) then
 grd (inb x1 4) (
 grd (i64 (el σ 76 x1)) (
 grd (i64 (fl σ 7 0)) (
 if (el σ 76 x1) = (fl σ 7 0) then
 grd (i64 (el σ 75 x1)) (
 grd (i64 (fl σ 8 0)) (
 if (el σ 75 x1) = (fl σ 8 0) then
 some (σ, x1)
 else
 r_paramHere_40 N (r_paramHere_2 N n) σ x1))
 else
 r_paramHere_40 N (r_paramHere_2 N n) σ x1)))
 else
 some (σ, (-1))))
def r_paramHere (N : Nat) (σ : St)  : Option (St × Int) := r_paramHere_2 N N σ 0
def r_definitionHere_55 (N : Nat) (rec2 : St → Int → Option (St × Int)) (σ : St) (x1 : Int) : Option (St × Int) := rec2 σ (x1 + 1)
def r_definitionHere_2 (N : Nat)  : Nat → St → Int → Option (St × Int)
  | 0, _, _ => none
  | n + 1, σ, x1 => grd (i32 x1) (
 grd (i32 (fl σ 36 0)) (
 if x1 < (fl σ 36 0) then
 grd (inb x1 700) (
 grd (inb (el σ 77 x1) 6000) (
 grd (i64 (el σ 83 (el σ 77 x1))) (
 grd (i64 (fl σ 7 0)) (
 if (el σ 83 (el σ 77 x1)) = (fl σ 7 0) then
 grd (i64 (el σ 82 (el σ 77 x1))) (
 grd (i64 (fl σ 8 0)) (
 if (el σ 82 (el σ 77 x1)) = (fl σ 8 0) then
 some (σ, (el σ 77 x1))
 else
 r_definitionHere_55 N (r_definitionHere_2 N n) σ x1))
 else
 r_definitionHere_55 N (r_definitionHere_2 N n) σ x1))))
 else
 some (σ, (-1))))
def r_definitionHere (N : Nat) (σ : St)  : Option (St × Int) := r_definitionHere_2 N N σ 0
def r_begin (N : Nat) (σ : St) (x1 : Int) (x2 : Int) (x3 : Int) : Option St := grd (inb (fl σ 41 0) 600) (
 some (sf (se (se (se (se σ 74 (fl σ 41 0) x1) 73 (fl σ 41 0) x2) 72 (fl σ 41 0) 0) 71 (fl σ 41 0) x3) 41 0 ((fl σ 41 0) + 1)))
def r_finish (N : Nat) (σ : St) (x1 : Int) : Option St := some (sf (sf σ 46 0 x1) 41 0 ((fl σ 41 0) - 1))
def r_all (N : Nat) (x0 : Int) : Option Int := grd (i32 x0) (
 if x0 = 0 then
 some 0
 else
 if x0 = 1 then
 some 4
 else
 if x0 = 2 then
 some 44
 else
 if x0 = 3 then
 some 444
 else
 some 4444)
def r_readApp_203 (N : Nat)  (σ : St)  : Option St := bnd (sf σ 41 0 ((fl σ 41 0) - 1)) (fun σ56 =>
 Option.bind (r_begin N σ56 5 (-1) 0) (fun r58 =>
 some r58))
def r_readApp_70 (N : Nat)  (σ : St) (x1 : Int) (x2 : Int) (s0 : Int) : Option St := grd (i32 s0) (
 if s0 < 0 then
 grd (i32 x2) (
 if x2 < 0 then
 r_readApp_203 N σ
 else
 grd (inb x2 6000) (
 grd (i32 (el σ 81 x2)) (
 if (0 : Int) < (el σ 81 x2) then
 Option.bind (r_node N σ 7 (fl σ 4 0)) (fun r29 =>
 grd (inb r29.2 32768) (
 bnd (se r29.1 92 r29.2 x2) (fun σ32 =>
 Option.bind (r_advance N σ32) (fun r34 =>
 grd (inb x1 600) (
 Option.bind (r_all N (el r34 81 x2)) (fun r37 =>
 bnd (se (se r34 72 x1 1) 73 x1 r29.2) (fun σ39 =>
 Option.bind (r_begin N σ39 6 r29.2 r37) (fun r41 =>
 some r41))))))))
 else
 r_readApp_203 N σ)))
 else
 Option.bind (r_node N σ 8 (fl σ 4 0)) (fun r43 =>
 grd (inb r43.2 32768) (
 bnd (se r43.1 92 r43.2 s0) (fun σ46 =>
 Option.bind (r_advance N σ46) (fun r48 =>
 grd (inb x1 600) (
 grd (inb s0 21) (
 bnd (se (se r48 72 x1 1) 73 x1 r43.2) (fun σ52 =>
 Option.bind (r_begin N σ52 6 r43.2 (el r48 95 s0)) (fun r54 =>
 some r54)))))))))
def r_readApp_69 (N : Nat)  (σ : St) (x1 : Int) (x2 : Int) : Option St := r_readApp_70 N σ x1 x2 (-1)
def r_readApp_45 (N : Nat)  (σ : St) (x1 : Int) (s0 : Int) : Option St := grd (i32 (fl σ 3 0)) (
 if (fl σ 3 0) = 2 then
 Option.bind (r_paramHere N σ) (fun r16 =>
 grd (i32 r16.2) (
 if r16.2 = (-1) then
 Option.bind (r_functionHere N r16.1) (fun r20 =>
 r_readApp_70 N r20.1 x1 s0 r20.2)
 else
 r_readApp_69 N r16.1 x1 s0))
 else
 r_readApp_69 N σ x1 s0)
def r_readApp_44 (N : Nat)  (σ : St) (x1 : Int) : Option St := r_readApp_45 N σ x1 (-1)
def r_readApp (N : Nat) (σ : St) (x1 : Int) : Option St := grd (inb x1 600) (
 grd (i32 (el σ 72 x1)) (
 if (el σ 72 x1) = 1 then
 Option.bind (r_finish N σ (el σ 73 x1)) (fun r12 =>
 some r12)
 else
 grd (i32 (fl σ 3 0)) (
 if (fl σ 3 0) = 2 then
 Option.bind (r_paramHere N σ) (fun r6 =>
 grd (i32 r6.2) (
 if r6.2 = (-1) then
 Option.bind (r_definitionHere N r6.1) (fun r10 =>
 r_readApp_45 N r10.1 x1 r10.2)
 else
 r_readApp_44 N r6.1 x1))
 else
 r_readApp_44 N σ x1)))
def r_isOpen (N : Nat) (σ : St) (x1 : Int) : Option (St × Int) := grd (i32 (fl σ 13 0)) (
 if (fl σ 13 0) = 20 then
 Option.bind (r_fail N σ 4 x1) (fun r3 =>
 some (r3, 0))
 else
 some ((sf σ 13 0 ((fl σ 13 0) + 1)), 1))
def r_readArg_90 (N : Nat)  (σ : St)  : Option St := Option.bind (r_fail N σ 1 (fl σ 2 0)) (fun r77 =>
 some r77)
def r_readArg_282 (N : Nat)  (σ : St)  : Option St := Option.bind (r_fail N σ 2 (fl σ 4 0)) (fun r75 =>
 some r75)
def r_readArg_332 (N : Nat)  (σ : St) (x4 : Int) (s0 : Int) (s1 : Int) : Option St := grd (inb s1 32768) (
 bnd (se σ 92 s1 s0) (fun σ85 =>
 Option.bind (r_advance N σ85) (fun r87 =>
 Option.bind (r_finish N r87 x4) (fun r89 =>
 some r89))))
def r_readArg_303 (N : Nat)  (σ : St) (x2 : Int) (x3 : Int) (s0 : Int) : Option St := Option.bind (r_node N σ s0 (fl σ 4 0)) (fun r79 =>
 grd (i32 x2) (
 if x2 < 0 then
 grd (inb x3 6000) (
 r_readArg_332 N r79.1 r79.2 (el r79.1 79 x3) r79.2)
 else
 r_readArg_332 N r79.1 r79.2 x2 r79.2))
def r_readArg_292 (N : Nat)  (σ : St) (x2 : Int) (x3 : Int) : Option St := grd (i32 x2) (
 if x2 < 0 then
 r_readArg_303 N σ x2 x3 6
 else
 r_readArg_303 N σ x2 x3 5)
def r_readArg (N : Nat) (σ : St) (x1 : Int) : Option St := grd (inb x1 600) (
 grd (i32 (el σ 72 x1)) (
 if (el σ 72 x1) = 1 then
 Option.bind (r_isSign N σ 41) (fun r61 =>
 grd (i32 r61.2) (
 if r61.2 = 0 then
 Option.bind (r_fail N r61.1 1 (fl r61.1 4 0)) (fun r71 =>
 some r71)
 else
 bnd (sf r61.1 13 0 ((fl r61.1 13 0) - 1)) (fun σ65 =>
 Option.bind (r_advance N σ65) (fun r67 =>
 Option.bind (r_finish N r67 (fl r67 46 0)) (fun r69 =>
 some r69)))))
 else
 if (el σ 72 x1) = 2 then
 Option.bind (r_byteAt N σ (fl σ 2 0)) (fun r48 =>
 grd (i32 r48.2) (
 if r48.2 = 34 then
 grd (i32 (fl r48.1 2 0)) (
 grd (i32 (el r48.1 71 x1)) (
 if (fl r48.1 2 0) = (el r48.1 71 x1) then
 bnd (sf r48.1 13 0 ((fl r48.1 13 0) - 1)) (fun σ55 =>
 Option.bind (r_look N σ55 ((fl r48.1 2 0) + 1)) (fun r57 =>
 Option.bind (r_finish N r57 (fl r57 46 0)) (fun r59 =>
 some r59)))
 else
 r_readArg_90 N r48.1))
 else
 r_readArg_90 N r48.1))
 else
 grd (i32 (fl σ 3 0)) (
 if (fl σ 3 0) = 5 then
 Option.bind (r_isOpen N σ (fl σ 4 0)) (fun r40 =>
 grd (i32 r40.2) (
 if r40.2 = 0 then
 some r40.1
 else
 bnd (sf (sf (se (se r40.1 72 x1 2) 71 x1 ((fl r40.1 5 0) - 1)) 2 0 ((fl r40.1 4 0) + 1)) 47 0 0) (fun σ44 =>
 Option.bind (r_begin N σ44 10 (-1) 0) (fun r46 =>
 some r46))))
 else
 Option.bind (r_isSign N σ 40) (fun r7 =>
 grd (i32 r7.2) (
 if r7.2 = 0 then
 grd (i32 (fl r7.1 3 0)) (
 if (fl r7.1 3 0) = 2 then
 Option.bind (r_paramHere N r7.1) (fun r15 =>
 Option.bind (r_definitionHere N r15.1) (fun r17 =>
 grd (i32 r15.2) (
 if r15.2 = (-1) then
 Option.bind (r_functionHere N r17.1) (fun r21 =>
 grd (i32 r21.2) (
 if r21.2 < 0 then
 grd (i32 r17.2) (
 if r17.2 = (-1) then
 r_readArg_282 N r21.1
 else
 grd (inb r17.2 6000) (
 grd (i32 (el r21.1 81 r17.2)) (
 if (0 : Int) < (el r21.1 81 r17.2) then
 r_readArg_282 N r21.1
 else
 r_readArg_292 N r21.1 r15.2 r17.2)))
 else
 r_readArg_282 N r21.1))
 else
 r_readArg_292 N r17.1 r15.2 r17.2)))
 else
 Option.bind (r_fail N r7.1 1 (fl r7.1 4 0)) (fun r13 =>
 some r13))
 else
 Option.bind (r_isOpen N r7.1 (fl r7.1 4 0)) (fun r30 =>
 grd (i32 r30.2) (
 if r30.2 = 0 then
 some r30.1
 else
 bnd (se r30.1 72 x1 1) (fun σ34 =>
 Option.bind (r_advance N σ34) (fun r36 =>
 Option.bind (r_begin N r36 1 (-1) 0) (fun r38 =>
 some r38))))))))))
def r_readFun_114 (N : Nat)  (σ : St)  : Option St := Option.bind (r_fail N σ 2 (fl σ 4 0)) (fun r40 =>
 some r40)
def r_readFun_137 (N : Nat)  (σ : St) (x2 : Int) (s0 : Int) : Option St := Option.bind (r_node N σ s0 (fl σ 4 0)) (fun r42 =>
 grd (inb r42.2 32768) (
 bnd (se r42.1 92 r42.2 x2) (fun σ45 =>
 Option.bind (r_advance N σ45) (fun r47 =>
 Option.bind (r_finish N r47 r42.2) (fun r49 =>
 some r49)))))
def r_readFun_124 (N : Nat)  (σ : St) (x2 : Int) (x3 : Int) : Option St := grd (i32 x3) (
 if x3 = 4 then
 r_readFun_137 N σ x2 9
 else
 r_readFun_137 N σ x2 10)
def r_readFun_89 (N : Nat)  (σ : St) (x2 : Int) (s0 : Int) : Option St := grd (i32 s0) (
 if s0 = 4 then
 r_readFun_124 N σ x2 s0
 else
 if s0 < 0 then
 grd (i32 x2) (
 if x2 = (-1) then
 r_readFun_114 N σ
 else
 grd (inb x2 6000) (
 grd (i32 (el σ 81 x2)) (
 if (el σ 81 x2) = 1 then
 r_readFun_124 N σ x2 s0
 else
 r_readFun_114 N σ)))
 else
 r_readFun_114 N σ)
def r_readFun_72 (N : Nat)  (σ : St) (s0 : Int) : Option St := Option.bind (r_paramHere N σ) (fun r24 =>
 grd (i32 r24.2) (
 if r24.2 = (-1) then
 Option.bind (r_functionHere N r24.1) (fun r28 =>
 r_readFun_89 N r28.1 s0 r28.2)
 else
 r_readFun_89 N r24.1 s0 (-1)))
def r_readFun (N : Nat) (σ : St) (x1 : Int) : Option St := grd (inb x1 600) (
 grd (i32 (el σ 72 x1)) (
 if (el σ 72 x1) = 1 then
 Option.bind (r_finish N σ (fl σ 46 0)) (fun r22 =>
 some r22)
 else
 Option.bind (r_isSign N σ 40) (fun r4 =>
 grd (i32 r4.2) (
 if r4.2 = 0 then
 grd (i32 (fl r4.1 3 0)) (
 if (fl r4.1 3 0) = 2 then
 Option.bind (r_paramHere N r4.1) (fun r12 =>
 grd (i32 r12.2) (
 if r12.2 = (-1) then
 Option.bind (r_definitionHere N r12.1) (fun r16 =>
 r_readFun_72 N r16.1 r16.2)
 else
 r_readFun_72 N r12.1 (-1)))
 else
 Option.bind (r_fail N r4.1 1 (fl r4.1 4 0)) (fun r10 =>
 some r10))
 else
 bnd (se r4.1 72 x1 1) (fun σ18 =>
 Option.bind (r_begin N σ18 8 (-1) 0) (fun r20 =>
 some r20))))))
def r_skip_0 (N : Nat)  : Nat → St → Option St
  | 0, _ => none
  | n + 1, σ => Option.bind (r_byteAt N σ (fl σ 2 0)) (fun r1 =>
 grd (i32 r1.2) (
 if r1.2 = 32 then
 (r_skip_0 N n) (sf r1.1 2 0 ((fl r1.1 2 0) + 1))
 else
 some r1.1))
def r_skip (N : Nat) (σ : St)  : Option St := r_skip_0 N N σ
def r_need (N : Nat) (σ : St) (x1 : Int) : Option St := Option.bind (r_skip N σ) (fun r1 =>
 grd (i32 (fl r1 11 0)) (
 if (fl r1 11 0) = 0 then
 Option.bind (r_byteAt N r1 (fl r1 2 0)) (fun r5 =>
 grd (i32 r5.2) (
 grd (i32 x1) (
 if r5.2 = x1 then
 some (sf r5.1 2 0 ((fl r5.1 2 0) + 1))
 else
 Option.bind (r_fail N r5.1 1 (fl r5.1 2 0)) (fun r10 =>
 some r10))))
 else
 some r1))
def r_plainNumber_41 (N : Nat)  : Nat → St → Int → Int → Option (St × Int)
  | 0, _, _, _ => none
  | n + 1, σ, x1, x2 => Option.bind (r_byteAt N σ (fl σ 2 0)) (fun r13 =>
 Option.bind (r_isDigit N r13.2) (fun r15 =>
 grd (i32 r15) (
 if r15 = 0 then
 some (r13.1, x1)
 else
 grd (i32 x2) (
 if x2 = 4 then
 Option.bind (r_fail N r13.1 1 (fl r13.1 2 0)) (fun r25 =>
 some (r25, 0))
 else
 Option.bind (r_byteAt N r13.1 (fl r13.1 2 0)) (fun r21 =>
 bnd (((10 * x1) + r21.2) - 48) (fun v23 =>
 (r_plainNumber_41 N n) (sf r21.1 2 0 ((fl r21.1 2 0) + 1)) v23 (x2 + 1)))))))
def r_plainNumber (N : Nat) (σ : St)  : Option (St × Int) := Option.bind (r_skip N σ) (fun r1 =>
 bnd (sf r1 4 0 (fl r1 2 0)) (fun σ3 =>
 Option.bind (r_byteAt N σ3 (fl r1 2 0)) (fun r5 =>
 Option.bind (r_isDigit N r5.2) (fun r7 =>
 grd (i32 r7) (
 if r7 = 0 then
 Option.bind (r_fail N r5.1 1 (fl r5.1 2 0)) (fun r11 =>
 some (r11, 0))
 else
 r_plainNumber_41 N N r5.1 0 0)))))
def r_numberIn_22 (N : Nat)  (σ : St) (x3 : Int) : Option (St × Int) := Option.bind (r_fail N σ 3 (fl σ 4 0)) (fun r10 =>
 some (r10, x3))
def r_numberIn (N : Nat) (σ : St) (x1 : Int) (x2 : Int) : Option (St × Int) := Option.bind (r_plainNumber N σ) (fun r1 =>
 grd (i32 (fl r1.1 11 0)) (
 if (fl r1.1 11 0) = 0 then
 grd (i32 r1.2) (
 grd (i32 x1) (
 if r1.2 < x1 then
 r_numberIn_22 N r1.1 r1.2
 else
 grd (i32 x2) (
 if x2 < r1.2 then
 r_numberIn_22 N r1.1 r1.2
 else
 some (r1.1, r1.2))))
 else
 some (r1.1, r1.2)))
def r_endPart_199 (N : Nat)  (σ : St) (s0 : Int) : Option St := Option.bind (r_finish N σ s0) (fun r41 =>
 some r41)
def r_endPart_198 (N : Nat)  (σ : St) (x3 : Int) : Option St := r_endPart_199 N σ x3
def r_endPart_167 (N : Nat)  (σ : St) (x3 : Int) : Option St := grd (inb x3 32768) (
 grd (i32 (el σ 94 x3)) (
 if (el σ 94 x3) = 25 then
 grd (i32 (el σ 92 x3)) (
 if (el σ 92 x3) = 1 then
 r_endPart_199 N σ (el σ 87 x3)
 else
 r_endPart_198 N σ x3)
 else
 r_endPart_198 N σ x3))
def r_endPart_97 (N : Nat)  (σ : St) (x1 : Int) (x3 : Int) (s0 : Int) (s1 : Int) : Option St := grd (i32 s1) (
 grd (i32 s0) (
 if s1 = s0 then
 grd (inb x1 600) (
 grd (i32 (el σ 72 x1)) (
 if (el σ 72 x1) = 123 then
 bnd (sf (sf σ 2 0 ((fl σ 2 0) + 1)) 13 0 ((fl σ 13 0) - 1)) (fun σ25 =>
 Option.bind (r_need N σ25 37) (fun r27 =>
 grd (i32 (fl r27 11 0)) (
 if (fl r27 11 0) = 0 then
 Option.bind (r_numberIn N r27 1 32) (fun r31 =>
 grd (inb x3 32768) (
 r_endPart_167 N (se r31.1 92 x3 r31.2) x3))
 else
 r_endPart_167 N r27 x3)))
 else
 r_endPart_167 N (sf (sf σ 2 0 ((fl σ 2 0) + 1)) 13 0 ((fl σ 13 0) - 1)) x3))
 else
 Option.bind (r_fail N σ 1 (fl σ 2 0)) (fun r34 =>
 some r34)))
def r_endPart_62 (N : Nat)  (σ : St) (x1 : Int) (x2 : Int) (x3 : Int) : Option St := grd (inb x1 600) (
 grd (i32 (el σ 72 x1)) (
 if (el σ 72 x1) = 91 then
 r_endPart_97 N σ x1 x3 93 x2
 else
 if (el σ 72 x1) = 60 then
 r_endPart_97 N σ x1 x3 62 x2
 else
 r_endPart_97 N σ x1 x3 125 x2))
def r_endPart (N : Nat) (σ : St) (x1 : Int) (x2 : Int) : Option St := grd (inb x1 600) (
 bnd (el σ 73 x1) (fun v2 =>
 grd (i32 (el σ 72 x1)) (
 if (el σ 72 x1) = 91 then
 Option.bind (r_append N σ v2 (fl σ 46 0)) (fun r6 =>
 grd (inb v2 32768) (
 grd (i32 x2) (
 if x2 = 44 then
 bnd (sf (se r6 92 v2 ((el r6 92 v2) + 1)) 2 0 ((fl r6 2 0) + 1)) (fun σ11 =>
 Option.bind (r_begin N σ11 10 (-1) 0) (fun r13 =>
 some r13))
 else
 r_endPart_62 N (se r6 92 v2 ((el r6 92 v2) + 1)) x1 x2 v2)))
 else
 r_endPart_62 N σ x1 x2 v2)))
def r_partNumber_80 (N : Nat) (rec43 : St → Int → Int → Int → Int → Option St) (σ : St) (x2 : Int) (x3 : Int) (x4 : Int) (x5 : Int) : Option St := Option.bind (r_byteAt N σ (fl σ 2 0)) (fun r23 =>
 bnd (((10 * x4) + r23.2) - 48) (fun v25 =>
 rec43 (sf r23.1 2 0 ((fl r23.1 2 0) + 1)) x2 x3 v25 (x5 + 1)))
def r_partNumber_146 (N : Nat)  (σ : St) (x2 : Int) (s0 : Int) (s1 : Int) : Option St := grd (inb s1 32768) (
 bnd (se σ 92 s1 s0) (fun σ30 =>
 Option.bind (r_finish N σ30 x2) (fun r32 =>
 some r32)))
def r_partNumber_129 (N : Nat)  (σ : St) (x2 : Int) (x3 : Int) (x4 : Int) : Option St := grd (i32 x3) (
 if x3 = 0 then
 r_partNumber_146 N σ x2 x4 x2
 else
 r_partNumber_146 N σ x2 (-x4) x2)
def r_partNumber_115 (N : Nat)  (σ : St) (x2 : Int) (x3 : Int) (x4 : Int) (x5 : Int) : Option St := grd (i32 x5) (
 if x5 = 0 then
 Option.bind (r_fail N σ 1 (fl σ 2 0)) (fun r21 =>
 r_partNumber_129 N r21 x2 x3 x4)
 else
 r_partNumber_129 N σ x2 x3 x4)
def r_partNumber_43 (N : Nat)  : Nat → St → Int → Int → Int → Int → Option St
  | 0, _, _, _, _, _ => none
  | n + 1, σ, x2, x3, x4, x5 => Option.bind (r_byteAt N σ (fl σ 2 0)) (fun r7 =>
 Option.bind (r_isDigit N r7.2) (fun r9 =>
 grd (i32 r9) (
 if r9 = 0 then
 r_partNumber_115 N r7.1 x2 x3 x4 x5
 else
 grd (i32 (fl r7.1 11 0)) (
 if (fl r7.1 11 0) = 0 then
 grd (i32 x5) (
 if x5 = 6 then
 Option.bind (r_fail N r7.1 1 (fl r7.1 2 0)) (fun r17 =>
 r_partNumber_80 N (r_partNumber_43 N n) r17 x2 x3 x4 x5)
 else
 r_partNumber_80 N (r_partNumber_43 N n) r7.1 x2 x3 x4 x5)
 else
 r_partNumber_115 N r7.1 x2 x3 x4 x5))))
def r_partNumber_37 (N : Nat)  (σ : St) (x2 : Int) (x3 : Int) : Option St := r_partNumber_43 N N σ x2 x3 0 0
def r_partNumber_22 (N : Nat)  (σ : St) (x2 : Int) (s0 : Int) : Option St := grd (i32 s0) (
 if s0 = 0 then
 r_partNumber_37 N σ x2 s0
 else
 r_partNumber_37 N (sf σ 2 0 ((fl σ 2 0) + 1)) x2 s0)
def r_partNumber (N : Nat) (σ : St) (x1 : Int) : Option St := Option.bind (r_node N σ 21 (fl σ 2 0)) (fun r1 =>
 grd (i32 x1) (
 if x1 = 45 then
 r_partNumber_22 N r1.1 r1.2 1
 else
 r_partNumber_22 N r1.1 r1.2 0))
def r_readPart_161 (N : Nat) (rec52 : St → Int → Int → Option St) (σ : St) (x4 : Int) (x5 : Int) : Option St := rec52 (sf σ 2 0 ((fl σ 2 0) + 1)) x4 (x5 + 1)
def r_readPart_177 (N : Nat)  (σ : St) (x4 : Int) : Option St := Option.bind (r_finish N σ x4) (fun r69 =>
 some r69)
def r_readPart_52 (N : Nat)  : Nat → St → Int → Int → Option St
  | 0, _, _, _ => none
  | n + 1, σ, x4, x5 => Option.bind (r_byteAt N σ (fl σ 2 0)) (fun r42 =>
 Option.bind (r_isLow N r42.2) (fun r44 =>
 grd (i32 r44) (
 if r44 = 0 then
 r_readPart_177 N r42.1 x4
 else
 grd (i32 (fl r42.1 11 0)) (
 if (fl r42.1 11 0) = 0 then
 grd (i32 x5) (
 if x5 = 8 then
 Option.bind (r_fail N r42.1 1 (fl r42.1 2 0)) (fun r59 =>
 r_readPart_161 N (r_readPart_52 N n) r59 x4 x5)
 else
 if x5 < 4 then
 grd (inb x4 32768) (
 Option.bind (r_byteAt N r42.1 (fl r42.1 2 0)) (fun r57 =>
 r_readPart_161 N (r_readPart_52 N n) (se r57.1 92 x4 (ior (ishl (el r42.1 92 x4) 5) ((r57.2 - 97) + 1))) x4 x5))
 else
 grd (inb x4 32768) (
 Option.bind (r_byteAt N r42.1 (fl r42.1 2 0)) (fun r54 =>
 r_readPart_161 N (r_readPart_52 N n) (se r54.1 91 x4 (ior (ishl (el r42.1 91 x4) 5) ((r54.2 - 97) + 1))) x4 x5)))
 else
 r_readPart_177 N r42.1 x4))))
def r_readPart_199 (N : Nat)  (σ : St) (x2 : Int) : Option St := Option.bind (r_partNumber N σ x2) (fun r32 =>
 some r32)
def r_readPart_338 (N : Nat)  (σ : St) (s0 : Int) (s1 : Int) (s2 : Int) : Option St := Option.bind (r_begin N σ s2 s1 s0) (fun r71 =>
 some r71)
def r_readPart_311 (N : Nat)  (σ : St) (x1 : Int) (x2 : Int) (x3 : Int) (s0 : Int) (s2 : Int) : Option St := Option.bind (r_node N σ s0 x3) (fun r61 =>
 grd (inb s2 600) (
 grd (i32 x2) (
 if x2 = 91 then
 r_readPart_338 N (se r61.1 73 s2 r61.2) 0 (-1) 10
 else
 bnd (se r61.1 73 s2 r61.2) (fun σ66 =>
 grd (inb x1 600) (
 r_readPart_338 N σ66 ((el σ66 73 x1) + 1) (-1) 10)))))
def r_readPart_255 (N : Nat)  (σ : St) (x1 : Int) (x2 : Int) (x3 : Int) : Option St := Option.bind (r_isOpen N σ x3) (fun r34 =>
 grd (i32 r34.2) (
 if r34.2 = 0 then
 some r34.1
 else
 grd (inb x1 600) (
 grd (i32 x2) (
 if x2 = 91 then
 r_readPart_311 N (se (sf r34.1 2 0 ((fl r34.1 2 0) + 1)) 72 x1 x2) x1 x2 x3 25 x1
 else
 if x2 = 60 then
 r_readPart_311 N (se (sf r34.1 2 0 ((fl r34.1 2 0) + 1)) 72 x1 x2) x1 x2 x3 26 x1
 else
 r_readPart_311 N (se (sf r34.1 2 0 ((fl r34.1 2 0) + 1)) 72 x1 x2) x1 x2 x3 27 x1))))
def r_readPart (N : Nat) (σ : St) (x1 : Int) : Option St := Option.bind (r_byteAt N σ (fl σ 2 0)) (fun r1 =>
 grd (inb x1 600) (
 grd (i32 (el r1.1 72 x1)) (
 if (0 : Int) < (el r1.1 72 x1) then
 Option.bind (r_endPart N r1.1 x1 r1.2) (fun r30 =>
 some r30)
 else
 Option.bind (r_isLow N r1.2) (fun r6 =>
 grd (i32 r6) (
 if r6 = 0 then
 Option.bind (r_isDigit N r1.2) (fun r10 =>
 grd (i32 r10) (
 if r10 = 0 then
 grd (i32 r1.2) (
 if r1.2 = 45 then
 r_readPart_199 N r1.1 r1.2
 else
 if r1.2 = 126 then
 bnd (sf r1.1 2 0 ((fl r1.1 2 0) + 1)) (fun σ22 =>
 Option.bind (r_node N σ22 22 (fl r1.1 2 0)) (fun r24 =>
 Option.bind (r_finish N r24.1 r24.2) (fun r26 =>
 some r26)))
 else
 if r1.2 = 91 then
 r_readPart_255 N r1.1 x1 r1.2 (fl r1.1 2 0)
 else
 if r1.2 = 60 then
 r_readPart_255 N r1.1 x1 r1.2 (fl r1.1 2 0)
 else
 if r1.2 = 123 then
 r_readPart_255 N r1.1 x1 r1.2 (fl r1.1 2 0)
 else
 Option.bind (r_fail N r1.1 1 (fl r1.1 2 0)) (fun r20 =>
 some r20))
 else
 r_readPart_199 N r1.1 r1.2))
 else
 Option.bind (r_node N r1.1 20 (fl r1.1 2 0)) (fun r28 =>
 r_readPart_52 N N r28.1 r28.2 0))))))
def r_readPiece_207 (N : Nat)  (σ : St)  : Option St := Option.bind (r_fail N σ 2 (fl σ 4 0)) (fun r60 =>
 some r60)
def r_readPiece_315 (N : Nat)  (σ : St) (s0 : Int) (s1 : Int) (s2 : Int) : Option St := Option.bind (r_begin N σ s2 s1 s0) (fun r79 =>
 some r79)
def r_readPiece_263 (N : Nat)  (σ : St) (x1 : Int) (x2 : Int) (x3 : Int) (x4 : Int) (s0 : Int) (s1 : Int) : Option St := grd (inb s1 32768) (
 bnd (se σ 92 s1 s0) (fun σ67 =>
 Option.bind (r_advance N σ67) (fun r69 =>
 grd (inb x1 600) (
 grd (i32 x3) (
 if x3 < 0 then
 grd (inb x2 6000) (
 Option.bind (r_all N ((el r69 81 x2) - 1)) (fun r75 =>
 r_readPiece_315 N (se (se r69 73 x1 x4) 72 x1 1) r75 x4 6))
 else
 grd (inb x3 21) (
 grd (i32 (el r69 95 x3)) (
 r_readPiece_315 N (se (se r69 73 x1 x4) 72 x1 1) (Int.tdiv (el r69 95 x3) 10) x4 6)))))))
def r_readPiece_239 (N : Nat)  (σ : St) (x1 : Int) (x2 : Int) (x3 : Int) (s0 : Int) : Option St := Option.bind (r_node N σ s0 (fl σ 4 0)) (fun r62 =>
 grd (i32 x3) (
 if x3 < 0 then
 r_readPiece_263 N r62.1 x1 x2 x3 r62.2 x2 r62.2
 else
 r_readPiece_263 N r62.1 x1 x2 x3 r62.2 x3 r62.2))
def r_readPiece_217 (N : Nat)  (σ : St) (x1 : Int) (x2 : Int) (x3 : Int) : Option St := grd (i32 x3) (
 if x3 = 4 then
 r_readPiece_239 N σ x1 x2 x3 9
 else
 if x3 < 0 then
 r_readPiece_239 N σ x1 x2 x3 10
 else
 r_readPiece_239 N σ x1 x2 x3 13)
def r_readPiece_187 (N : Nat)  (σ : St) (x1 : Int) (x2 : Int) (s0 : Int) : Option St := grd (i32 s0) (
 if s0 = (-1) then
 grd (i32 x2) (
 if x2 = (-1) then
 r_readPiece_207 N σ
 else
 grd (inb x2 6000) (
 grd (i32 (el σ 81 x2)) (
 if (el σ 81 x2) = 0 then
 r_readPiece_207 N σ
 else
 r_readPiece_217 N σ x1 x2 s0)))
 else
 r_readPiece_217 N σ x1 x2 s0)
def r_readPiece_170 (N : Nat)  (σ : St) (x1 : Int) (s0 : Int) : Option St := Option.bind (r_paramHere N σ) (fun r44 =>
 grd (i32 r44.2) (
 if r44.2 = (-1) then
 Option.bind (r_functionHere N r44.1) (fun r48 =>
 r_readPiece_187 N r48.1 x1 s0 r48.2)
 else
 r_readPiece_187 N r44.1 x1 s0 (-1)))
def r_readPiece (N : Nat) (σ : St) (x1 : Int) : Option St := grd (inb x1 600) (
 grd (i32 (el σ 72 x1)) (
 if (el σ 72 x1) = 1 then
 Option.bind (r_finish N σ (el σ 73 x1)) (fun r42 =>
 some r42)
 else
 if (el σ 72 x1) = 2 then
 Option.bind (r_append N σ (el σ 73 x1) (fl σ 46 0)) (fun r38 =>
 Option.bind (r_finish N r38 (el r38 73 x1)) (fun r40 =>
 some r40))
 else
 Option.bind (r_isSign N σ 40) (fun r5 =>
 grd (i32 r5.2) (
 if r5.2 = 0 then
 Option.bind (r_isOpToken N r5.1) (fun r9 =>
 grd (i32 r9.2) (
 if r9.2 = 0 then
 grd (i32 (fl r9.1 3 0)) (
 if (fl r9.1 3 0) = 2 then
 Option.bind (r_paramHere N r9.1) (fun r17 =>
 grd (i32 r17.2) (
 if r17.2 = (-1) then
 Option.bind (r_definitionHere N r17.1) (fun r21 =>
 r_readPiece_170 N r21.1 x1 r21.2)
 else
 r_readPiece_170 N r17.1 x1 (-1)))
 else
 Option.bind (r_fail N r9.1 1 (fl r9.1 4 0)) (fun r15 =>
 some r15))
 else
 Option.bind (r_node N r9.1 12 (fl r9.1 4 0)) (fun r23 =>
 grd (inb r23.2 32768) (
 bnd (se r23.1 92 r23.2 (fl r23.1 6 0)) (fun σ26 =>
 Option.bind (r_advance N σ26) (fun r28 =>
 bnd (se (se r28 73 x1 r23.2) 72 x1 2) (fun σ30 =>
 Option.bind (r_begin N σ30 5 (-1) 0) (fun r32 =>
 some r32))))))))
 else
 bnd (sf r5.1 41 0 ((fl r5.1 41 0) - 1)) (fun σ34 =>
 Option.bind (r_begin N σ34 8 (-1) 0) (fun r36 =>
 some r36))))))
def r_readPieces (N : Nat) (σ : St) (x1 : Int) : Option St := grd (inb x1 600) (
 grd (i32 (el σ 72 x1)) (
 if (el σ 72 x1) = 0 then
 Option.bind (r_isOpen N σ (fl σ 4 0)) (fun r26 =>
 grd (i32 r26.2) (
 if r26.2 = 0 then
 some r26.1
 else
 Option.bind (r_node N r26.1 11 (fl r26.1 4 0)) (fun r30 =>
 bnd (se (se r30.1 73 x1 r30.2) 72 x1 1) (fun σ32 =>
 Option.bind (r_advance N σ32) (fun r34 =>
 Option.bind (r_begin N r34 9 (-1) 0) (fun r36 =>
 some r36))))))
 else
 Option.bind (r_append N σ (el σ 73 x1) (fl σ 46 0)) (fun r4 =>
 Option.bind (r_isSign N r4 46) (fun r6 =>
 grd (i32 r6.2) (
 if r6.2 = 0 then
 Option.bind (r_isSign N r6.1 41) (fun r10 =>
 grd (i32 r10.2) (
 if r10.2 = 0 then
 Option.bind (r_fail N r10.1 1 (fl r10.1 4 0)) (fun r14 =>
 some r14)
 else
 bnd (sf r10.1 13 0 ((fl r10.1 13 0) - 1)) (fun σ16 =>
 Option.bind (r_advance N σ16) (fun r18 =>
 Option.bind (r_finish N r18 (el r18 73 x1)) (fun r20 =>
 some r20)))))
 else
 Option.bind (r_advance N r6.1) (fun r22 =>
 Option.bind (r_begin N r22 9 (-1) 0) (fun r24 =>
 some r24)))))))
def r_readRow_71 (N : Nat)  (σ : St) (x1 : Int) (x4 : Int) (x5 : Int) : Option St := grd (inb x1 600) (
 Option.bind (r_append N σ (el σ 73 x1) (fl σ 46 0)) (fun r19 =>
 grd (inb (el r19 73 x1) 32768) (
 grd (i32 x5) (
 if x5 = 0 then
 bnd (se r19 92 (el r19 73 x1) ((el r19 92 (el r19 73 x1)) + 1)) (fun σ30 =>
 Option.bind (r_finish N σ30 (el r19 73 x1)) (fun r32 =>
 some r32))
 else
 bnd (se r19 92 (el r19 73 x1) ((el r19 92 (el r19 73 x1)) + 1)) (fun σ24 =>
 Option.bind (r_advance N σ24) (fun r26 =>
 Option.bind (r_begin N r26 x4 (-1) 0) (fun r28 =>
 some r28)))))))
def r_readRow (N : Nat) (σ : St) (x1 : Int) (x2 : Int) (x3 : Int) (x4 : Int) : Option St := grd (inb x1 600) (
 grd (i32 (el σ 72 x1)) (
 if (el σ 72 x1) = 0 then
 bnd (se σ 72 x1 1) (fun σ14 =>
 Option.bind (r_begin N σ14 x4 (-1) 0) (fun r16 =>
 some r16))
 else
 Option.bind (r_isSign N σ x2) (fun r4 =>
 grd (i32 (el r4.1 73 x1)) (
 if (el r4.1 73 x1) = (-1) then
 grd (i32 r4.2) (
 if r4.2 = 0 then
 Option.bind (r_finish N r4.1 (fl r4.1 46 0)) (fun r12 =>
 some r12)
 else
 Option.bind (r_node N r4.1 x3 (fl r4.1 4 0)) (fun r10 =>
 r_readRow_71 N (se r10.1 73 x1 r10.2) x1 x4 r4.2))
 else
 r_readRow_71 N r4.1 x1 x4 r4.2))))
def r_readSeq_55 (N : Nat)  (σ : St) (x1 : Int) : Option St := grd (inb x1 600) (
 bnd (se σ 72 x1 1) (fun σ41 =>
 Option.bind (r_begin N σ41 11 (-1) 0) (fun r43 =>
 some r43)))
def r_readSeq_180 (N : Nat)  (σ : St)  : Option St := Option.bind (r_begin N σ 11 (-1) 0) (fun r48 =>
 some r48)
def r_readSeq_189 (N : Nat)  (σ : St) (x1 : Int) : Option St := grd (inb x1 600) (
 Option.bind (r_finish N σ (el σ 73 x1)) (fun r46 =>
 some r46))
def r_readSeq_118 (N : Nat)  (σ : St) (x1 : Int) (s0 : Int) : Option St := Option.bind (r_skip N σ) (fun r20 =>
 Option.bind (r_byteAt N r20 (fl r20 2 0)) (fun r22 =>
 grd (i32 s0) (
 if s0 = 0 then
 r_readSeq_189 N r22.1 x1
 else
 Option.bind (r_isLow N r22.2) (fun r26 =>
 grd (i32 r26) (
 if r26 = 0 then
 Option.bind (r_isDigit N r22.2) (fun r30 =>
 grd (i32 r30) (
 if r30 = 0 then
 grd (i32 r22.2) (
 if r22.2 = 45 then
 r_readSeq_180 N r22.1
 else
 if r22.2 = 126 then
 r_readSeq_180 N r22.1
 else
 if r22.2 = 91 then
 r_readSeq_180 N r22.1
 else
 if r22.2 = 60 then
 r_readSeq_180 N r22.1
 else
 if r22.2 = 123 then
 r_readSeq_180 N r22.1
 else
 r_readSeq_189 N r22.1 x1)
 else
 r_readSeq_180 N r22.1))
 else
 r_readSeq_180 N r22.1)))))
def r_readSeq_113 (N : Nat)  (σ : St) (x1 : Int) : Option St := r_readSeq_118 N σ x1 1
def r_readSeq (N : Nat) (σ : St) (x1 : Int) : Option St := grd (inb x1 600) (
 grd (i32 (el σ 72 x1)) (
 if (el σ 72 x1) = 0 then
 Option.bind (r_skip N σ) (fun r14 =>
 grd (i32 (el r14 71 x1)) (
 if (el r14 71 x1) = 0 then
 Option.bind (r_node N r14 23 (fl r14 2 0)) (fun r18 =>
 r_readSeq_55 N (se r18.1 73 x1 r18.2) x1)
 else
 r_readSeq_55 N (se r14 73 x1 ((el r14 71 x1) - 1)) x1))
 else
 Option.bind (r_append N σ (el σ 73 x1) (fl σ 46 0)) (fun r4 =>
 Option.bind (r_byteAt N r4 ((fl r4 2 0) - 1)) (fun r6 =>
 grd (i32 r6.2) (
 if r6.2 = 32 then
 r_readSeq_113 N r6.1 x1
 else
 Option.bind (r_byteAt N r6.1 (fl r6.1 2 0)) (fun r10 =>
 grd (i32 r10.2) (
 if r10.2 = 32 then
 r_readSeq_113 N r10.1 x1
 else
 r_readSeq_118 N r10.1 x1 0)))))))
def r_spread_115 (N : Nat)  (σ : St)  : Option St := Option.bind (r_need N σ 41) (fun r32 =>
 some r32)
def r_spread_68 (N : Nat)  (σ : St) (x1 : Int) : Option St := Option.bind (r_skip N σ) (fun r19 =>
 grd (i32 (fl r19 11 0)) (
 if (fl r19 11 0) = 0 then
 Option.bind (r_byteAt N r19 (fl r19 2 0)) (fun r23 =>
 grd (i32 r23.2) (
 if r23.2 = 44 then
 bnd (sf r23.1 2 0 ((fl r23.1 2 0) + 1)) (fun σ27 =>
 Option.bind (r_numberIn N σ27 0 31) (fun r29 =>
 grd (inb x1 32768) (
 r_spread_115 N (se r29.1 90 x1 r29.2))))
 else
 r_spread_115 N r23.1))
 else
 r_spread_115 N r19))
def r_spread (N : Nat) (σ : St) (x1 : Int) : Option St := Option.bind (r_plainNumber N σ) (fun r1 =>
 Option.bind (r_need N r1.1 44) (fun r3 =>
 grd (i32 (fl r3 11 0)) (
 if (fl r3 11 0) = 0 then
 Option.bind (r_numberIn N r3 1 32) (fun r7 =>
 grd (inb x1 32768) (
 grd (i32 (fl r7.1 11 0)) (
 if (fl r7.1 11 0) = 0 then
 grd (i32 r1.2) (
 grd (i32 r7.2) (
 if r7.2 < r1.2 then
 bnd (se (se r7.1 91 x1 r7.2) 92 x1 r1.2) (fun σ15 =>
 Option.bind (r_fail N σ15 3 (fl r1.1 4 0)) (fun r17 =>
 r_spread_68 N r17 x1))
 else
 r_spread_68 N (se (se r7.1 91 x1 r7.2) 92 x1 r1.2) x1))
 else
 some (se r7.1 91 x1 r7.2))))
 else
 some r3)))
def r_readChange_132 (N : Nat)  (σ : St) (x2 : Int) (x4 : Int) : Option (St × Int) := Option.bind (r_append N σ x4 x2) (fun r25 =>
 some (r25, x4))
def r_readChange_112 (N : Nat)  (σ : St) (x2 : Int) (x3 : Int) (s0 : Int) : Option (St × Int) := Option.bind (r_node N σ s0 x3) (fun r20 =>
 Option.bind (r_numberIn N r20.1 1 32) (fun r22 =>
 grd (inb r20.2 32768) (
 r_readChange_132 N (se r22.1 92 r20.2 r22.2) x2 r20.2)))
def r_readChange (N : Nat) (σ : St) (x1 : Int) (x2 : Int) : Option (St × Int) := grd (i32 x1) (
 if x1 = 63 then
 bnd (sf σ 2 0 ((fl σ 2 0) + 1)) (fun σ15 =>
 Option.bind (r_node N σ15 31 (fl σ 2 0)) (fun r17 =>
 grd (inb r17.2 32768) (
 r_readChange_132 N (sf (se r17.1 92 r17.2 (fl r17.1 47 0)) 47 0 ((fl r17.1 47 0) + 1)) x2 r17.2)))
 else
 if x1 = 40 then
 bnd (sf σ 2 0 ((fl σ 2 0) + 1)) (fun σ5 =>
 Option.bind (r_isOpen N σ5 (fl σ 2 0)) (fun r7 =>
 grd (i32 r7.2) (
 if r7.2 = 0 then
 some (r7.1, x2)
 else
 Option.bind (r_node N r7.1 30 (fl σ 2 0)) (fun r11 =>
 Option.bind (r_spread N r11.1 r11.2) (fun r13 =>
 r_readChange_132 N (sf r13 13 0 ((fl r13 13 0) - 1)) x2 r11.2)))))
 else
 if x1 = 42 then
 r_readChange_112 N (sf σ 2 0 ((fl σ 2 0) + 1)) x2 (fl σ 2 0) 28
 else
 r_readChange_112 N (sf σ 2 0 ((fl σ 2 0) + 1)) x2 (fl σ 2 0) 29)
def r_readStep_118 (N : Nat) (rec32 : St → Int → Int → Option St) (σ : St) (x2 : Int) (x3 : Int) : Option St := rec32 σ x2 x3
def r_readStep_96 (N : Nat) (rec32 : St → Int → Int → Option St) (σ : St) (x2 : Int) (x4 : Int) (x5 : Int) (s0 : Int) : Option St := grd (i32 s0) (
 if s0 = 0 then
 r_readStep_118 N rec32 (sf σ 2 0 x4) x2 s0
 else
 Option.bind (r_readChange N σ x5 x2) (fun r31 =>
 r_readStep_118 N rec32 r31.1 r31.2 s0))
def r_readStep_91 (N : Nat) (rec32 : St → Int → Int → Option St) (σ : St) (x2 : Int) (x4 : Int) (x5 : Int) : Option St := r_readStep_96 N rec32 σ x2 x4 x5 1
def r_readStep_261 (N : Nat) (rec161 : St → Int → Int → Option St) (σ : St) (x4 : Int) (x5 : Int) : Option St := rec161 σ x4 (x5 + 1)
def r_readStep_204 (N : Nat) (rec161 : St → Int → Int → Option St) (σ : St) (x4 : Int) (x5 : Int) (x6 : Int) (s0 : Int) (s1 : Int) : Option St := grd (i32 s1) (
 grd (i32 s0) (
 if s1 = s0 then
 bnd (sf σ 2 0 ((fl σ 2 0) + 1)) (fun σ47 =>
 Option.bind (r_numberIn N σ47 1 16) (fun r49 =>
 grd (i32 x5) (
 if x5 = 0 then
 grd (inb x4 32768) (
 r_readStep_261 N rec161 (se r49.1 92 x4 r49.2) x4 x5)
 else
 grd (inb x4 32768) (
 r_readStep_261 N rec161 (se r49.1 91 x4 r49.2) x4 x5))))
 else
 r_readStep_261 N rec161 (sf σ 2 0 x6) x4 x5))
def r_readStep_267 (N : Nat)  (σ : St) (x4 : Int) : Option St := Option.bind (r_finish N σ x4) (fun r42 =>
 some r42)
def r_readStep_161 (N : Nat)  : Nat → St → Int → Int → Option St
  | 0, _, _, _ => none
  | n + 1, σ, x4, x5 => grd (i32 x5) (
 if x5 < 2 then
 grd (i32 (fl σ 11 0)) (
 if (fl σ 11 0) = 0 then
 Option.bind (r_skip N σ) (fun r37 =>
 Option.bind (r_byteAt N r37 (fl r37 2 0)) (fun r39 =>
 if x5 = 0 then
 r_readStep_204 N (r_readStep_161 N n) r39.1 x4 x5 (fl σ 2 0) 64 r39.2
 else
 r_readStep_204 N (r_readStep_161 N n) r39.1 x4 x5 (fl σ 2 0) 33 r39.2))
 else
 r_readStep_267 N σ x4)
 else
 r_readStep_267 N σ x4)
def r_readStep_121 (N : Nat)  (σ : St) (x2 : Int) : Option St := grd (inb x2 32768) (
 Option.bind (r_node N σ 24 (el σ 93 x2)) (fun r22 =>
 grd (inb r22.2 32768) (
 bnd (se (se r22.1 92 r22.2 1) 91 r22.2 1) (fun σ25 =>
 Option.bind (r_append N σ25 r22.2 x2) (fun r27 =>
 r_readStep_161 N N r27 r22.2 0)))))
def r_readStep_32 (N : Nat)  : Nat → St → Int → Int → Option St
  | 0, _, _, _ => none
  | n + 1, σ, x2, x3 => grd (i32 x3) (
 if x3 = 0 then
 r_readStep_121 N σ x2
 else
 grd (i32 (fl σ 11 0)) (
 if (fl σ 11 0) = 0 then
 Option.bind (r_skip N σ) (fun r12 =>
 Option.bind (r_byteAt N r12 (fl r12 2 0)) (fun r14 =>
 grd (i32 r14.2) (
 if r14.2 = 42 then
 r_readStep_91 N (r_readStep_32 N n) r14.1 x2 (fl σ 2 0) r14.2
 else
 if r14.2 = 47 then
 r_readStep_91 N (r_readStep_32 N n) r14.1 x2 (fl σ 2 0) r14.2
 else
 if r14.2 = 40 then
 r_readStep_91 N (r_readStep_32 N n) r14.1 x2 (fl σ 2 0) r14.2
 else
 if r14.2 = 63 then
 r_readStep_91 N (r_readStep_32 N n) r14.1 x2 (fl σ 2 0) r14.2
 else
 r_readStep_96 N (r_readStep_32 N n) r14.1 x2 (fl σ 2 0) r14.2 0)))
 else
 r_readStep_121 N σ x2))
def r_readStep (N : Nat) (σ : St) (x1 : Int) : Option St := grd (inb x1 600) (
 grd (i32 (el σ 72 x1)) (
 if (el σ 72 x1) = 0 then
 bnd (se σ 72 x1 1) (fun σ4 =>
 Option.bind (r_begin N σ4 12 (-1) 0) (fun r6 =>
 some r6))
 else
 r_readStep_32 N N σ (fl σ 46 0) 1))
def r_readSum_116 (N : Nat)  (σ : St) (x1 : Int) (x2 : Int) : Option St := grd (i32 x2) (
 if x2 = 0 then
 grd (inb x1 600) (
 Option.bind (r_finish N σ (el σ 73 x1)) (fun r44 =>
 some r44))
 else
 Option.bind (r_node N σ 4 (fl σ 4 0)) (fun r31 =>
 grd (inb r31.2 32768) (
 grd (inb x1 600) (
 bnd (se r31.1 92 r31.2 (fl r31.1 6 0)) (fun σ35 =>
 Option.bind (r_append N σ35 (el r31.1 73 x1) r31.2) (fun r37 =>
 Option.bind (r_advance N r37) (fun r39 =>
 Option.bind (r_begin N r39 4 (-1) 0) (fun r41 =>
 some r41))))))))
def r_readSum (N : Nat) (σ : St) (x1 : Int) : Option St := grd (inb x1 600) (
 grd (i32 (el σ 72 x1)) (
 if (el σ 72 x1) = 0 then
 bnd (se σ 72 x1 1) (fun σ25 =>
 Option.bind (r_begin N σ25 4 (-1) 0) (fun r27 =>
 some r27))
 else
 Option.bind (r_isOpToken N σ) (fun r4 =>
 grd (i32 (el r4.1 73 x1)) (
 if (el r4.1 73 x1) = (-1) then
 grd (i32 r4.2) (
 if r4.2 = 0 then
 Option.bind (r_finish N r4.1 (fl r4.1 46 0)) (fun r23 =>
 some r23)
 else
 Option.bind (r_node N r4.1 3 (fl r4.1 4 0)) (fun r13 =>
 bnd (se r13.1 73 x1 r13.2) (fun σ15 =>
 Option.bind (r_node N σ15 4 (-1)) (fun r17 =>
 Option.bind (r_append N r17.1 r17.2 (fl r17.1 46 0)) (fun r19 =>
 Option.bind (r_append N r19 (el r19 73 x1) r17.2) (fun r21 =>
 r_readSum_116 N r21 x1 r4.2))))))
 else
 grd (inb (el r4.1 73 x1) 32768) (
 Option.bind (r_append N r4.1 (el r4.1 86 (el r4.1 73 x1)) (fl r4.1 46 0)) (fun r9 =>
 r_readSum_116 N r9 x1 r4.2))))))
def r_readCount_151 (N : Nat)  (σ : St)  : Option St := Option.bind (r_fail N σ 3 (fl σ 4 0)) (fun r38 =>
 some r38)
def r_readCount_188 (N : Nat)  (σ : St)  : Option St := Option.bind (r_advance N σ) (fun r40 =>
 some r40)
def r_readCount_131 (N : Nat)  (σ : St) (x1 : Int) (x3 : Int) (x4 : Int) (s0 : Int) : Option St := grd (i32 (fl σ 9 0)) (
 grd (i32 x4) (
 if (fl σ 9 0) < x4 then
 r_readCount_151 N σ
 else
 grd (i32 s0) (
 if s0 < (fl σ 9 0) then
 r_readCount_151 N σ
 else
 grd (i32 x3) (
 if x3 = 0 then
 grd (inb x1 32768) (
 r_readCount_188 N (se σ 91 x1 (fl σ 9 0)))
 else
 grd (inb x1 32768) (
 r_readCount_188 N (se σ 90 x1 (fl σ 9 0)))))))
def r_readCount_123 (N : Nat)  (σ : St) (x1 : Int) (x3 : Int) (x4 : Int) : Option St := r_readCount_131 N σ x1 x3 x4 1000
def r_readCount_103 (N : Nat)  (σ : St) (x1 : Int) (x2 : Int) (x3 : Int) (s0 : Int) : Option St := grd (i32 x2) (
 if x2 = 16 then
 r_readCount_123 N σ x1 x3 s0
 else
 if x2 = 17 then
 r_readCount_123 N σ x1 x3 s0
 else
 if x2 = 18 then
 r_readCount_123 N σ x1 x3 s0
 else
 r_readCount_131 N σ x1 x3 s0 32)
def r_readCount_98 (N : Nat)  (σ : St) (x1 : Int) (x2 : Int) (x3 : Int) : Option St := r_readCount_103 N σ x1 x2 x3 0
def r_readCount_69 (N : Nat)  (σ : St) (x1 : Int) (x2 : Int) (s0 : Int) : Option St := grd (i32 s0) (
 if s0 = 0 then
 grd (i32 x2) (
 if x2 = 13 then
 r_readCount_98 N σ x1 x2 s0
 else
 if x2 = 16 then
 r_readCount_98 N σ x1 x2 s0
 else
 if x2 = 17 then
 r_readCount_98 N σ x1 x2 s0
 else
 if x2 = 18 then
 r_readCount_98 N σ x1 x2 s0
 else
 r_readCount_103 N σ x1 x2 s0 1)
 else
 r_readCount_98 N σ x1 x2 s0)
def r_readCount_68 (N : Nat)  (σ : St) (x1 : Int) (x2 : Int) : Option St := r_readCount_69 N σ x1 x2 0
def r_readCount_34 (N : Nat)  (σ : St) (x1 : Int) : Option St := grd (i32 (fl σ 11 0)) (
 if (fl σ 11 0) = 0 then
 grd (inb x1 32768) (
 bnd (el σ 92 x1) (fun v12 =>
 grd (i32 v12) (
 if v12 = 6 then
 grd (i32 (el σ 91 x1)) (
 if (el σ 91 x1) = 0 then
 r_readCount_68 N σ x1 v12
 else
 r_readCount_69 N σ x1 v12 1)
 else
 r_readCount_68 N σ x1 v12)))
 else
 some σ)
def r_readCount_17 (N : Nat)  (σ : St) (x1 : Int) : Option St := grd (i32 (fl σ 3 0)) (
 if (fl σ 3 0) = 3 then
 r_readCount_34 N σ x1
 else
 Option.bind (r_fail N σ 1 (fl σ 4 0)) (fun r7 =>
 r_readCount_34 N r7 x1))
def r_readCount (N : Nat) (σ : St) (x1 : Int) : Option St := grd (i32 (fl σ 3 0)) (
 if (fl σ 3 0) = 4 then
 Option.bind (r_fail N σ 3 (fl σ 4 0)) (fun r3 =>
 r_readCount_17 N r3 x1)
 else
 r_readCount_17 N σ x1)
def r_common_4 (N : Nat)  : Nat → Int → Int → Option Int
  | 0, _, _ => none
  | n + 1, x2, x3 => grd (i32 x3) (
 if x3 = 0 then
 some x2
 else
 grd (i32 x2) (
 grd (¬ x3 = 0) (
 bnd (Int.tmod x2 x3) (fun v5 =>
 (r_common_4 N n) x3 v5))))
def r_common (N : Nat) (x0 : Int) (x1 : Int) : Option Int := r_common_4 N N x0 x1
def r_readFraction_240 (N : Nat)  (σ : St)  : Option St := Option.bind (r_advance N σ) (fun r58 =>
 some r58)
def r_readFraction_168 (N : Nat)  (σ : St) (x1 : Int) (x2 : Int) (x3 : Int) (x6 : Int) (s0 : Int) : Option St := grd (i32 s0) (
 if s0 = 0 then
 Option.bind (r_fail N σ 3 (fl σ 4 0)) (fun r50 =>
 some r50)
 else
 Option.bind (r_common N x2 x3) (fun r36 =>
 grd (i32 x6) (
 if x6 = 0 then
 grd (i32 x2) (
 grd (i32 r36) (
 grd (¬ r36 = 0) (
 grd (inb x1 32768) (
 grd (i32 x3) (
 r_readFraction_240 N (se (se σ 91 x1 (Int.tdiv x2 r36)) 90 x1 (Int.tdiv x3 r36)))))))
 else
 grd (i32 x2) (
 grd (i32 r36) (
 grd (¬ r36 = 0) (
 grd (inb x1 32768) (
 grd (i32 x3) (
 r_readFraction_240 N (se (se σ 89 x1 (Int.tdiv x2 r36)) 88 x1 (Int.tdiv x3 r36))))))))))
def r_readFraction_163 (N : Nat)  (σ : St) (x1 : Int) (x2 : Int) (x3 : Int) (x6 : Int) : Option St := r_readFraction_168 N σ x1 x2 x3 x6 1
def r_readFraction_167 (N : Nat)  (σ : St) (x1 : Int) (x2 : Int) (x3 : Int) (x6 : Int) : Option St := r_readFraction_168 N σ x1 x2 x3 x6 0
def r_readFraction_139 (N : Nat)  (σ : St) (x1 : Int) (x2 : Int) (x3 : Int) (x6 : Int) : Option St := grd (i32 x6) (
 if x6 = 0 then
 r_readFraction_163 N σ x1 x2 x3 x6
 else
 grd (inb x1 32768) (
 grd (i32 (x2 * (el σ 90 x1))) (
 grd (i32 ((el σ 91 x1) * x3)) (
 if ((el σ 91 x1) * x3) < (x2 * (el σ 90 x1)) then
 r_readFraction_163 N σ x1 x2 x3 x6
 else
 r_readFraction_167 N σ x1 x2 x3 x6))))
def r_readFraction_129 (N : Nat)  (σ : St) (x1 : Int) (x2 : Int) (x3 : Int) (x5 : Int) (x6 : Int) : Option St := grd (i32 x5) (
 if x5 = 0 then
 r_readFraction_139 N σ x1 x2 x3 x6
 else
 grd (i32 x2) (
 grd (i32 x3) (
 if x3 < x2 then
 r_readFraction_167 N σ x1 x2 x3 x6
 else
 r_readFraction_139 N σ x1 x2 x3 x6)))
def r_readFraction_125 (N : Nat)  (σ : St) (x1 : Int) (x2 : Int) (x3 : Int) (x5 : Int) (x6 : Int) : Option St := grd (i32 x2) (
 if (0 : Int) < x2 then
 r_readFraction_129 N σ x1 x2 x3 x5 x6
 else
 r_readFraction_167 N σ x1 x2 x3 x6)
def r_readFraction_96 (N : Nat)  (σ : St) (x1 : Int) (x2 : Int) (x3 : Int) (x4 : Int) (x5 : Int) (s0 : Int) : Option St := grd (i32 x2) (
 if (64 : Int) < x2 then
 r_readFraction_167 N σ x1 x2 x3 s0
 else
 grd (i32 x3) (
 if (64 : Int) < x3 then
 r_readFraction_167 N σ x1 x2 x3 s0
 else
 if x3 = 0 then
 r_readFraction_167 N σ x1 x2 x3 s0
 else
 grd (i32 x4) (
 if x4 = 0 then
 r_readFraction_125 N σ x1 x2 x3 x5 s0
 else
 if x4 = 1 then
 r_readFraction_125 N σ x1 x2 x3 x5 s0
 else
 r_readFraction_129 N σ x1 x2 x3 x5 s0)))
def r_readFraction_95 (N : Nat)  (σ : St) (x1 : Int) (x2 : Int) (x3 : Int) (x4 : Int) (x5 : Int) : Option St := r_readFraction_96 N σ x1 x2 x3 x4 x5 0
def r_readFraction_75 (N : Nat)  (σ : St) (x1 : Int) (x2 : Int) (x3 : Int) (x4 : Int) (s0 : Int) : Option St := grd (i32 s0) (
 if s0 = 0 then
 r_readFraction_95 N σ x1 x2 x3 x4 s0
 else
 grd (inb x1 32768) (
 grd (i32 (el σ 90 x1)) (
 if (el σ 90 x1) = 0 then
 r_readFraction_95 N σ x1 x2 x3 x4 s0
 else
 r_readFraction_96 N σ x1 x2 x3 x4 s0 1)))
def r_readFraction_70 (N : Nat)  (σ : St) (x1 : Int) (x2 : Int) (x3 : Int) (x4 : Int) : Option St := r_readFraction_75 N σ x1 x2 x3 x4 1
def r_readFraction_47 (N : Nat)  (σ : St) (x1 : Int) (x2 : Int) (s0 : Int) : Option St := grd (inb x1 32768) (
 bnd (el σ 92 x1) (fun v9 =>
 grd (i32 v9) (
 if v9 = 19 then
 r_readFraction_70 N σ x1 x2 s0 v9
 else
 if v9 = 20 then
 r_readFraction_70 N σ x1 x2 s0 v9
 else
 r_readFraction_75 N σ x1 x2 s0 v9 0)))
def r_readFraction_26 (N : Nat)  (σ : St) (x1 : Int) : Option St := grd (i32 (fl σ 3 0)) (
 if (fl σ 3 0) = 3 then
 r_readFraction_47 N σ x1 (fl σ 9 0) 1
 else
 r_readFraction_47 N σ x1 (fl σ 9 0) (fl σ 10 0))
def r_readFraction (N : Nat) (σ : St) (x1 : Int) : Option St := grd (i32 (fl σ 3 0)) (
 if (fl σ 3 0) = 3 then
 r_readFraction_26 N σ x1
 else
 if (fl σ 3 0) = 4 then
 r_readFraction_26 N σ x1
 else
 Option.bind (r_fail N σ 1 (fl σ 4 0)) (fun r4 =>
 some r4))
def r_readWants_152 (N : Nat)  (σ : St) (s0 : Int) : Option St := Option.bind (r_begin N σ s0 (-1) 0) (fun r36 =>
 some r36)
def r_readWants_86 (N : Nat)  (σ : St) (x1 : Int) (x2 : Int) (x3 : Int) (s0 : Int) : Option St := grd (i32 x3) (
 grd (i32 s0) (
 grd (¬ s0 = 0) (
 bnd (Int.tdiv x3 s0) (fun v21 =>
 grd (inb x1 600) (
 grd (i32 v21) (
 if v21 = 1 then
 bnd (se σ 71 x1 (Int.tmod x3 s0)) (fun σ32 =>
 Option.bind (r_readFraction N σ32 x2) (fun r34 =>
 some r34))
 else
 if v21 = 2 then
 bnd (se σ 71 x1 (Int.tmod x3 s0)) (fun σ28 =>
 Option.bind (r_readCount N σ28 x2) (fun r30 =>
 some r30))
 else
 if v21 = 3 then
 r_readWants_152 N (se (se σ 71 x1 (Int.tmod x3 s0)) 72 x1 1) 7
 else
 r_readWants_152 N (se (se σ 71 x1 (Int.tmod x3 s0)) 72 x1 1) 5))))))
def r_readWants_33 (N : Nat)  (σ : St) (x1 : Int) (x2 : Int) : Option St := grd (inb x1 600) (
 bnd (el σ 71 x1) (fun v9 =>
 grd (i32 v9) (
 if v9 = 0 then
 Option.bind (r_finish N σ x2) (fun r16 =>
 some r16)
 else
 if (999 : Int) < v9 then
 r_readWants_86 N σ x1 x2 v9 1000
 else
 if (99 : Int) < v9 then
 r_readWants_86 N σ x1 x2 v9 100
 else
 if (9 : Int) < v9 then
 r_readWants_86 N σ x1 x2 v9 10
 else
 r_readWants_86 N σ x1 x2 v9 1)))
def r_readWants (N : Nat) (σ : St) (x1 : Int) : Option St := grd (inb x1 600) (
 bnd (el σ 73 x1) (fun v2 =>
 grd (i32 (el σ 72 x1)) (
 if (el σ 72 x1) = 1 then
 Option.bind (r_append N σ v2 (fl σ 46 0)) (fun r6 =>
 r_readWants_33 N (se r6 72 x1 0) x1 v2)
 else
 r_readWants_33 N σ x1 v2)))
def r_readExp_205 (N : Nat) (rec17 : St → Option St) (σ : St)  : Option St := rec17 σ
def r_readExp_17 (N : Nat)  : Nat → St → Option St
  | 0, _ => none
  | n + 1, σ => grd (i32 (fl σ 41 0)) (
 if (0 : Int) < (fl σ 41 0) then
 grd (i32 (fl σ 11 0)) (
 if (fl σ 11 0) = 0 then
 bnd ((fl σ 41 0) - 1) (fun v9 =>
 grd (inb v9 600) (
 grd (i32 (el σ 74 v9)) (
 if (el σ 74 v9) = 1 then
 Option.bind (r_readRow N σ v9 38 1 2) (fun r14 =>
 r_readExp_205 N (r_readExp_17 N n) r14)
 else (if (el σ 74 v9) = 2 then
 Option.bind (r_readRow N σ v9 59 2 3) (fun r17 =>
 r_readExp_205 N (r_readExp_17 N n) r17)
 else (if (el σ 74 v9) = 3 then
 Option.bind (r_readSum N σ v9) (fun r20 =>
 r_readExp_205 N (r_readExp_17 N n) r20)
 else (if (el σ 74 v9) = 4 then
 Option.bind (r_readApp N σ v9) (fun r23 =>
 r_readExp_205 N (r_readExp_17 N n) r23)
 else (if (el σ 74 v9) = 5 then
 Option.bind (r_readArg N σ v9) (fun r26 =>
 r_readExp_205 N (r_readExp_17 N n) r26)
 else (if (el σ 74 v9) = 6 then
 Option.bind (r_readWants N σ v9) (fun r29 =>
 r_readExp_205 N (r_readExp_17 N n) r29)
 else (if (el σ 74 v9) = 7 then
 Option.bind (r_readFun N σ v9) (fun r32 =>
 r_readExp_205 N (r_readExp_17 N n) r32)
 else (if (el σ 74 v9) = 8 then
 Option.bind (r_readPieces N σ v9) (fun r35 =>
 r_readExp_205 N (r_readExp_17 N n) r35)
 else (if (el σ 74 v9) = 9 then
 Option.bind (r_readPiece N σ v9) (fun r38 =>
 r_readExp_205 N (r_readExp_17 N n) r38)
 else (if (el σ 74 v9) = 10 then
 Option.bind (r_readSeq N σ v9) (fun r41 =>
 r_readExp_205 N (r_readExp_17 N n) r41)
 else (if (el σ 74 v9) = 11 then
 Option.bind (r_readStep N σ v9) (fun r44 =>
 r_readExp_205 N (r_readExp_17 N n) r44)
 else (Option.bind (r_readPart N σ v9) (fun r46 =>
 r_readExp_205 N (r_readExp_17 N n) r46)))))))))))))))
 else
 some σ)
 else
 some σ)
def r_readExp (N : Nat) (σ : St)  : Option St := bnd (sf (sf σ 41 0 0) 13 0 0) (fun σ1 =>
 Option.bind (r_begin N σ1 1 (-1) 0) (fun r3 =>
 r_readExp_17 N N r3))
def r_task (N : Nat) (σ : St) (x1 : Int) (x2 : Int) : Option St := grd (inb (fl σ 65 0) 20000) (
 some (sf (se (se σ 56 (fl σ 65 0) x1) 55 (fl σ 65 0) x2) 65 0 ((fl σ 65 0) + 1)))
def r_push (N : Nat) (σ : St) (x1 : Int) : Option St := grd (inb (fl σ 68 0) 20000) (
 some (sf (se σ 54 (fl σ 68 0) x1) 68 0 ((fl σ 68 0) + 1)))
def r_pop (N : Nat) (σ : St)  : Option (St × Int) := grd (inb ((fl σ 68 0) - 1) 20000) (
 some ((sf σ 68 0 ((fl σ 68 0) - 1)), (el σ 54 ((fl σ 68 0) - 1))))
def r_spot (N : Nat) (σ : St) (x1 : Int) : Option (St × Int) := grd (i32 (fl σ 70 0)) (
 if (0 : Int) < (fl σ 70 0) then
 some (σ, (fl σ 71 0))
 else
 some (σ, x1))
def r_counts_47 (N : Nat) (rec2 : St → Int → Int → Int → Option St) (σ : St) (x1 : Int) (x2 : Int) (x3 : Int) : Option St := rec2 σ x1 x2 (x3 + 1)
def r_counts_2 (N : Nat)  : Nat → St → Int → Int → Int → Option St
  | 0, _, _, _, _ => none
  | n + 1, σ, x1, x2, x3 => grd (i32 x3) (
 grd (i32 x2) (
 if x3 < x2 then
 grd (i32 (fl σ 11 0)) (
 if (fl σ 11 0) = 0 then
 grd (i32 (fl σ 64 0)) (
 if (fl σ 64 0) = 200 then
 Option.bind (r_spot N σ x1) (fun r8 =>
 Option.bind (r_fail N r8.1 5 r8.2) (fun r10 =>
 r_counts_47 N (r_counts_2 N n) r10 x1 x2 x3))
 else
 r_counts_47 N (r_counts_2 N n) (sf σ 64 0 ((fl σ 64 0) + 1)) x1 x2 x3)
 else
 some σ)
 else
 some σ))
def r_counts (N : Nat) (σ : St) (x1 : Int) (x2 : Int) : Option St := r_counts_2 N N σ x1 x2 0
def r_commonOf_6 (N : Nat)  : Nat → Int → Int → Option Int
  | 0, _, _ => none
  | n + 1, x4, x6 => grd (i64 x6) (
 if x6 = 0 then
 some x4
 else
 grd (i64 x4) (
 grd (¬ x6 = 0) (
 bnd (Int.tmod x4 x6) (fun v5 =>
 (r_commonOf_6 N n) x6 v5))))
def r_commonOf (N : Nat) (x0 : Int) (x2 : Int) : Option Int := r_commonOf_6 N N x0 x2
def r_least_16 (N : Nat)   : Option Int := some 1125899906842624
def r_least (N : Nat) (x0 : Int) (x2 : Int) : Option Int := grd (i64 x0) (
 if x0 < 1125899906842624 then
 grd (i64 x2) (
 if x2 < 1125899906842624 then
 Option.bind (r_commonOf N x0 x2) (fun r5 =>
 grd (i64 r5) (
 grd (¬ r5 = 0) (
 grd (¬ x2 = 0) (
 grd (i64 (Int.tdiv x0 r5)) (
 grd (i64 (Int.tdiv 1125899906842624 x2)) (
 if (Int.tdiv x0 r5) < (Int.tdiv 1125899906842624 x2) then
 Option.bind (r_commonOf N x0 x2) (fun r13 =>
 grd (i64 r13) (
 grd (¬ r13 = 0) (
 some ((Int.tdiv x0 r13) * x2))))
 else
 some 1125899906842624))))))
 else
 r_least_16 N)
 else
 r_least_16 N)
def r_times_22 (N : Nat)  (x0 : Int) (x2 : Int) : Option Int := some (x0 * x2)
def r_times (N : Nat) (x0 : Int) (x2 : Int) : Option Int := grd (i64 x2) (
 if x2 = 0 then
 r_times_22 N x0 x2
 else
 grd (¬ x2 = 0) (
 grd (i64 x0) (
 grd (i64 (Int.tdiv 1125899906842624 x2)) (
 if x0 < (Int.tdiv 1125899906842624 x2) then
 r_times_22 N x0 x2
 else
 some 1125899906842624))))
def r_up (N : Nat) (x0 : Int) (x2 : Int) : Option Int := grd (i64 ((x0 + x2) - 1)) (
 grd (i64 x2) (
 grd (¬ x2 = 0) (
 some (Int.tdiv ((x0 + x2) - 1) x2))))
def r_gather_261 (N : Nat) (rec42 : St → Int → Int → Option St) (σ : St) (x1 : Int) (x2 : Int) (s0 : Int) : Option St := rec42 (sf σ 79 0 s0) x1 (x2 + 1)
def r_gather_231 (N : Nat) (rec42 : St → Int → Int → Option St) (σ : St) (x1 : Int) (x2 : Int) (x3 : Int) (s0 : Int) : Option St := grd (inb x3 103000) (
 grd (i32 (el σ 59 x3)) (
 grd (i32 (fl σ 79 0)) (
 if (fl σ 79 0) < (el σ 59 x3) then
 r_gather_261 N rec42 (sf σ 78 0 s0) x1 x2 (el σ 59 x3)
 else
 r_gather_261 N rec42 (sf σ 78 0 s0) x1 x2 (fl σ 79 0))))
def r_gather_178 (N : Nat) (rec42 : St → Int → Int → Option St) (σ : St) (x1 : Int) (x2 : Int) (x3 : Int) (x4 : Int) (s0 : Int) : Option St := grd (i32 x4) (
 grd (inb x3 103000) (
 grd (i32 (el σ 60 x3)) (
 grd (i64 (el σ 60 x3)) (
 grd (i64 (fl σ 78 0)) (
 if (fl σ 78 0) < (el σ 60 x3) then
 r_gather_231 N rec42 (sf (sf σ 76 0 s0) 77 0 ((fl σ 77 0) + (x4 * (el σ 60 x3)))) x1 x2 x3 (el σ 60 x3)
 else
 r_gather_231 N rec42 (sf (sf σ 76 0 s0) 77 0 ((fl σ 77 0) + (x4 * (el σ 60 x3)))) x1 x2 x3 (fl σ 78 0))))))
def r_gather_145 (N : Nat) (rec42 : St → Int → Int → Option St) (σ : St) (x1 : Int) (x2 : Int) (x3 : Int) (x4 : Int) (s0 : Int) : Option St := grd (inb x3 103000) (
 grd (i32 (el σ 61 x3)) (
 grd (i64 (el σ 61 x3)) (
 grd (i64 (fl σ 76 0)) (
 if (fl σ 76 0) < (el σ 61 x3) then
 r_gather_178 N rec42 (sf σ 75 0 s0) x1 x2 x3 x4 (el σ 61 x3)
 else
 r_gather_178 N rec42 (sf σ 75 0 s0) x1 x2 x3 x4 (fl σ 76 0)))))
def r_gather_42 (N : Nat)  : Nat → St → Int → Int → Option St
  | 0, _, _, _ => none
  | n + 1, σ, x1, x2 => grd (inb x1 103000) (
 grd (i32 x2) (
 grd (i32 ((el σ 65 x1) + (el σ 64 x1))) (
 if x2 < ((el σ 65 x1) + (el σ 64 x1)) then
 grd (inb x2 210000) (
 bnd (el σ 58 x2) (fun v9 =>
 grd (i32 (el σ 57 x2)) (
 bnd (Int.tdiv (el σ 57 x2) 32) (fun v12 =>
 grd (inb v9 103000) (
 grd (i32 (el σ 63 v9)) (
 Option.bind (r_least N (fl σ 73 0) (el σ 63 v9)) (fun r16 =>
 grd (i32 v12) (
 grd (i32 (el σ 62 v9)) (
 grd (i64 (el σ 62 v9)) (
 grd (i64 (fl σ 75 0)) (
 if (fl σ 75 0) < (el σ 62 v9) then
 r_gather_145 N (r_gather_42 N n) (sf (sf σ 73 0 r16) 74 0 ((fl σ 74 0) + (v12 * (el σ 62 v9)))) x1 x2 v9 v12 (el σ 62 v9)
 else
 r_gather_145 N (r_gather_42 N n) (sf (sf σ 73 0 r16) 74 0 ((fl σ 74 0) + (v12 * (el σ 62 v9)))) x1 x2 v9 v12 (fl σ 75 0))))))))))))
 else
 some σ)))
def r_gather (N : Nat) (σ : St) (x1 : Int) : Option St := grd (inb x1 103000) (
 bnd (el σ 65 x1) (fun v2 =>
 r_gather_42 N N (sf (sf (sf (sf (sf (sf (sf σ 73 0 1) 74 0 0) 75 0 0) 76 0 0) 77 0 0) 78 0 0) 79 0 0) x1 v2))
def r_addKid (N : Nat) (σ : St) (x1 : Int) (x2 : Int) (x3 : Int) : Option St := grd (inb (fl σ 61 0) 210000) (
 grd (inb (fl σ 48 0) 103000) (
 some (se (sf (se (se σ 58 (fl σ 61 0) x1) 57 (fl σ 61 0) (x2 + (32 * x3))) 61 0 ((fl σ 61 0) + 1)) 64 (fl σ 48 0) ((el σ 64 (fl σ 48 0)) + 1))))
def r_opens (N : Nat) (σ : St) (x1 : Int) (x2 : Int) (x3 : Int) (x4 : Int) (x5 : Int) : Option St := grd (inb (fl σ 48 0) 103000) (
 some (se (se (se (se (se (se (se σ 70 (fl σ 48 0) x1) 69 (fl σ 48 0) x2) 68 (fl σ 48 0) x3) 67 (fl σ 48 0) x4) 66 (fl σ 48 0) x5) 65 (fl σ 48 0) (fl σ 61 0)) 64 (fl σ 48 0) 0))
def r_bounds (N : Nat) (σ : St) (x1 : Int) (x3 : Int) (x5 : Int) (x7 : Int) : Option St := some (sf (sf (sf (sf σ 80 0 x1) 81 0 x3) 82 0 x5) 83 0 x7)
def r_ofTwo_60 (N : Nat)  (σ : St) (x4 : Int) (s0 : Int) : Option St := grd (inb x4 103000) (
 grd (i32 (el σ 63 x4)) (
 grd (i32 (el σ 62 x4)) (
 grd (i32 (el σ 61 x4)) (
 grd (i32 (el σ 60 x4)) (
 grd (inb s0 103000) (
 grd (i32 (el σ 61 s0)) (
 grd (i32 (el σ 60 s0)) (
 Option.bind (r_bounds N σ (el σ 63 x4) (el σ 62 x4) (el σ 61 x4) (((el σ 60 x4) + (((el σ 62 x4) * ((el σ 61 s0) + 1)) * (el σ 60 s0))) + 1)) (fun r21 =>
 some r21)))))))))
def r_ofTwo_42 (N : Nat)  (σ : St) (x1 : Int) (x2 : Int) (x3 : Int) (s0 : Int) : Option St := grd (inb x1 103000) (
 grd (i32 (el σ 70 x1)) (
 if (el σ 70 x1) = 24 then
 r_ofTwo_60 N σ s0 x2
 else
 r_ofTwo_60 N σ s0 x3))
def r_ofTwo (N : Nat) (σ : St) (x1 : Int) : Option St := grd (inb x1 103000) (
 grd (inb (el σ 65 x1) 210000) (
 bnd (el σ 58 (el σ 65 x1)) (fun v3 =>
 grd (inb ((el σ 65 x1) + 1) 210000) (
 bnd (el σ 58 ((el σ 65 x1) + 1)) (fun v6 =>
 grd (i32 (el σ 70 x1)) (
 if (el σ 70 x1) = 24 then
 r_ofTwo_42 N σ x1 v3 v6 v6
 else
 r_ofTwo_42 N σ x1 v3 v6 v3))))))
def r_spanBelow (N : Nat) (σ : St) (x1 : Int) : Option (St × Int) := grd (inb x1 103000) (
 bnd (((el σ 67 x1) * (el σ 68 x1)) - ((el σ 69 x1) * (el σ 66 x1))) (fun v2 =>
 bnd ((el σ 68 x1) * (el σ 66 x1)) (fun v4 =>
 Option.bind (r_common N v2 v4) (fun r6 =>
 grd (i32 v4) (
 grd (i32 r6) (
 grd (¬ r6 = 0) (
 some (σ, (Int.tdiv v4 r6)))))))))
def r_weights_10 (N : Nat)  : Nat → St → Int → Int → Int → Option (St × Int)
  | 0, _, _, _, _ => none
  | n + 1, σ, x1, x2, x4 => grd (inb x1 103000) (
 grd (i32 x4) (
 grd (i32 ((el σ 65 x1) + (el σ 64 x1))) (
 if x4 < ((el σ 65 x1) + (el σ 64 x1)) then
 grd (inb x4 210000) (
 grd (i32 (el σ 57 x4)) (
 grd (i32 (Int.tmod (el σ 57 x4) 32)) (
 grd (i32 (Int.tdiv (el σ 57 x4) 32)) (
 bnd (x2 + ((Int.tmod (el σ 57 x4) 32) * (Int.tdiv (el σ 57 x4) 32))) (fun v12 =>
 (r_weights_10 N n) σ x1 v12 (x4 + 1))))))
 else
 some (σ, x2))))
def r_weights (N : Nat) (σ : St) (x1 : Int) : Option (St × Int) := grd (inb x1 103000) (
 bnd (el σ 65 x1) (fun v2 =>
 r_weights_10 N N σ x1 0 v2))
def r_boundsOf_322 (N : Nat)  (σ : St) (x2 : Int) (x3 : Int) (s0 : Int) (s1 : Int) : Option St := bnd (s1 + s0) (fun v109 =>
 grd (i32 x2) (
 Option.bind (r_times N (fl σ 73 0) x2) (fun r112 =>
 grd (i32 x3) (
 Option.bind (r_up N ((fl σ 76 0) * x3) x2) (fun r115 =>
 Option.bind (r_bounds N σ r112 (v109 * (fl σ 75 0)) r115 ((v109 * (fl σ 78 0)) + 1)) (fun r117 =>
 some r117))))))
def r_boundsOf_412 (N : Nat)  (σ : St) (s0 : Int) (s1 : Int) (s2 : Int) (s3 : Int) : Option St := Option.bind (r_bounds N σ s3 s2 s1 ((s0 * (fl σ 78 0)) + 1)) (fun r121 =>
 some r121)
def r_boundsOf_391 (N : Nat)  (σ : St) (x3 : Int) (s0 : Int) (s1 : Int) : Option St := grd (i32 x3) (
 if x3 = 1 then
 r_boundsOf_412 N σ 1 (fl σ 76 0) (s0 * (fl σ 75 0)) s1
 else
 r_boundsOf_412 N σ 2 (fl σ 76 0) (s0 * (fl σ 75 0)) s1)
def r_boundsOf (N : Nat) (σ : St) (x1 : Int) : Option St := grd (inb x1 103000) (
 bnd (el σ 69 x1) (fun v2 =>
 bnd (el σ 68 x1) (fun v4 =>
 bnd ((fl σ 78 0) + 1) (fun v6 =>
 grd (i32 (el σ 70 x1)) (
 if (el σ 70 x1) = 1 then
 Option.bind (r_bounds N σ 1 1 1 1) (fun r10 =>
 some r10)
 else (if (el σ 70 x1) = 2 then
 Option.bind (r_bounds N σ 1 1 1 1) (fun r13 =>
 some r13)
 else (if (el σ 70 x1) = 3 then
 Option.bind (r_bounds N σ 1 0 1 1) (fun r16 =>
 some r16)
 else (if (el σ 70 x1) = 4 then
 Option.bind (r_weights N σ x1) (fun r19 =>
 Option.bind (r_times N (fl σ 73 0) r19.2) (fun r21 =>
 Option.bind (r_bounds N r19.1 r21 (fl r19.1 74 0) (fl r19.1 76 0) ((fl r19.1 77 0) + 1)) (fun r23 =>
 some r23)))
 else (if (el σ 70 x1) = 5 then
 Option.bind (r_bounds N σ (fl σ 73 0) (fl σ 74 0) (fl σ 76 0) ((fl σ 77 0) + 1)) (fun r26 =>
 some r26)
 else (if (el σ 70 x1) = 6 then
 Option.bind (r_bounds N σ (fl σ 73 0) (fl σ 75 0) (fl σ 76 0) v6) (fun r29 =>
 some r29)
 else (if (el σ 70 x1) = 7 then
 grd (i32 v2) (
 Option.bind (r_times N (fl σ 73 0) v2) (fun r33 =>
 Option.bind (r_bounds N σ r33 (v2 * (fl σ 75 0)) (fl σ 76 0) ((v2 * (fl σ 78 0)) + 1)) (fun r35 =>
 some r35)))
 else (if (el σ 70 x1) = 8 then
 grd (i32 v4) (
 Option.bind (r_times N (fl σ 73 0) v4) (fun r39 =>
 grd (i32 v2) (
 Option.bind (r_bounds N σ r39 (v2 * (fl σ 75 0)) (fl σ 76 0) ((v2 * (fl σ 78 0)) + 1)) (fun r42 =>
 some r42))))
 else (if (el σ 70 x1) = 9 then
 grd (i32 v2) (
 grd (i32 v4) (
 Option.bind (r_up N v2 v4) (fun r47 =>
 if v4 = 1 then
 r_boundsOf_322 N σ v2 v4 0 r47
 else
 r_boundsOf_322 N σ v2 v4 1 r47)))
 else (if (el σ 70 x1) = 10 then
 grd (i32 v4) (
 Option.bind (r_least N (fl σ 73 0) v4) (fun r52 =>
 if v4 = 1 then
 r_boundsOf_391 N σ v4 1 r52
 else
 r_boundsOf_391 N σ v4 2 r52))
 else (if (el σ 70 x1) = 11 then
 grd (i32 v4) (
 Option.bind (r_least N (fl σ 73 0) v4) (fun r57 =>
 if v4 = 1 then
 r_boundsOf_391 N σ v4 1 r57
 else
 r_boundsOf_391 N σ v4 2 r57))
 else (if (el σ 70 x1) = 12 then
 Option.bind (r_bounds N σ (fl σ 73 0) (fl σ 75 0) 1 v6) (fun r61 =>
 some r61)
 else (if (el σ 70 x1) = 13 then
 Option.bind (r_bounds N σ (fl σ 73 0) (fl σ 75 0) (fl σ 76 0) v6) (fun r64 =>
 some r64)
 else (if (el σ 70 x1) = 14 then
 Option.bind (r_bounds N σ (fl σ 73 0) (fl σ 75 0) (fl σ 76 0) v6) (fun r67 =>
 some r67)
 else (if (el σ 70 x1) = 15 then
 Option.bind (r_bounds N σ (fl σ 73 0) (fl σ 74 0) (fl σ 76 0) ((fl σ 77 0) + 1)) (fun r70 =>
 some r70)
 else (if (el σ 70 x1) = 16 then
 Option.bind (r_bounds N σ (fl σ 73 0) (fl σ 74 0) (fl σ 76 0) ((fl σ 77 0) + 1)) (fun r73 =>
 some r73)
 else (if (el σ 70 x1) = 17 then
 grd (i32 v2) (
 Option.bind (r_least N (fl σ 73 0) v2) (fun r77 =>
 Option.bind (r_bounds N σ r77 (2 * (fl σ 75 0)) (fl σ 76 0) ((2 * (fl σ 78 0)) + 1)) (fun r79 =>
 some r79)))
 else (if (el σ 70 x1) = 18 then
 grd (i32 v2) (
 Option.bind (r_times N (fl σ 73 0) v2) (fun r83 =>
 Option.bind (r_bounds N σ r83 ((v2 * (fl σ 75 0)) * ((fl σ 76 0) + 1)) (fl σ 76 0) ((((fl σ 76 0) + 1) * ((fl σ 78 0) + (v2 * (fl σ 75 0)))) + 1)) (fun r85 =>
 some r85)))
 else (if (el σ 70 x1) = 19 then
 Option.bind (r_bounds N σ (fl σ 73 0) (fl σ 75 0) (fl σ 76 0) (((fl σ 78 0) + (fl σ 75 0)) + 1)) (fun r88 =>
 some r88)
 else (if (el σ 70 x1) = 20 then
 grd (i32 v4) (
 Option.bind (r_spanBelow N σ x1) (fun r92 =>
 grd (i32 r92.2) (
 Option.bind (r_times N (fl σ 73 0) r92.2) (fun r95 =>
 Option.bind (r_least N v4 r95) (fun r97 =>
 Option.bind (r_bounds N r92.1 r97 (fl r92.1 75 0) (fl r92.1 76 0) v6) (fun r99 =>
 some r99))))))
 else (if (el σ 70 x1) = 21 then
 Option.bind (r_bounds N σ (fl σ 73 0) (fl σ 75 0) (fl σ 76 0) v6) (fun r102 =>
 some r102)
 else (if (el σ 70 x1) = 22 then
 Option.bind (r_bounds N σ (fl σ 73 0) (fl σ 75 0) (fl σ 76 0) v6) (fun r105 =>
 some r105)
 else (Option.bind (r_ofTwo N σ x1) (fun r107 =>
 some r107))))))))))))))))))))))))))))
def r_made_140 (N : Nat)  (σ : St) (x2 : Int) : Option St := grd (i32 (fl σ 11 0)) (
 if (fl σ 11 0) = 0 then
 grd (inb x2 103000) (
 bnd (sf (sf (se (se (se (se (se σ 63 x2 (fl σ 80 0)) 62 x2 (fl σ 81 0)) 61 x2 (fl σ 82 0)) 60 x2 (fl σ 83 0)) 59 x2 ((fl σ 79 0) + 1)) 48 0 ((fl σ 48 0) + 1)) 64 0 ((fl σ 64 0) + 1)) (fun σ34 =>
 Option.bind (r_push N σ34 x2) (fun r36 =>
 some r36)))
 else
 some σ)
def r_made (N : Nat) (σ : St) (x1 : Int) : Option St := Option.bind (r_spot N σ x1) (fun r1 =>
 grd (i32 (fl r1.1 64 0)) (
 if (fl r1.1 64 0) = 200 then
 Option.bind (r_fail N r1.1 5 r1.2) (fun r29 =>
 some r29)
 else
 Option.bind (r_gather N r1.1 (fl σ 48 0)) (fun r5 =>
 Option.bind (r_boundsOf N r5 (fl σ 48 0)) (fun r7 =>
 grd (i64 (fl r7 80 0)) (
 if (1000000 : Int) < (fl r7 80 0) then
 Option.bind (r_fail N r7 6 r1.2) (fun r27 =>
 r_made_140 N r27 (fl σ 48 0))
 else
 grd (i64 (fl r7 81 0)) (
 if (400 : Int) < (fl r7 81 0) then
 Option.bind (r_fail N r7 7 r1.2) (fun r25 =>
 r_made_140 N r25 (fl σ 48 0))
 else
 grd (i64 (fl r7 82 0)) (
 if (64 : Int) < (fl r7 82 0) then
 Option.bind (r_fail N r7 8 r1.2) (fun r23 =>
 r_made_140 N r23 (fl σ 48 0))
 else
 grd (i64 (fl r7 83 0)) (
 if (50000 : Int) < (fl r7 83 0) then
 Option.bind (r_fail N r7 9 r1.2) (fun r21 =>
 r_made_140 N r21 (fl σ 48 0))
 else
 grd (i32 ((fl r7 79 0) + 1)) (
 if (60 : Int) < ((fl r7 79 0) + 1) then
 Option.bind (r_fail N r7 10 r1.2) (fun r19 =>
 r_made_140 N r19 (fl σ 48 0))
 else
 r_made_140 N r7 (fl σ 48 0))))))))))
def r_spanAbove (N : Nat) (σ : St) (x1 : Int) : Option (St × Int) := grd (inb x1 103000) (
 bnd (((el σ 67 x1) * (el σ 68 x1)) - ((el σ 69 x1) * (el σ 66 x1))) (fun v2 =>
 bnd ((el σ 68 x1) * (el σ 66 x1)) (fun v4 =>
 Option.bind (r_common N v2 v4) (fun r6 =>
 grd (i32 v2) (
 grd (i32 r6) (
 grd (¬ r6 = 0) (
 some (σ, (Int.tdiv v2 r6)))))))))
def r_one (N : Nat) (σ : St) (x1 : Int) (x2 : Int) (x3 : Int) (x4 : Int) (x5 : Int) (x6 : Int) : Option St := Option.bind (r_pop N σ) (fun r1 =>
 Option.bind (r_opens N r1.1 x1 x2 x3 x4 x5) (fun r3 =>
 Option.bind (r_addKid N r3 r1.2 1 1) (fun r5 =>
 Option.bind (r_made N r5 x6) (fun r7 =>
 some r7))))
def r_two (N : Nat) (σ : St) (x1 : Int) (x2 : Int) (x3 : Int) (x4 : Int) (x5 : Int) (x6 : Int) : Option St := Option.bind (r_pop N σ) (fun r1 =>
 Option.bind (r_pop N r1.1) (fun r3 =>
 Option.bind (r_opens N r3.1 x1 x2 x3 x4 x5) (fun r5 =>
 Option.bind (r_addKid N r5 r3.2 1 1) (fun r7 =>
 Option.bind (r_addKid N r7 r1.2 1 1) (fun r9 =>
 Option.bind (r_made N r9 x6) (fun r11 =>
 some r11))))))
def r_leaf (N : Nat) (σ : St) (x1 : Int) (x2 : Int) (x3 : Int) (x4 : Int) : Option St := Option.bind (r_opens N σ x1 x2 x3 0 0) (fun r1 =>
 Option.bind (r_made N r1 x4) (fun r3 =>
 some r3))
def r_ofFunction (N : Nat) (σ : St) (x1 : Int) : Option St := grd (inb x1 32768) (
 bnd (el σ 91 x1) (fun v2 =>
 bnd (el σ 90 x1) (fun v4 =>
 bnd (el σ 93 x1) (fun v6 =>
 grd (i32 (el σ 92 x1)) (
 if (el σ 92 x1) = 0 then
 Option.bind (r_one N σ 9 v2 v4 0 0 v6) (fun r10 =>
 some r10)
 else (if (el σ 92 x1) = 1 then
 Option.bind (r_one N σ 9 v4 v2 0 0 v6) (fun r13 =>
 some r13)
 else (if (el σ 92 x1) = 2 then
 Option.bind (r_one N σ 10 v2 v4 0 0 v6) (fun r16 =>
 some r16)
 else (if (el σ 92 x1) = 3 then
 Option.bind (r_one N σ 11 v2 v4 0 0 v6) (fun r19 =>
 some r19)
 else (if (el σ 92 x1) = 4 then
 Option.bind (r_one N σ 12 0 0 0 0 v6) (fun r22 =>
 some r22)
 else (if (el σ 92 x1) = 5 then
 Option.bind (r_two N σ 13 v2 0 0 0 v6) (fun r25 =>
 some r25)
 else (if (el σ 92 x1) = 6 then
 Option.bind (r_two N σ 14 v2 v4 0 0 v6) (fun r28 =>
 some r28)
 else (if (el σ 92 x1) = 7 then
 Option.bind (r_two N σ 16 v2 v4 (el σ 89 x1) (el σ 88 x1) v6) (fun r31 =>
 some r31)
 else (if (el σ 92 x1) = 8 then
 Option.bind (r_two N σ 16 v2 v4 (el σ 89 x1) (el σ 88 x1) v6) (fun r34 =>
 some r34)
 else (if (el σ 92 x1) = 9 then
 Option.bind (r_one N σ 17 v2 0 0 0 v6) (fun r37 =>
 some r37)
 else (if (el σ 92 x1) = 10 then
 Option.bind (r_one N σ 18 v2 0 0 0 v6) (fun r40 =>
 some r40)
 else (if (el σ 92 x1) = 11 then
 Option.bind (r_two N σ 15 v2 0 0 0 v6) (fun r43 =>
 some r43)
 else (if (el σ 92 x1) = 12 then
 Option.bind (r_two N σ 16 v2 v4 (el σ 89 x1) (el σ 88 x1) v6) (fun r46 =>
 some r46)
 else (if (el σ 92 x1) = 13 then
 Option.bind (r_one N σ 19 v2 0 0 0 v6) (fun r49 =>
 some r49)
 else (if (el σ 92 x1) = 14 then
 Option.bind (r_two N σ 23 0 0 0 0 v6) (fun r52 =>
 some r52)
 else (if (el σ 92 x1) = 15 then
 Option.bind (r_two N σ 24 0 0 0 0 v6) (fun r55 =>
 some r55)
 else (if (el σ 92 x1) = 16 then
 Option.bind (r_one N σ 21 v2 0 0 0 v6) (fun r58 =>
 some r58)
 else (if (el σ 92 x1) = 17 then
 Option.bind (r_one N σ 22 v2 0 0 0 v6) (fun r61 =>
 some r61)
 else (if (el σ 92 x1) = 18 then
 Option.bind (r_two N σ 16 v2 v4 (el σ 89 x1) (el σ 88 x1) v6) (fun r64 =>
 some r64)
 else (if (el σ 92 x1) = 19 then
 Option.bind (r_two N σ 16 v2 v4 (el σ 89 x1) (el σ 88 x1) v6) (fun r67 =>
 some r67)
 else (if (el σ 92 x1) = 20 then
 Option.bind (r_one N σ 20 v2 v4 (el σ 89 x1) (el σ 88 x1) v6) (fun r70 =>
 some r70)
 else (Option.bind (r_two N σ 16 v2 v4 (el σ 89 x1) (el σ 88 x1) v6) (fun r72 =>
 some r72)))))))))))))))))))))))))))
def r_function_134 (N : Nat)  (σ : St) (x1 : Int) (x2 : Int) : Option St := grd (inb x1 32768) (
 Option.bind (r_task N σ 11 (el σ 87 x1)) (fun r33 =>
 grd (i32 x2) (
 if x2 = 12 then
 Option.bind (r_task N r33 20 x1) (fun r48 =>
 some r48)
 else
 if x2 = 18 then
 Option.bind (r_task N r33 19 x1) (fun r40 =>
 Option.bind (r_task N r40 14 x1) (fun r42 =>
 Option.bind (r_task N r42 18 x1) (fun r44 =>
 Option.bind (r_task N r44 13 x1) (fun r46 =>
 some r46))))
 else
 Option.bind (r_task N r33 13 x1) (fun r38 =>
 some r38))))
def r_function_121 (N : Nat)  (σ : St) (x1 : Int) (x2 : Int) : Option St := grd (i32 x2) (
 if x2 = 7 then
 Option.bind (r_task N σ 16 x1) (fun r30 =>
 r_function_134 N r30 x1 x2)
 else
 r_function_134 N σ x1 x2)
def r_function_88 (N : Nat)  (σ : St) (x1 : Int) (x2 : Int) : Option St := Option.bind (r_task N σ 17 x1) (fun r26 =>
 r_function_121 N r26 x1 x2)
def r_function_59 (N : Nat)  (σ : St) (x1 : Int) (x2 : Int) (s0 : Int) : Option St := grd (i32 s0) (
 if s0 = 0 then
 Option.bind (r_ofFunction N σ x1) (fun r24 =>
 some r24)
 else
 grd (i32 x2) (
 if x2 = 7 then
 r_function_88 N σ x1 x2
 else
 if x2 = 8 then
 r_function_88 N σ x1 x2
 else
 if x2 = 18 then
 r_function_88 N σ x1 x2
 else
 if x2 = 12 then
 Option.bind (r_task N σ 21 x1) (fun r22 =>
 r_function_121 N r22 x1 x2)
 else
 Option.bind (r_task N σ 15 x1) (fun r20 =>
 r_function_121 N r20 x1 x2)))
def r_function_54 (N : Nat)  (σ : St) (x1 : Int) (x2 : Int) : Option St := r_function_59 N σ x1 x2 1
def r_function (N : Nat) (σ : St) (x1 : Int) : Option St := grd (inb x1 32768) (
 bnd (el σ 92 x1) (fun v2 =>
 grd (i32 v2) (
 if v2 = 5 then
 r_function_54 N σ x1 v2
 else
 if v2 = 6 then
 r_function_54 N σ x1 v2
 else
 if v2 = 7 then
 r_function_54 N σ x1 v2
 else
 if v2 = 8 then
 r_function_54 N σ x1 v2
 else
 if v2 = 11 then
 r_function_54 N σ x1 v2
 else
 if v2 = 12 then
 r_function_54 N σ x1 v2
 else
 if v2 = 18 then
 r_function_54 N σ x1 v2
 else
 if v2 = 19 then
 r_function_54 N σ x1 v2
 else
 r_function_59 N σ x1 v2 0)))
def r_use_96 (N : Nat)  : Nat → St → Int → Int → Option St
  | 0, _, _, _ => none
  | n + 1, σ, x2, x3 => grd (inb x2 6000) (
 grd (i32 x3) (
 grd (i32 (el σ 81 x2)) (
 if x3 < (el σ 81 x2) then
 grd (inb ((fl σ 68 0) + x3) 20000) (
 grd (inb ((4 * (fl σ 70 0)) + x3) 60) (
 (r_use_96 N n) (se σ 53 ((4 * (fl σ 70 0)) + x3) (el σ 54 ((fl σ 68 0) + x3))) x2 (x3 + 1)))
 else
 Option.bind (r_task N σ 23 (-1)) (fun r21 =>
 Option.bind (r_task N r21 1 (el r21 80 x2)) (fun r23 =>
 some r23)))))
def r_use_69 (N : Nat)  (σ : St) (x2 : Int) : Option St := grd (inb x2 6000) (
 r_use_96 N N (sf (sf σ 70 0 ((fl σ 70 0) + 1)) 68 0 ((fl σ 68 0) - (el σ 81 x2))) x2 0)
def r_use (N : Nat) (σ : St) (x1 : Int) : Option St := grd (inb x1 32768) (
 bnd (el σ 92 x1) (fun v2 =>
 grd (i32 (fl σ 70 0)) (
 if (fl σ 70 0) = 12 then
 Option.bind (r_spot N σ (el σ 93 x1)) (fun r12 =>
 Option.bind (r_fail N r12.1 10 r12.2) (fun r14 =>
 some r14))
 else
 Option.bind (r_counts N σ (el σ 93 x1) 1) (fun r6 =>
 grd (i32 (fl r6 11 0)) (
 if (fl r6 11 0) = 0 then
 grd (i32 (fl r6 70 0)) (
 if (fl r6 70 0) = 0 then
 r_use_69 N (sf r6 71 0 (el r6 93 x1)) v2
 else
 r_use_69 N r6 v2)
 else
 some r6)))))
def r_apply_223 (N : Nat)  (σ : St) (x1 : Int) : Option St := Option.bind (r_function N σ x1) (fun r49 =>
 some r49)
def r_apply_198 (N : Nat)  (σ : St) (x1 : Int) : Option St := Option.bind (r_pop N σ) (fun r41 =>
 grd (inb x1 32768) (
 grd (inb (el r41.1 87 x1) 32768) (
 Option.bind (r_push N r41.1 (el r41.1 84 (el r41.1 87 x1))) (fun r45 =>
 Option.bind (r_push N r45 r41.2) (fun r47 =>
 r_apply_223 N r47 x1)))))
def r_apply_138 (N : Nat)  : Nat → St → Int → Int → Int → Option St
  | 0, _, _, _, _ => none
  | n + 1, σ, x1, x2, x3 => grd (i32 x3) (
 if x3 = (-1) then
 Option.bind (r_push N σ x2) (fun r25 =>
 Option.bind (r_use N r25 x1) (fun r27 =>
 some r27))
 else
 grd (inb x3 32768) (
 Option.bind (r_push N σ (el σ 84 x3)) (fun r30 =>
 bnd (el r30 85 x3) (fun v32 =>
 (r_apply_138 N n) r30 x1 x2 v32))))
def r_apply_62 (N : Nat)  : Nat → St → Int → Option St
  | 0, _, _ => none
  | n + 1, σ, x2 => grd (i32 x2) (
 if x2 = (-1) then
 some σ
 else
 Option.bind (r_task N σ 11 x2) (fun r36 =>
 grd (inb x2 32768) (
 bnd (el r36 85 x2) (fun v39 =>
 (r_apply_62 N n) r36 v39))))
def r_apply (N : Nat) (σ : St) (x1 : Int) : Option St := grd (inb x1 32768) (
 grd (i32 (el σ 94 x1)) (
 if (el σ 94 x1) = 9 then
 Option.bind (r_one N σ 12 0 0 0 0 (el σ 93 x1)) (fun r4 =>
 some r4)
 else (if (el σ 94 x1) = 10 then
 Option.bind (r_pop N σ) (fun r7 =>
 bnd (el r7.1 87 x1) (fun v9 =>
 r_apply_138 N N r7.1 x1 r7.2 v9))
 else (if (el σ 94 x1) = 11 then
 bnd (el σ 87 x1) (fun v12 =>
 r_apply_62 N N σ v12)
 else (if (el σ 94 x1) = 12 then
 grd (inb (el σ 87 x1) 32768) (
 Option.bind (r_push N σ (el σ 84 (el σ 87 x1))) (fun r16 =>
 Option.bind (r_two N r16 25 (el r16 92 x1) 0 0 0 (el r16 93 x1)) (fun r18 =>
 some r18)))
 else (grd (i32 (el σ 92 x1)) (
 if (el σ 92 x1) = 14 then
 r_apply_198 N σ x1
 else
 if (el σ 92 x1) = 15 then
 r_apply_198 N σ x1
 else
 r_apply_223 N σ x1)))))))
def r_arguments (N : Nat) (σ : St) (x1 : Int) : Option St := grd (inb x1 32768) (
 grd (i32 (el σ 94 x1)) (
 if (el σ 94 x1) = 9 then
 some σ
 else
 Option.bind (r_task N σ 9 (el σ 87 x1)) (fun r4 =>
 some r4)))
def r_changeOf (N : Nat) (σ : St) (x1 : Int) : Option St := grd (inb x1 32768) (
 grd (i32 (el σ 94 x1)) (
 if (el σ 94 x1) = 28 then
 Option.bind (r_one N σ 9 (el σ 92 x1) 1 0 0 (el σ 93 x1)) (fun r4 =>
 some r4)
 else (if (el σ 94 x1) = 29 then
 Option.bind (r_one N σ 9 1 (el σ 92 x1) 0 0 (el σ 93 x1)) (fun r7 =>
 some r7)
 else (if (el σ 94 x1) = 30 then
 Option.bind (r_one N σ 8 (el σ 92 x1) (el σ 91 x1) (el σ 90 x1) 0 (el σ 93 x1)) (fun r10 =>
 some r10)
 else (Option.bind (r_one N σ 21 500 (el σ 92 x1) 0 0 (el σ 93 x1)) (fun r12 =>
 some r12))))))
def r_isFun (N : Nat) (σ : St) (x1 : Int) : Option (St × Int) := grd (inb x1 32768) (
 grd (i32 (el σ 94 x1)) (
 if (el σ 94 x1) < 9 then
 some (σ, 0)
 else
 if (13 : Int) < (el σ 94 x1) then
 some (σ, 0)
 else
 some (σ, 1)))
def r_make (N : Nat) (σ : St) (x1 : Int) : Option St := grd (inb x1 32768) (
 grd (i32 (el σ 94 x1)) (
 if (el σ 94 x1) = 1 then
 Option.bind (r_task N σ 5 x1) (fun r4 =>
 Option.bind (r_task N r4 4 (el r4 87 x1)) (fun r6 =>
 some r6))
 else (if (el σ 94 x1) = 2 then
 Option.bind (r_task N σ 5 x1) (fun r9 =>
 Option.bind (r_task N r9 4 (el r9 87 x1)) (fun r11 =>
 some r11))
 else (if (el σ 94 x1) = 3 then
 Option.bind (r_task N σ 2 (el σ 87 x1)) (fun r14 =>
 some r14)
 else (if (el σ 94 x1) = 4 then
 Option.bind (r_task N σ 6 x1) (fun r17 =>
 Option.bind (r_task N r17 1 (el r17 87 x1)) (fun r19 =>
 some r19))
 else (if (el σ 94 x1) = 5 then
 grd (inb ((4 * (fl σ 70 0)) + (el σ 92 x1)) 60) (
 Option.bind (r_push N σ (el σ 53 ((4 * (fl σ 70 0)) + (el σ 92 x1)))) (fun r23 =>
 some r23))
 else (if (el σ 94 x1) = 6 then
 Option.bind (r_push N σ (el σ 92 x1)) (fun r26 =>
 some r26)
 else (if (el σ 94 x1) = 7 then
 Option.bind (r_task N σ 22 x1) (fun r29 =>
 Option.bind (r_task N r29 10 (el r29 87 x1)) (fun r31 =>
 some r31))
 else (if (el σ 94 x1) = 8 then
 Option.bind (r_task N σ 12 x1) (fun r34 =>
 Option.bind (r_task N r34 10 (el r34 87 x1)) (fun r36 =>
 some r36))
 else (if (el σ 94 x1) = 9 then
 Option.bind (r_task N σ 6 x1) (fun r39 =>
 Option.bind (r_task N r39 1 (el r39 87 x1)) (fun r41 =>
 some r41))
 else (if (el σ 94 x1) = 10 then
 Option.bind (r_task N σ 6 x1) (fun r44 =>
 Option.bind (r_task N r44 1 (el r44 87 x1)) (fun r46 =>
 some r46))
 else (if (el σ 94 x1) = 11 then
 Option.bind (r_task N σ 6 x1) (fun r49 =>
 Option.bind (r_task N r49 1 (el r49 87 x1)) (fun r51 =>
 some r51))
 else (if (el σ 94 x1) = 12 then
 Option.bind (r_task N σ 6 x1) (fun r54 =>
 Option.bind (r_task N r54 1 (el r54 87 x1)) (fun r56 =>
 some r56))
 else (if (el σ 94 x1) = 13 then
 Option.bind (r_task N σ 6 x1) (fun r59 =>
 Option.bind (r_task N r59 1 (el r59 87 x1)) (fun r61 =>
 some r61))
 else (if (el σ 94 x1) = 14 then
 Option.bind (r_task N σ 6 x1) (fun r64 =>
 Option.bind (r_task N r64 1 (el r64 87 x1)) (fun r66 =>
 some r66))
 else (if (el σ 94 x1) = 15 then
 Option.bind (r_task N σ 6 x1) (fun r69 =>
 Option.bind (r_task N r69 1 (el r69 87 x1)) (fun r71 =>
 some r71))
 else (if (el σ 94 x1) = 16 then
 Option.bind (r_task N σ 6 x1) (fun r74 =>
 Option.bind (r_task N r74 1 (el r74 87 x1)) (fun r76 =>
 some r76))
 else (if (el σ 94 x1) = 17 then
 Option.bind (r_task N σ 6 x1) (fun r79 =>
 Option.bind (r_task N r79 1 (el r79 87 x1)) (fun r81 =>
 some r81))
 else (if (el σ 94 x1) = 18 then
 Option.bind (r_task N σ 6 x1) (fun r84 =>
 Option.bind (r_task N r84 1 (el r84 87 x1)) (fun r86 =>
 some r86))
 else (if (el σ 94 x1) = 19 then
 Option.bind (r_task N σ 6 x1) (fun r89 =>
 Option.bind (r_task N r89 1 (el r89 87 x1)) (fun r91 =>
 some r91))
 else (if (el σ 94 x1) = 20 then
 Option.bind (r_leaf N σ 1 (el σ 92 x1) (el σ 91 x1) (el σ 93 x1)) (fun r94 =>
 some r94)
 else (if (el σ 94 x1) = 21 then
 Option.bind (r_leaf N σ 2 (el σ 92 x1) 0 (el σ 93 x1)) (fun r97 =>
 some r97)
 else (if (el σ 94 x1) = 22 then
 Option.bind (r_leaf N σ 3 0 0 (el σ 93 x1)) (fun r100 =>
 some r100)
 else (if (el σ 94 x1) = 23 then
 Option.bind (r_task N σ 5 x1) (fun r103 =>
 Option.bind (r_task N r103 4 (el r103 87 x1)) (fun r105 =>
 some r105))
 else (if (el σ 94 x1) = 24 then
 Option.bind (r_task N σ 6 x1) (fun r108 =>
 Option.bind (r_task N r108 1 (el r108 87 x1)) (fun r110 =>
 some r110))
 else (if (el σ 94 x1) = 25 then
 Option.bind (r_task N σ 5 x1) (fun r113 =>
 Option.bind (r_task N r113 4 (el r113 87 x1)) (fun r115 =>
 some r115))
 else (if (el σ 94 x1) = 26 then
 Option.bind (r_task N σ 5 x1) (fun r118 =>
 Option.bind (r_task N r118 4 (el r118 87 x1)) (fun r120 =>
 some r120))
 else (if (el σ 94 x1) = 27 then
 Option.bind (r_task N σ 5 x1) (fun r123 =>
 Option.bind (r_task N r123 4 (el r123 87 x1)) (fun r125 =>
 some r125))
 else (Option.bind (r_task N σ 6 x1) (fun r127 =>
 Option.bind (r_task N r127 1 (el r127 87 x1)) (fun r129 =>
 some r129)))))))))))))))))))))))))))))))
def r_row_209 (N : Nat) (rec144 : St → Int → Int → Int → Option St) (σ : St) (x1 : Int) (x4 : Int) (x5 : Int) (s0 : Int) (s1 : Int) (s2 : Int) : Option St := Option.bind (r_addKid N σ s2 s1 s0) (fun r44 =>
 grd (inb x5 32768) (
 bnd (el r44 85 x5) (fun v47 =>
 rec144 r44 x1 (x4 + 1) v47)))
def r_row_193 (N : Nat) (rec144 : St → Int → Int → Int → Option St) (σ : St) (x1 : Int) (x4 : Int) (x5 : Int) (x6 : Int) (s0 : Int) (s1 : Int) : Option St := grd (i32 x6) (
 if x6 = 0 then
 r_row_209 N rec144 σ x1 x4 x5 1 s0 s1
 else
 grd (inb x5 32768) (
 r_row_209 N rec144 σ x1 x4 x5 (el σ 91 x5) s0 s1))
def r_row_167 (N : Nat) (rec144 : St → Int → Int → Int → Option St) (σ : St) (x1 : Int) (x4 : Int) (x5 : Int) (s0 : Int) : Option St := grd (inb x4 20000) (
 grd (i32 s0) (
 if s0 = 0 then
 r_row_193 N rec144 σ x1 x4 x5 s0 1 (el σ 54 x4)
 else
 grd (inb x5 32768) (
 r_row_193 N rec144 σ x1 x4 x5 s0 (el σ 92 x5) (el σ 54 x4))))
def r_row_144 (N : Nat)  : Nat → St → Int → Int → Int → Option St
  | 0, _, _, _, _ => none
  | n + 1, σ, x1, x4, x5 => grd (i32 x5) (
 if x5 = (-1) then
 grd (inb x1 32768) (
 Option.bind (r_made N σ (el σ 93 x1)) (fun r32 =>
 some r32))
 else
 grd (inb x5 32768) (
 grd (i32 (el σ 94 x5)) (
 if (el σ 94 x5) = 24 then
 r_row_167 N (r_row_144 N n) σ x1 x4 x5 1
 else
 r_row_167 N (r_row_144 N n) σ x1 x4 x5 0)))
def r_row_118 (N : Nat)  (σ : St) (x1 : Int) (s0 : Int) : Option St := grd (inb x1 32768) (
 Option.bind (r_opens N σ s0 (el σ 92 x1) 0 0 0) (fun r25 =>
 bnd (el r25 87 x1) (fun v27 =>
 r_row_144 N N r25 x1 (fl r25 68 0) v27)))
def r_row_91 (N : Nat)  (σ : St) (x1 : Int) : Option St := r_row_118 N σ x1 5
def r_row_61 (N : Nat)  (σ : St) (x1 : Int) (x2 : Int) (x3 : Int) : Option St := grd (i32 (fl σ 11 0)) (
 if (fl σ 11 0) = 0 then
 grd (i32 x2) (
 if x2 = 1 then
 r_row_91 N (sf σ 68 0 ((fl σ 68 0) - x3)) x1
 else
 if x2 = 25 then
 r_row_91 N (sf σ 68 0 ((fl σ 68 0) - x3)) x1
 else
 if x2 = 23 then
 r_row_118 N (sf σ 68 0 ((fl σ 68 0) - x3)) x1 4
 else
 if x2 = 27 then
 r_row_118 N (sf σ 68 0 ((fl σ 68 0) - x3)) x1 7
 else
 r_row_118 N (sf σ 68 0 ((fl σ 68 0) - x3)) x1 6)
 else
 some σ)
def r_row_48 (N : Nat)  (σ : St) (x1 : Int) (x2 : Int) (x3 : Int) : Option St := grd (inb x1 32768) (
 Option.bind (r_counts N σ (el σ 93 x1) (x3 - 2)) (fun r15 =>
 r_row_61 N r15 x1 x2 x3))
def r_row_17 (N : Nat)  : Nat → St → Int → Int → Int → Int → Option St
  | 0, _, _, _, _, _ => none
  | n + 1, σ, x1, x2, x3, x4 => grd (i32 x4) (
 if x4 = (-1) then
 grd (i32 x2) (
 if x2 = 1 then
 r_row_48 N σ x1 x2 x3
 else
 if x2 = 2 then
 r_row_48 N σ x1 x2 x3
 else
 r_row_61 N σ x1 x2 x3)
 else
 grd (inb x4 32768) (
 bnd (el σ 85 x4) (fun v12 =>
 (r_row_17 N n) σ x1 x2 (x3 + 1) v12)))
def r_row (N : Nat) (σ : St) (x1 : Int) : Option St := grd (inb x1 32768) (
 bnd (el σ 94 x1) (fun v2 =>
 bnd (el σ 87 x1) (fun v4 =>
 r_row_17 N N σ x1 v2 0 v4)))
def r_terms_32 (N : Nat)  (σ : St) (x1 : Int) : Option St := grd (inb x1 32768) (
 Option.bind (r_task N σ 1 (el σ 87 x1)) (fun r11 =>
 some r11))
def r_terms (N : Nat) (σ : St) (x1 : Int) : Option St := grd (i32 x1) (
 if x1 = (-1) then
 some σ
 else
 grd (inb x1 32768) (
 Option.bind (r_task N σ 2 (el σ 85 x1)) (fun r4 =>
 grd (i32 (el r4 92 x1)) (
 if (el r4 92 x1) = 0 then
 r_terms_32 N r4 x1
 else
 Option.bind (r_task N r4 3 x1) (fun r8 =>
 r_terms_32 N r8 x1)))))
def r_does_186 (N : Nat)  (σ : St) (s0 : Int) (s1 : Int) : Option St := Option.bind (r_task N σ s1 s0) (fun r112 =>
 some r112)
def r_does_279 (N : Nat)  (σ : St) (x2 : Int) : Option St := Option.bind (r_task N σ 1 x2) (fun r114 =>
 some r114)
def r_does (N : Nat) (σ : St) (x1 : Int) (x2 : Int) : Option St := grd (i32 x1) (
 if x1 = 1 then
 Option.bind (r_make N σ x2) (fun r3 =>
 some r3)
 else (if x1 = 2 then
 Option.bind (r_terms N σ x2) (fun r6 =>
 some r6)
 else (if x1 = 3 then
 grd (inb x2 32768) (
 Option.bind (r_two N σ 25 (el σ 92 x2) 0 0 0 (el σ 93 x2)) (fun r10 =>
 some r10))
 else (if x1 = 4 then
 grd (i32 x2) (
 if x2 = (-1) then
 some σ
 else
 grd (inb x2 32768) (
 Option.bind (r_task N σ 4 (el σ 85 x2)) (fun r16 =>
 grd (i32 (el r16 94 x2)) (
 if (el r16 94 x2) = 24 then
 r_does_186 N r16 (el r16 87 x2) 1
 else
 r_does_186 N r16 x2 1))))
 else (if x1 = 5 then
 Option.bind (r_row N σ x2) (fun r21 =>
 some r21)
 else (if x1 = 6 then
 Option.bind (r_changeOf N σ x2) (fun r24 =>
 some r24)
 else (if x1 = 7 then
 Option.bind (r_arguments N σ x2) (fun r27 =>
 some r27)
 else (if x1 = 8 then
 Option.bind (r_pop N σ) (fun r30 =>
 grd (inb x2 32768) (
 some (se r30.1 84 x2 r30.2)))
 else (if x1 = 9 then
 grd (i32 x2) (
 if x2 = (-1) then
 some σ
 else
 grd (inb x2 32768) (
 Option.bind (r_task N σ x1 (el σ 85 x2)) (fun r37 =>
 Option.bind (r_isFun N r37 x2) (fun r39 =>
 grd (i32 r39.2) (
 if r39.2 = 0 then
 if x1 = 9 then
 Option.bind (r_task N r39.1 8 x2) (fun r44 =>
 r_does_279 N r44 x2)
 else
 r_does_279 N r39.1 x2
 else
 Option.bind (r_task N r39.1 7 x2) (fun r46 =>
 some r46))))))
 else (if x1 = 10 then
 grd (i32 x2) (
 if x2 = (-1) then
 some σ
 else
 grd (inb x2 32768) (
 Option.bind (r_task N σ x1 (el σ 85 x2)) (fun r52 =>
 Option.bind (r_isFun N r52 x2) (fun r54 =>
 grd (i32 r54.2) (
 if r54.2 = 0 then
 if x1 = 9 then
 Option.bind (r_task N r54.1 8 x2) (fun r59 =>
 r_does_279 N r59 x2)
 else
 r_does_279 N r54.1 x2
 else
 Option.bind (r_task N r54.1 7 x2) (fun r61 =>
 some r61))))))
 else (if x1 = 11 then
 Option.bind (r_apply N σ x2) (fun r64 =>
 some r64)
 else (if x1 = 12 then
 Option.bind (r_function N σ x2) (fun r67 =>
 some r67)
 else (if x1 = 13 then
 grd (inb ((fl σ 68 0) - 1) 20000) (
 Option.bind (r_push N σ (el σ 54 ((fl σ 68 0) - 1))) (fun r71 =>
 some r71))
 else (if x1 = 14 then
 Option.bind (r_pop N σ) (fun r74 =>
 Option.bind (r_pop N r74.1) (fun r76 =>
 Option.bind (r_push N r76.1 r74.2) (fun r78 =>
 Option.bind (r_push N r78 r76.2) (fun r80 =>
 some r80))))
 else (if x1 = 15 then
 Option.bind (r_ofFunction N σ x2) (fun r83 =>
 some r83)
 else (if x1 = 16 then
 grd (inb x2 32768) (
 Option.bind (r_one N σ 11 (el σ 91 x2) (el σ 90 x2) 0 0 (el σ 93 x2)) (fun r87 =>
 some r87))
 else (if x1 = 17 then
 grd (inb x2 32768) (
 Option.bind (r_two N σ 5 0 0 0 0 (el σ 93 x2)) (fun r91 =>
 some r91))
 else (if x1 = 18 then
 grd (inb x2 32768) (
 Option.bind (r_one N σ 21 (el σ 91 x2) 0 0 0 (el σ 93 x2)) (fun r95 =>
 some r95))
 else (if x1 = 19 then
 grd (inb x2 32768) (
 Option.bind (r_one N σ 22 (el σ 91 x2) 0 0 0 (el σ 93 x2)) (fun r99 =>
 some r99))
 else (if x1 = 20 then
 grd (inb x2 32768) (
 Option.bind (r_one N σ 9 1 (el σ 91 x2) 0 0 (el σ 93 x2)) (fun r103 =>
 some r103))
 else (if x1 = 21 then
 grd (inb x2 32768) (
 Option.bind (r_one N σ 9 (el σ 91 x2) 1 0 0 (el σ 93 x2)) (fun r107 =>
 some r107))
 else (if x1 = 22 then
 Option.bind (r_use N σ x2) (fun r110 =>
 some r110)
 else (some (sf σ 70 0 ((fl σ 70 0) - 1)))))))))))))))))))))))))
def r_makes_70 (N : Nat)  (σ : St)  : Option (St × Int) := grd (i32 (fl σ 11 0)) (
 if (fl σ 11 0) = 0 then
 Option.bind (r_pop N σ) (fun r16 =>
 some (r16.1, r16.2))
 else
 some (σ, (-1)))
def r_makes_21 (N : Nat)  : Nat → St → Option (St × Int)
  | 0, _ => none
  | n + 1, σ => grd (i32 (fl σ 65 0)) (
 if (0 : Int) < (fl σ 65 0) then
 grd (i32 (fl σ 11 0)) (
 if (fl σ 11 0) = 0 then
 grd (inb ((fl σ 65 0) - 1) 20000) (
 bnd (sf σ 65 0 ((fl σ 65 0) - 1)) (fun σ10 =>
 Option.bind (r_does N σ10 (el σ 56 ((fl σ 65 0) - 1)) (el σ 55 ((fl σ 65 0) - 1))) (fun r12 =>
 (r_makes_21 N n) r12)))
 else
 r_makes_70 N σ)
 else
 r_makes_70 N σ)
def r_makes (N : Nat) (σ : St) (x1 : Int) : Option (St × Int) := bnd (sf (sf (sf σ 65 0 0) 68 0 0) 70 0 0) (fun σ1 =>
 Option.bind (r_task N σ1 1 x1) (fun r3 =>
 r_makes_21 N N r3))
def r_div (N : Nat) (x0 : Int) (x2 : Int) : Option Int := grd (i64 x0) (
 grd (i64 x2) (
 grd (¬ x2 = 0) (
 bnd (Int.tdiv x0 x2) (fun v4 =>
 grd (i64 (Int.tmod x0 x2)) (
 if (Int.tmod x0 x2) < 0 then
 some (v4 - 1)
 else
 some v4)))))
def r_mod (N : Nat) (x0 : Int) (x2 : Int) : Option Int := Option.bind (r_div N x0 x2) (fun r1 =>
 some (x0 - (x2 * r1)))
def r_call (N : Nat) (σ : St) (x1 : Int) (x2 : Int) : Option St := grd (inb (fl σ 96 0) 70) (
 some (se (se (se (se (se (se (se (se (se (se (sf σ 96 0 ((fl σ 96 0) + 1)) 42 (fl σ 96 0) x1) 41 (fl σ 96 0) x2) 40 (fl σ 96 0) 0) 39 (fl σ 96 0) (fl σ 84 0)) 38 (fl σ 96 0) (fl σ 84 0)) 37 (fl σ 96 0) 0) 36 (fl σ 96 0) 0) 35 (fl σ 96 0) 0) 34 (fl σ 96 0) 0) 33 (fl σ 96 0) 0))
def r_callKid (N : Nat) (σ : St) (x1 : Int) (x2 : Int) (x3 : Int) : Option St := grd (inb x1 70) (
 grd (inb (el σ 42 x1) 103000) (
 grd (inb ((el σ 65 (el σ 42 x1)) + x2) 210000) (
 bnd (se (se (se σ 38 x1 (fl σ 84 0)) 40 x1 1) 37 x1 x2) (fun σ4 =>
 Option.bind (r_call N σ4 (el σ 58 ((el σ 65 (el σ 42 x1)) + x2)) x3) (fun r6 =>
 some r6)))))
def r_emit (N : Nat) (σ : St) (x1 : Int) (x3 : Int) (x5 : Int) (x6 : Int) (x7 : Int) (x8 : Int) : Option St := grd (inb (fl σ 84 0) 30000) (
 some (sf (se (se (se (se (se (se σ 52 (fl σ 84 0) x1) 51 (fl σ 84 0) x3) 50 (fl σ 84 0) x5) 49 (fl σ 84 0) x6) 48 (fl σ 84 0) x7) 47 (fl σ 84 0) x8) 84 0 ((fl σ 84 0) + 1)))
def r_grainOf (N : Nat) (σ : St) (x1 : Int) : Option (St × Int) := grd (inb x1 70) (
 grd (inb (el σ 42 x1) 103000) (
 grd (inb ((el σ 65 (el σ 42 x1)) + (el σ 37 x1)) 210000) (
 grd (inb (el σ 58 ((el σ 65 (el σ 42 x1)) + (el σ 37 x1))) 103000) (
 grd (i32 (el σ 63 (el σ 58 ((el σ 65 (el σ 42 x1)) + (el σ 37 x1))))) (
 some (σ, (el σ 63 (el σ 58 ((el σ 65 (el σ 42 x1)) + (el σ 37 x1))))))))))
def r_kidAt_68 (N : Nat) (rec9 : St → Int → Int → Int → Int → Int → Option (St × Int)) (σ : St) (x1 : Int) (x2 : Int) (x4 : Int) (x6 : Int) (s0 : Int) : Option (St × Int) := grd (i32 s0) (
 if s0 = 0 then
 rec9 σ x1 x2 x4 (x6 + 1) s0
 else
 rec9 σ x1 x2 x4 x6 s0)
def r_kidAt_9 (N : Nat)  : Nat → St → Int → Int → Int → Int → Int → Option (St × Int)
  | 0, _, _, _, _, _, _ => none
  | n + 1, σ, x1, x2, x4, x6, x7 => grd (i32 x7) (
 if x7 = 0 then
 grd (inb x1 103000) (
 grd (inb ((el σ 65 x1) + x6) 210000) (
 grd (i32 (el σ 57 ((el σ 65 x1) + x6))) (
 grd (i32 (Int.tmod (el σ 57 ((el σ 65 x1) + x6)) 32)) (
 grd (i32 (Int.tdiv (el σ 57 ((el σ 65 x1) + x6)) 32)) (
 bnd (x4 + ((Int.tmod (el σ 57 ((el σ 65 x1) + x6)) 32) * (Int.tdiv (el σ 57 ((el σ 65 x1) + x6)) 32))) (fun v8 =>
 grd (i64 x2) (
 grd (i64 v8) (
 if x2 < v8 then
 r_kidAt_68 N (r_kidAt_9 N n) σ x1 x2 v8 x6 1
 else
 r_kidAt_68 N (r_kidAt_9 N n) σ x1 x2 v8 x6 0))))))))
 else
 some (σ, x6))
def r_kidAt (N : Nat) (σ : St) (x1 : Int) (x2 : Int) : Option (St × Int) := r_kidAt_9 N N σ x1 x2 0 0 0
def r_move_3 (N : Nat)  : Nat → St → Int → Int → Int → Option St
  | 0, _, _, _, _ => none
  | n + 1, σ, x2, x4, x6 => grd (i32 x6) (
 grd (i32 (fl σ 84 0)) (
 if x6 < (fl σ 84 0) then
 grd (inb x6 30000) (
 (r_move_3 N n) (se (se σ 52 x6 (((el σ 52 x6) * x2) + x4)) 51 x6 (((el σ 51 x6) * x2) + x4)) x2 x4 (x6 + 1))
 else
 some σ))
def r_move (N : Nat) (σ : St) (x1 : Int) (x2 : Int) (x4 : Int) : Option St := r_move_3 N N σ x2 x4 x1
def r_poly_98 (N : Nat)  (σ : St) (x1 : Int) (x2 : Int) (x3 : Int) (x5 : Int) : Option (St × Int) := grd (inb x1 70) (
 grd (i32 (el σ 36 x1)) (
 grd (i32 x5) (
 if (el σ 36 x1) = x5 then
 some (σ, 0)
 else
 Option.bind (r_weights N σ x2) (fun r30 =>
 grd (i32 (el r30.1 36 x1)) (
 bnd ((x3 * x5) + (el r30.1 36 x1)) (fun v33 =>
 Option.bind (r_div N v33 r30.2) (fun r35 =>
 Option.bind (r_mod N v33 r30.2) (fun r37 =>
 bnd (se r30.1 34 x1 r35) (fun σ39 =>
 Option.bind (r_kidAt N σ39 x2 r37) (fun r41 =>
 Option.bind (r_callKid N r41.1 x1 r41.2 (el r41.1 34 x1)) (fun r43 =>
 some (r43, 1))))))))))))
def r_poly (N : Nat) (σ : St) (x1 : Int) (x2 : Int) (x3 : Int) : Option (St × Int) := grd (inb x2 103000) (
 bnd (el σ 69 x2) (fun v2 =>
 grd (inb x1 70) (
 grd (i32 (el σ 40 x1)) (
 if (el σ 40 x1) = 1 then
 grd (i32 (el σ 63 x2)) (
 grd (i32 v2) (
 grd (¬ v2 = 0) (
 grd (i32 (Int.tdiv (el σ 63 x2) v2)) (
 bnd (Int.tdiv (el σ 63 x2) v2) (fun v11 =>
 Option.bind (r_grainOf N σ x1) (fun r13 =>
 grd (i64 v11) (
 grd (i64 r13.2) (
 grd (¬ r13.2 = 0) (
 bnd (Int.tdiv v11 r13.2) (fun v18 =>
 grd (i32 (el r13.1 63 x2)) (
 grd (i32 (el r13.1 36 x1)) (
 Option.bind (r_grainOf N r13.1 x1) (fun r22 =>
 Option.bind (r_move N r22.1 (el r13.1 38 x1) v18 (((x3 * (el r13.1 63 x2)) + ((el r13.1 36 x1) * v11)) - (((el r13.1 34 x1) * r22.2) * v18))) (fun r24 =>
 r_poly_98 N (se r24 36 x1 ((el r24 36 x1) + 1)) x1 x2 x3 v2))))))))))))))
 else
 r_poly_98 N σ x1 x2 x3 v2))))
def r_copy (N : Nat) (σ : St) (x1 : Int) (x2 : Int) : Option St := grd (inb x1 30000) (
 grd (inb x2 30000) (
 some (se (se (se (se (se (se (se (se (se (se σ 52 x2 (el σ 52 x1)) 51 x2 (el σ 51 x1)) 50 x2 (el σ 50 x1)) 49 x2 (el σ 49 x1)) 48 x2 (el σ 48 x1)) 47 x2 (el σ 47 x1)) 46 x2 (el σ 46 x1)) 45 x2 (el σ 45 x1)) 44 x2 (el σ 44 x1)) 43 x2 (el σ 43 x1))))
def r_clip_54 (N : Nat) (rec6 : St → Int → Int → Int → Int → Option St) (σ : St) (x2 : Int) (x4 : Int) (x6 : Int) (x7 : Int) : Option St := rec6 σ x2 x4 x6 (x7 + 1)
def r_clip_6 (N : Nat)  : Nat → St → Int → Int → Int → Int → Option St
  | 0, _, _, _, _, _ => none
  | n + 1, σ, x2, x4, x6, x7 => grd (i32 x7) (
 grd (i32 (fl σ 84 0)) (
 if x7 < (fl σ 84 0) then
 grd (inb x7 30000) (
 grd (i64 (el σ 52 x7)) (
 grd (i64 x2) (
 if (el σ 52 x7) < x2 then
 r_clip_54 N (r_clip_6 N n) σ x2 x4 x6 x7
 else
 grd (i64 x4) (
 if (el σ 52 x7) < x4 then
 Option.bind (r_copy N σ x7 x6) (fun r10 =>
 r_clip_54 N (r_clip_6 N n) r10 x2 x4 (x6 + 1) x7)
 else
 r_clip_54 N (r_clip_6 N n) σ x2 x4 x6 x7))))
 else
 some (sf σ 84 0 x6)))
def r_clip (N : Nat) (σ : St) (x1 : Int) (x2 : Int) (x4 : Int) : Option St := r_clip_6 N N σ x2 x4 x1 x1
def r_ply_43 (N : Nat) (rec16 : St → Int → Int → Int → Int → Option St) : Nat → St → Int → Int → Int → Int → Int → Int → Option St
  | 0, _, _, _, _, _, _, _ => none
  | n + 1, σ, x2, x3, x4, x5, x6, x8 => grd (i32 x8) (
 grd (i32 x2) (
 if x8 < x2 then
 grd (inb x5 30000) (
 Option.bind (r_emit N σ (((el σ 52 x5) * x2) + (x8 * x6)) (((el σ 52 x5) * x2) + ((x8 + 1) * x6)) (el σ 50 x5) (el σ 49 x5) (el σ 48 x5) (el σ 47 x5)) (fun r21 =>
 (r_ply_43 N rec16 n) r21 x2 x3 x4 x5 x6 (x8 + 1)))
 else
 rec16 σ x2 x3 x4 (x5 + 1)))
def r_ply_141 (N : Nat)  : Nat → St → Int → Int → Int → Int → Option St
  | 0, _, _, _, _, _ => none
  | n + 1, σ, x3, x4, x5, x6 => grd (i32 x6) (
 grd (i32 x5) (
 if x6 < x5 then
 Option.bind (r_copy N σ (x4 + x6) (x3 + x6)) (fun r15 =>
 (r_ply_141 N n) r15 x3 x4 x5 (x6 + 1))
 else
 some (sf σ 84 0 (x3 + x5))))
def r_ply_16 (N : Nat)  : Nat → St → Int → Int → Int → Int → Option St
  | 0, _, _, _, _, _ => none
  | n + 1, σ, x2, x3, x4, x5 => grd (i32 x5) (
 grd (i32 x4) (
 if x5 < x4 then
 grd (inb x5 30000) (
 bnd ((el σ 51 x5) - (el σ 52 x5)) (fun v10 =>
 r_ply_43 N (r_ply_16 N n) N σ x2 x3 x4 x5 v10 0))
 else
 bnd ((fl σ 84 0) - x4) (fun v7 =>
 r_ply_141 N N σ x3 x4 v7 0)))
def r_ply (N : Nat) (σ : St) (x1 : Int) (x2 : Int) : Option St := grd (inb x1 70) (
 bnd (el σ 38 x1) (fun v2 =>
 r_ply_16 N N σ x2 v2 (fl σ 84 0) v2))
def r_shift (N : Nat) (σ : St) (x1 : Int) (x2 : Int) : Option (St × Int) := grd (inb x1 103000) (
 grd (i32 (el σ 70 x1)) (
 if (el σ 70 x1) = 17 then
 grd (i32 (el σ 69 x1)) (
 Option.bind (r_mod N x2 (el σ 69 x1)) (fun r13 =>
 grd (i32 (el σ 63 x1)) (
 grd (¬ (el σ 69 x1) = 0) (
 grd (i32 (Int.tdiv (el σ 63 x1) (el σ 69 x1))) (
 some (σ, ((-r13) * (Int.tdiv (el σ 63 x1) (el σ 69 x1)))))))))
 else
 grd (i32 (el σ 69 x1)) (
 grd (i32 (el σ 63 x1)) (
 grd (i32 (el σ 68 x1)) (
 grd (¬ (el σ 68 x1) = 0) (
 grd (i32 (Int.tdiv (el σ 63 x1) (el σ 68 x1))) (
 bnd ((el σ 69 x1) * (Int.tdiv (el σ 63 x1) (el σ 68 x1))) (fun v9 =>
 if (el σ 70 x1) = 10 then
 some (σ, (-v9))
 else
 some (σ, v9)))))))))
def r_sort_91 (N : Nat) (rec4 : St → Int → Int → Option St) (σ : St) (x1 : Int) (x2 : Int) : Option St := rec4 σ x1 (x2 + 1)
def r_sort_82 (N : Nat) (rec4 : St → Int → Int → Option St) (σ : St) (x1 : Int) (x2 : Int) (x5 : Int) : Option St := Option.bind (r_copy N σ 29999 x5) (fun r24 =>
 r_sort_91 N rec4 r24 x1 x2)
def r_sort_46 (N : Nat) (rec4 : St → Int → Int → Option St) : Nat → St → Int → Int → Int → Int → Option St
  | 0, _, _, _, _, _ => none
  | n + 1, σ, x1, x2, x3, x5 => grd (i32 x5) (
 grd (i32 x1) (
 if x1 < x5 then
 grd (inb (x5 - 1) 30000) (
 grd (i64 (el σ 52 (x5 - 1))) (
 grd (i64 x3) (
 if x3 < (el σ 52 (x5 - 1)) then
 Option.bind (r_copy N σ (x5 - 1) x5) (fun r22 =>
 (r_sort_46 N rec4 n) r22 x1 x2 x3 (x5 + (-1)))
 else
 r_sort_82 N rec4 σ x1 x2 x5)))
 else
 r_sort_82 N rec4 σ x1 x2 x5))
def r_sort_4 (N : Nat)  : Nat → St → Int → Int → Option St
  | 0, _, _, _ => none
  | n + 1, σ, x1, x2 => grd (i32 x2) (
 grd (i32 (fl σ 84 0)) (
 if x2 < (fl σ 84 0) then
 grd (inb x2 30000) (
 bnd (el σ 52 x2) (fun v7 =>
 grd (inb (x2 - 1) 30000) (
 grd (i64 (el σ 52 (x2 - 1))) (
 grd (i64 v7) (
 if v7 < (el σ 52 (x2 - 1)) then
 Option.bind (r_copy N σ x2 29999) (fun r13 =>
 r_sort_46 N (r_sort_4 N n) N r13 x1 x2 v7 x2)
 else
 r_sort_91 N (r_sort_4 N n) σ x1 x2)))))
 else
 some σ))
def r_sort (N : Nat) (σ : St) (x1 : Int) : Option St := bnd (x1 + 1) (fun v1 =>
 r_sort_4 N N σ x1 v1)
def r_span_154 (N : Nat)  (σ : St) (s0 : Int) (s1 : Int) (s2 : Int) : Option St := grd (inb s2 70) (
 some (se σ 33 s2 (s1 + s0)))
def r_span_214 (N : Nat)  (σ : St) (s0 : Int) (s1 : Int) : Option St := grd (inb s1 70) (
 some (se σ 33 s1 s0))
def r_span_187 (N : Nat)  (σ : St) (x1 : Int) (x3 : Int) (x5 : Int) (x7 : Int) (s0 : Int) (s1 : Int) : Option St := grd (inb s1 70) (
 grd (i64 x7) (
 if x7 = 1 then
 r_span_214 N (se σ 34 s1 s0) (x3 - x5) x1
 else
 grd (i64 x5) (
 grd (¬ x7 = 0) (
 r_span_214 N (se σ 34 s1 s0) (x3 - (Int.tdiv x5 x7)) x1))))
def r_span_248 (N : Nat)  (σ : St) (s0 : Int) (s1 : Int) : Option St := grd (inb s1 70) (
 some (se σ 33 s1 s0))
def r_span (N : Nat) (σ : St) (x1 : Int) (x2 : Int) (x3 : Int) : Option St := grd (inb x2 103000) (
 grd (i32 (el σ 69 x2)) (
 bnd (el σ 69 x2) (fun v3 =>
 grd (i32 (el σ 68 x2)) (
 bnd (el σ 68 x2) (fun v6 =>
 grd (i32 (el σ 70 x2)) (
 if (el σ 70 x2) = 9 then
 Option.bind (r_div N (x3 * v3) v6) (fun r10 =>
 grd (inb x1 70) (
 Option.bind (r_div N ((((x3 + 1) * v3) + v6) - 1) v6) (fun r13 =>
 some (se (se σ 34 x1 r10) 33 x1 (r13 - 1)))))
 else (if (el σ 70 x2) = 10 then
 grd (i64 v3) (
 grd (i64 v6) (
 grd (¬ v6 = 0) (
 grd (inb x1 70) (
 if v6 = 1 then
 r_span_154 N (se σ 34 x1 (x3 + (Int.tdiv v3 v6))) 0 (x3 + (Int.tdiv v3 v6)) x1
 else
 r_span_154 N (se σ 34 x1 (x3 + (Int.tdiv v3 v6))) 1 (x3 + (Int.tdiv v3 v6)) x1))))
 else (if (el σ 70 x2) = 11 then
 grd (i64 v6) (
 if v6 = 1 then
 r_span_187 N σ x1 x3 v3 v6 (x3 - v3) x1
 else
 grd (i64 v3) (
 grd (¬ v6 = 0) (
 r_span_187 N σ x1 x3 v3 v6 ((x3 - (Int.tdiv v3 v6)) - 1) x1)))
 else (if (el σ 70 x2) = 12 then
 grd (inb (el σ 65 x2) 210000) (
 grd (inb (el σ 58 (el σ 65 x2)) 103000) (
 grd (i32 (el σ 61 (el σ 58 (el σ 65 x2)))) (
 grd (inb x1 70) (
 some (se (se σ 34 x1 (x3 - (el σ 61 (el σ 58 (el σ 65 x2))))) 33 x1 x3)))))
 else (if (el σ 70 x2) = 13 then
 grd (inb (el σ 65 x2) 210000) (
 grd (inb (el σ 58 (el σ 65 x2)) 103000) (
 grd (i32 (el σ 61 (el σ 58 (el σ 65 x2)))) (
 grd (inb x1 70) (
 some (se (se σ 34 x1 (x3 - (el σ 61 (el σ 58 (el σ 65 x2))))) 33 x1 x3)))))
 else (if (el σ 70 x2) = 14 then
 grd (inb (el σ 65 x2) 210000) (
 grd (inb (el σ 58 (el σ 65 x2)) 103000) (
 grd (i32 (el σ 61 (el σ 58 (el σ 65 x2)))) (
 grd (inb x1 70) (
 some (se (se σ 34 x1 (x3 - (el σ 61 (el σ 58 (el σ 65 x2))))) 33 x1 x3)))))
 else (if (el σ 70 x2) = 15 then
 grd (inb (el σ 65 x2) 210000) (
 grd (inb (el σ 58 (el σ 65 x2)) 103000) (
 grd (i32 (el σ 61 (el σ 58 (el σ 65 x2)))) (
 grd (inb x1 70) (
 some (se (se σ 34 x1 (x3 - (el σ 61 (el σ 58 (el σ 65 x2))))) 33 x1 x3)))))
 else (if (el σ 70 x2) = 16 then
 grd (inb (el σ 65 x2) 210000) (
 grd (inb (el σ 58 (el σ 65 x2)) 103000) (
 grd (i32 (el σ 61 (el σ 58 (el σ 65 x2)))) (
 grd (inb x1 70) (
 some (se (se σ 34 x1 (x3 - (el σ 61 (el σ 58 (el σ 65 x2))))) 33 x1 x3)))))
 else (if (el σ 70 x2) = 17 then
 grd (inb x1 70) (
 Option.bind (r_mod N x3 v3) (fun r53 =>
 grd (i64 r53) (
 if r53 = 0 then
 r_span_248 N (se σ 34 x1 x3) x3 x1
 else
 r_span_248 N (se σ 34 x1 x3) (x3 + 1) x1)))
 else (grd (inb (el σ 65 x2) 210000) (
 grd (inb (el σ 58 (el σ 65 x2)) 103000) (
 grd (i32 (el σ 61 (el σ 58 (el σ 65 x2)))) (
 grd (inb x1 70) (
 some (se (se σ 34 x1 (x3 - (el σ 61 (el σ 58 (el σ 65 x2))))) 33 x1 x3))))))))))))))))))))
def r_rows_145 (N : Nat)  (σ : St) (x1 : Int) (x2 : Int) : Option (St × Int) := grd (inb x1 70) (
 grd (i64 (el σ 34 x1)) (
 grd (i64 (el σ 33 x1)) (
 if (el σ 33 x1) < (el σ 34 x1) then
 grd (inb x2 103000) (
 grd (i32 (el σ 70 x2)) (
 if (el σ 70 x2) = 18 then
 Option.bind (r_sort N σ (el σ 39 x1)) (fun r37 =>
 some (r37, 0))
 else
 some (σ, 0)))
 else
 Option.bind (r_callKid N σ x1 0 (el σ 34 x1)) (fun r39 =>
 some (r39, 1)))))
def r_rows_105 (N : Nat)  (σ : St) (x1 : Int) (x2 : Int) (x3 : Int) : Option (St × Int) := grd (inb x1 70) (
 grd (inb x2 103000) (
 grd (i32 (el σ 63 x2)) (
 Option.bind (r_clip N σ (el σ 38 x1) (x3 * (el σ 63 x2)) ((x3 + 1) * (el σ 63 x2))) (fun r28 =>
 r_rows_145 N (se r28 34 x1 ((el r28 34 x1) + 1)) x1 x2))))
def r_rows (N : Nat) (σ : St) (x1 : Int) (x2 : Int) (x3 : Int) : Option (St × Int) := grd (inb x1 70) (
 grd (i32 (el σ 40 x1)) (
 if (el σ 40 x1) = 0 then
 Option.bind (r_span N σ x1 x2 x3) (fun r23 =>
 r_rows_145 N r23 x1 x2)
 else
 grd (inb x2 103000) (
 grd (i32 (el σ 70 x2)) (
 if (el σ 70 x2) = 18 then
 Option.bind (r_ply N σ x1 (el σ 69 x2)) (fun r21 =>
 r_rows_105 N r21 x1 x2 x3)
 else
 if (el σ 70 x2) = 9 then
 grd (i32 (el σ 68 x2)) (
 Option.bind (r_move N σ (el σ 38 x1) (el σ 68 x2) 0) (fun r19 =>
 r_rows_105 N r19 x1 x2 x3))
 else
 grd (i32 (el σ 63 x2)) (
 Option.bind (r_grainOf N σ x1) (fun r9 =>
 grd (i64 (el σ 63 x2)) (
 grd (i64 r9.2) (
 grd (¬ r9.2 = 0) (
 Option.bind (r_shift N r9.1 x2 x3) (fun r14 =>
 Option.bind (r_move N r14.1 (el σ 38 x1) (Int.tdiv (el σ 63 x2) r9.2) r14.2) (fun r16 =>
 r_rows_105 N r16 x1 x2 x3)))))))))))
def r_sequence_186 (N : Nat)  (σ : St) (x1 : Int) (x2 : Int) (x3 : Int) : Option (St × Int) := grd (inb x1 70) (
 grd (inb x2 103000) (
 grd (i32 (el σ 37 x1)) (
 grd (i32 (el σ 64 x2)) (
 if (el σ 37 x1) = (el σ 64 x2) then
 some (σ, 0)
 else
 Option.bind (r_callKid N σ x1 (el σ 37 x1) x3) (fun r41 =>
 some (r41, 1))))))
def r_sequence (N : Nat) (σ : St) (x1 : Int) (x2 : Int) (x3 : Int) : Option (St × Int) := grd (inb x2 103000) (
 grd (i32 (el σ 63 x2)) (
 bnd (el σ 63 x2) (fun v3 =>
 grd (inb x1 70) (
 grd (i32 (el σ 40 x1)) (
 if (el σ 40 x1) = 0 then
 Option.bind (r_weights N σ x2) (fun r34 =>
 r_sequence_186 N (se r34.1 33 x1 r34.2) x1 x2 x3)
 else
 grd (i64 v3) (
 grd (i64 (el σ 33 x1)) (
 grd (¬ (el σ 33 x1) = 0) (
 bnd (Int.tdiv v3 (el σ 33 x1)) (fun v11 =>
 grd (inb ((el σ 65 x2) + (el σ 37 x1)) 210000) (
 grd (i32 (el σ 57 ((el σ 65 x2) + (el σ 37 x1)))) (
 bnd (Int.tmod (el σ 57 ((el σ 65 x2) + (el σ 37 x1))) 32) (fun v15 =>
 grd (i32 v15) (
 Option.bind (r_grainOf N σ x1) (fun r18 =>
 grd (i64 v11) (
 grd (i64 r18.2) (
 grd (¬ r18.2 = 0) (
 bnd (v15 * (Int.tdiv v11 r18.2)) (fun v23 =>
 Option.bind (r_grainOf N r18.1 x1) (fun r25 =>
 Option.bind (r_move N r25.1 (el r18.1 38 x1) v23 (((x3 * v3) + ((el r18.1 35 x1) * v11)) - ((x3 * r25.2) * v23))) (fun r27 =>
 grd (inb ((el r27 65 x2) + (el r27 37 x1)) 210000) (
 grd (i32 (el r27 57 ((el r27 65 x2) + (el r27 37 x1)))) (
 grd (i32 ((el r27 36 x1) + 1)) (
 grd (i32 (Int.tdiv (el r27 57 ((el r27 65 x2) + (el r27 37 x1))) 32)) (
 if ((el r27 36 x1) + 1) = (Int.tdiv (el r27 57 ((el r27 65 x2) + (el r27 37 x1))) 32) then
 r_sequence_186 N (se (se (se (se r27 35 x1 ((el r27 35 x1) + v15)) 36 x1 ((el r27 36 x1) + 1)) 36 x1 0) 37 x1 ((el r27 37 x1) + 1)) x1 x2 x3
 else
 r_sequence_186 N (se (se r27 35 x1 ((el r27 35 x1) + v15)) 36 x1 ((el r27 36 x1) + 1)) x1 x2 x3))))))))))))))))))))))))
def r_draw_198 (N : Nat) (rec16 : St → Int → Int → Int → Int → Option St) (σ : St) (x2 : Int) (x3 : Int) (x5 : Int) (x6 : Int) : Option St := rec16 σ x2 x3 x5 (x6 + 1)
def r_draw_181 (N : Nat) (rec16 : St → Int → Int → Int → Int → Option St) (σ : St) (x2 : Int) (x3 : Int) (x5 : Int) (x6 : Int) (s0 : Int) (s1 : Int) : Option St := grd (i32 s1) (
 grd (i32 s0) (
 if s1 = s0 then
 Option.bind (r_copy N σ x6 x5) (fun r38 =>
 r_draw_198 N rec16 r38 x2 x3 (x5 + 1) x6)
 else
 r_draw_198 N rec16 σ x2 x3 x5 x6))
def r_draw_161 (N : Nat) (rec16 : St → Int → Int → Int → Int → Option St) (σ : St) (x2 : Int) (x3 : Int) (x5 : Int) (x6 : Int) (s0 : Int) : Option St := grd (inb x2 103000) (
 grd (i32 (el σ 70 x2)) (
 if (el σ 70 x2) = 22 then
 r_draw_181 N rec16 σ x2 x3 x5 x6 1 s0
 else
 r_draw_181 N rec16 σ x2 x3 x5 x6 0 s0))
def r_draw_16 (N : Nat)  : Nat → St → Int → Int → Int → Int → Option St
  | 0, _, _, _, _, _ => none
  | n + 1, σ, x2, x3, x5, x6 => grd (i32 x6) (
 grd (i32 (fl σ 84 0)) (
 if x6 < (fl σ 84 0) then
 grd (inb x6 30000) (
 grd (inb x2 103000) (
 grd (i32 (el σ 63 x2)) (
 bnd ((el σ 52 x6) - (x3 * (el σ 63 x2))) (fun v12 =>
 Option.bind (r_commonOf N v12 (el σ 63 x2)) (fun r14 =>
 grd (i64 v12) (
 grd (i64 r14) (
 grd (¬ r14 = 0) (
 grd (i64 (el σ 63 x2)) (
 bnd (((((fl σ 95 0) + (9973 * x3)) + (7919 * (Int.tdiv v12 r14))) + (104729 * (Int.tdiv (el σ 63 x2) r14))) + (1000003 * (el σ 68 x2))) (fun v20 =>
 bnd (ixor v20 (iushr v20 15)) (fun v22 =>
 bnd (v22 * 668265263) (fun v24 =>
 bnd (ixor v24 (iushr v24 13)) (fun v26 =>
 grd (i32 (iand v26 1048575)) (
 grd (i32 (Int.tmod (iand v26 1048575) 1000)) (
 grd (i32 (el σ 69 x2)) (
 if (Int.tmod (iand v26 1048575) 1000) < (el σ 69 x2) then
 r_draw_161 N (r_draw_16 N n) σ x2 x3 x5 x6 1
 else
 r_draw_161 N (r_draw_16 N n) σ x2 x3 x5 x6 0))))))))))))))))
 else
 some (sf σ 84 0 x5)))
def r_draw (N : Nat) (σ : St) (x1 : Int) (x2 : Int) (x3 : Int) : Option St := grd (inb x1 70) (
 bnd (el σ 38 x1) (fun v2 =>
 bnd (el σ 38 x1) (fun v4 =>
 r_draw_16 N N σ x2 x3 v2 v4)))
def r_rotate_91 (N : Nat)  : Nat → St → Int → Int → Int → Option St
  | 0, _, _, _, _ => none
  | n + 1, σ, x1, x3, x4 => grd (i32 x4) (
 grd (i32 x3) (
 if x4 < x3 then
 grd (inb x4 400) (
 grd (inb (x1 + x4) 30000) (
 (r_rotate_91 N n) (se (se (se (se σ 50 (x1 + x4) (el σ 32 x4)) 49 (x1 + x4) (el σ 31 x4)) 48 (x1 + x4) (el σ 30 x4)) 47 (x1 + x4) (el σ 29 x4)) x1 x3 (x4 + 1)))
 else
 some σ))
def r_rotate_10 (N : Nat)  : Nat → St → Int → Int → Int → Int → Option St
  | 0, _, _, _, _, _ => none
  | n + 1, σ, x1, x2, x3, x4 => grd (i32 x4) (
 grd (i32 x3) (
 if x4 < x3 then
 grd (i32 (x4 + x2)) (
 grd (¬ x3 = 0) (
 bnd (x1 + (Int.tmod (x4 + x2) x3)) (fun v8 =>
 grd (inb v8 30000) (
 grd (inb x4 400) (
 (r_rotate_10 N n) (se (se (se (se σ 32 x4 (el σ 50 v8)) 31 x4 (el σ 49 v8)) 30 x4 (el σ 48 v8)) 29 x4 (el σ 47 v8)) x1 x2 x3 (x4 + 1))))))
 else
 r_rotate_91 N N σ x1 x3 0))
def r_rotate (N : Nat) (σ : St) (x1 : Int) (x2 : Int) : Option St := bnd ((fl σ 84 0) - x1) (fun v1 =>
 r_rotate_10 N N σ x1 x2 v1 0)
def r_single_96 (N : Nat)  (σ : St) (x3 : Int) (s0 : Int) (s1 : Int) : Option (St × Int) := Option.bind (r_callKid N σ s1 s0 x3) (fun r129 =>
 some (r129, 1))
def r_single_82 (N : Nat)  (σ : St) (x1 : Int) (x3 : Int) (s0 : Int) : Option (St × Int) := grd (i32 s0) (
 if s0 = 0 then
 r_single_96 N σ x3 0 x1
 else
 r_single_96 N σ x3 1 x1)
def r_single_81 (N : Nat)  (σ : St) (x1 : Int) (x3 : Int) : Option (St × Int) := r_single_82 N σ x1 x3 0
def r_single_235 (N : Nat) (rec184 : St → Int → Int → Int → Int → Option (St × Int)) (σ : St) (x1 : Int) (x3 : Int) (x5 : Int) (x7 : Int) (x8 : Int) (s0 : Int) : Option (St × Int) := grd (inb x7 30000) (
 rec184 (se (se σ 52 x7 ((((2 * x3) + 1) * x5) - s0)) 51 x7 ((((2 * x3) + 1) * x5) - x8)) x1 x3 x5 (x7 + 1))
def r_single_184 (N : Nat)  : Nat → St → Int → Int → Int → Int → Option (St × Int)
  | 0, _, _, _, _, _ => none
  | n + 1, σ, x1, x3, x5, x7 => grd (i32 x7) (
 grd (i32 (fl σ 84 0)) (
 if x7 < (fl σ 84 0) then
 grd (inb x7 30000) (
 bnd (el σ 52 x7) (fun v121 =>
 grd (i64 (el σ 51 x7)) (
 grd (i64 ((x3 + 1) * x5)) (
 if (el σ 51 x7) < ((x3 + 1) * x5) then
 r_single_235 N (r_single_184 N n) σ x1 x3 x5 x7 v121 (el σ 51 x7)
 else
 r_single_235 N (r_single_184 N n) σ x1 x3 x5 x7 v121 ((x3 + 1) * x5)))))
 else
 grd (inb x1 70) (
 Option.bind (r_sort N σ (el σ 38 x1)) (fun r118 =>
 some (r118, 0)))))
def r_single (N : Nat) (σ : St) (x1 : Int) (x2 : Int) (x3 : Int) : Option (St × Int) := grd (inb x1 70) (
 grd (i32 (el σ 40 x1)) (
 if (el σ 40 x1) = 0 then
 grd (inb x2 103000) (
 grd (i32 (el σ 70 x2)) (
 if (el σ 70 x2) = 13 then
 grd (i32 (el σ 69 x2)) (
 Option.bind (r_mod N x3 (el σ 69 x2)) (fun r110 =>
 grd (i64 r110) (
 if r110 = 0 then
 r_single_82 N σ x1 x3 1
 else
 r_single_82 N σ x1 x3 0)))
 else
 if (el σ 70 x2) = 14 then
 grd (i32 (el σ 69 x2)) (
 Option.bind (r_mod N x3 (el σ 69 x2)) (fun r103 =>
 grd (i32 (el σ 68 x2)) (
 grd (i64 r103) (
 grd (i64 (el σ 68 x2)) (
 if r103 < (el σ 68 x2) then
 r_single_81 N σ x1 x3
 else
 r_single_82 N σ x1 x3 1)))))
 else
 r_single_81 N σ x1 x3))
 else
 grd (inb x2 103000) (
 grd (i32 (el σ 63 x2)) (
 bnd (el σ 63 x2) (fun v6 =>
 grd (i32 (el σ 70 x2)) (
 if (el σ 70 x2) = 12 then
 bnd (el σ 38 x1) (fun v10 =>
 r_single_184 N N σ x1 x3 v6 v10)
 else (if (el σ 70 x2) = 13 then
 Option.bind (r_grainOf N σ x1) (fun r13 =>
 grd (i64 v6) (
 grd (i64 r13.2) (
 grd (¬ r13.2 = 0) (
 Option.bind (r_move N r13.1 (el σ 38 x1) (Int.tdiv v6 r13.2) 0) (fun r18 =>
 some (r18, 0))))))
 else (if (el σ 70 x2) = 14 then
 Option.bind (r_grainOf N σ x1) (fun r21 =>
 grd (i64 v6) (
 grd (i64 r21.2) (
 grd (¬ r21.2 = 0) (
 Option.bind (r_move N r21.1 (el σ 38 x1) (Int.tdiv v6 r21.2) 0) (fun r26 =>
 some (r26, 0))))))
 else (if (el σ 70 x2) = 15 then
 Option.bind (r_grainOf N σ x1) (fun r29 =>
 grd (i64 v6) (
 grd (i64 r29.2) (
 grd (¬ r29.2 = 0) (
 Option.bind (r_move N r29.1 (el σ 38 x1) (Int.tdiv v6 r29.2) 0) (fun r34 =>
 some (r34, 0))))))
 else (if (el σ 70 x2) = 16 then
 Option.bind (r_grainOf N σ x1) (fun r37 =>
 grd (i64 v6) (
 grd (i64 r37.2) (
 grd (¬ r37.2 = 0) (
 Option.bind (r_move N r37.1 (el σ 38 x1) (Int.tdiv v6 r37.2) 0) (fun r42 =>
 some (r42, 0))))))
 else (if (el σ 70 x2) = 17 then
 Option.bind (r_grainOf N σ x1) (fun r45 =>
 grd (i64 v6) (
 grd (i64 r45.2) (
 grd (¬ r45.2 = 0) (
 Option.bind (r_move N r45.1 (el σ 38 x1) (Int.tdiv v6 r45.2) 0) (fun r50 =>
 some (r50, 0))))))
 else (if (el σ 70 x2) = 18 then
 Option.bind (r_grainOf N σ x1) (fun r53 =>
 grd (i64 v6) (
 grd (i64 r53.2) (
 grd (¬ r53.2 = 0) (
 Option.bind (r_move N r53.1 (el σ 38 x1) (Int.tdiv v6 r53.2) 0) (fun r58 =>
 some (r58, 0))))))
 else (if (el σ 70 x2) = 19 then
 Option.bind (r_rotate N σ (el σ 38 x1) (el σ 69 x2)) (fun r61 =>
 some (r61, 0))
 else (if (el σ 70 x2) = 20 then
 Option.bind (r_spanAbove N σ x2) (fun r64 =>
 grd (i32 r64.2) (
 Option.bind (r_spanBelow N r64.1 x2) (fun r67 =>
 grd (i32 r67.2) (
 Option.bind (r_grainOf N r67.1 x1) (fun r70 =>
 grd (i64 v6) (
 grd (i64 (r67.2 * r70.2)) (
 grd (¬ (r67.2 * r70.2) = 0) (
 bnd (r64.2 * (Int.tdiv v6 (r67.2 * r70.2))) (fun v75 =>
 grd (i32 (el r70.1 69 x2)) (
 grd (i32 (el r70.1 68 x2)) (
 grd (i64 (el r70.1 68 x2)) (
 grd (¬ (el r70.1 68 x2) = 0) (
 Option.bind (r_grainOf N r70.1 x1) (fun r81 =>
 Option.bind (r_move N r81.1 (el r70.1 38 x1) v75 (((x3 * v6) + ((el r70.1 69 x2) * (Int.tdiv v6 (el r70.1 68 x2)))) - ((x3 * r81.2) * v75))) (fun r83 =>
 some (r83, 0))))))))))))))))
 else (if (el σ 70 x2) = 21 then
 Option.bind (r_draw N σ x1 x2 x3) (fun r86 =>
 some (r86, 0))
 else (if (el σ 70 x2) = 22 then
 Option.bind (r_draw N σ x1 x2 x3) (fun r89 =>
 some (r89, 0))
 else (Option.bind (r_grainOf N σ x1) (fun r91 =>
 grd (i64 v6) (
 grd (i64 r91.2) (
 grd (¬ r91.2 = 0) (
 Option.bind (r_move N r91.1 (el σ 38 x1) (Int.tdiv v6 r91.2) 0) (fun r96 =>
 some (r96, 0)))))))))))))))))))))))
def r_isLoud_16 (N : Nat)   : Option Int := some 1
def r_isLoud (N : Nat) (x0 : Int) (x1 : Int) : Option Int := grd (i32 (iand x0 1)) (
 if (iand x0 1) = 1 then
 r_isLoud_16 N
 else
 grd (i32 x0) (
 if x0 = 2 then
 grd (i32 x1) (
 if x1 = 0 then
 some 0
 else
 r_isLoud_16 N)
 else
 some 0))
def r_beginSounds_75 (N : Nat) (rec15 : St → Int → Int → Int → Option St) (σ : St) (x2 : Int) (x3 : Int) (x4 : Int) : Option St := rec15 σ x2 x3 (x4 + 1)
def r_beginSounds_58 (N : Nat) (rec15 : St → Int → Int → Int → Option St) (σ : St) (x2 : Int) (x3 : Int) (x4 : Int) : Option St := Option.bind (r_copy N σ x4 x3) (fun r17 =>
 grd (inb x3 30000) (
 r_beginSounds_75 N rec15 (se r17 46 x3 (-1)) x2 (x3 + 1) x4))
def r_beginSounds_15 (N : Nat)  : Nat → St → Int → Int → Int → Option St
  | 0, _, _, _, _ => none
  | n + 1, σ, x2, x3, x4 => grd (i32 x4) (
 grd (i32 (fl σ 84 0)) (
 if x4 < (fl σ 84 0) then
 grd (inb x2 103000) (
 grd (i32 (el σ 70 x2)) (
 if (el σ 70 x2) = 23 then
 grd (inb x4 30000) (
 Option.bind (r_isLoud N (el σ 47 x4) (el σ 48 x4)) (fun r13 =>
 grd (i32 r13) (
 if r13 = 0 then
 r_beginSounds_75 N (r_beginSounds_15 N n) σ x2 x3 x4
 else
 r_beginSounds_58 N (r_beginSounds_15 N n) σ x2 x3 x4)))
 else
 r_beginSounds_58 N (r_beginSounds_15 N n) σ x2 x3 x4))
 else
 some (sf σ 84 0 x3)))
def r_beginSounds (N : Nat) (σ : St) (x1 : Int) (x2 : Int) : Option St := grd (inb x1 70) (
 bnd (el σ 39 x1) (fun v2 =>
 bnd (el σ 39 x1) (fun v4 =>
 r_beginSounds_15 N N σ x2 v2 v4)))
def r_takes_147 (N : Nat)  (σ : St) (s0 : Int) (s1 : Int) : Option St := grd (inb s1 30000) (
 some (se σ 47 s1 s0))
def r_takes_116 (N : Nat)  (σ : St) (x1 : Int) (x2 : Int) : Option St := grd (i32 x2) (
 if x2 = 0 then
 grd (inb x1 30000) (
 r_takes_147 N σ (ior (el σ 47 x1) (el σ 46 x1)) x1)
 else
 grd (inb x1 30000) (
 r_takes_147 N σ (el σ 46 x1) x1))
def r_takes_115 (N : Nat)  (σ : St) (x1 : Int) (x2 : Int) (s0 : Int) (s1 : Int) : Option St := grd (inb s1 30000) (
 r_takes_116 N (se σ 48 s1 s0) x1 x2)
def r_takes_88 (N : Nat)  (σ : St) (x1 : Int) (x2 : Int) : Option St := grd (inb x1 30000) (
 grd (i32 (iand (el σ 46 x1) 2)) (
 if (iand (el σ 46 x1) 2) = 2 then
 r_takes_115 N σ x1 x2 (el σ 43 x1) x1
 else
 r_takes_115 N σ x1 x2 0 x1))
def r_takes_72 (N : Nat)  (σ : St) (x1 : Int) (x2 : Int) : Option St := grd (inb x1 30000) (
 grd (i32 (iand (el σ 46 x1) 2)) (
 if (iand (el σ 46 x1) 2) = 2 then
 r_takes_88 N σ x1 x2
 else
 grd (i32 x2) (
 if x2 = 0 then
 r_takes_116 N σ x1 x2
 else
 r_takes_88 N σ x1 x2)))
def r_takes_71 (N : Nat)  (σ : St) (x1 : Int) (x2 : Int) (s0 : Int) (s1 : Int) : Option St := grd (inb s1 30000) (
 r_takes_72 N (se σ 49 s1 s0) x1 x2)
def r_takes_43 (N : Nat)  (σ : St) (x1 : Int) (x2 : Int) (s0 : Int) (s1 : Int) : Option St := grd (inb s1 30000) (
 grd (inb x1 30000) (
 grd (i32 (iand (el σ 46 x1) 1)) (
 if (iand (el σ 46 x1) 1) = 1 then
 r_takes_71 N (se σ 50 s1 s0) x1 x2 (el σ 44 x1) x1
 else
 r_takes_71 N (se σ 50 s1 s0) x1 x2 0 x1)))
def r_takes_16 (N : Nat)  (σ : St) (x1 : Int) (x2 : Int) : Option St := grd (inb x1 30000) (
 grd (i32 (iand (el σ 46 x1) 1)) (
 if (iand (el σ 46 x1) 1) = 1 then
 r_takes_43 N σ x1 x2 (el σ 45 x1) x1
 else
 r_takes_43 N σ x1 x2 0 x1))
def r_takes (N : Nat) (σ : St) (x1 : Int) (x2 : Int) : Option St := grd (inb x1 30000) (
 grd (i32 (iand (el σ 46 x1) 1)) (
 if (iand (el σ 46 x1) 1) = 1 then
 r_takes_16 N σ x1 x2
 else
 grd (i32 x2) (
 if x2 = 0 then
 r_takes_72 N σ x1 x2
 else
 r_takes_16 N σ x1 x2)))
def r_endSounds_286 (N : Nat) (rec15 : St → Int → Int → Int → Option St) (σ : St) (x2 : Int) (x3 : Int) (x4 : Int) : Option St := rec15 σ x2 x3 (x4 + 1)
def r_endSounds_276 (N : Nat) (rec15 : St → Int → Int → Int → Option St) (σ : St) (x2 : Int) (x3 : Int) (x4 : Int) : Option St := Option.bind (r_copy N σ x4 x3) (fun r51 =>
 r_endSounds_286 N rec15 r51 x2 (x3 + 1) x4)
def r_endSounds_153 (N : Nat) (rec15 : St → Int → Int → Int → Option St) (σ : St) (x2 : Int) (x3 : Int) (x4 : Int) (s0 : Int) (s1 : Int) : Option St := Option.bind (r_takes N σ s1 s0) (fun r49 =>
 r_endSounds_276 N rec15 r49 x2 x3 x4)
def r_endSounds_134 (N : Nat) (rec15 : St → Int → Int → Int → Option St) (σ : St) (x2 : Int) (x3 : Int) (x4 : Int) : Option St := grd (inb x2 103000) (
 grd (i32 (el σ 70 x2)) (
 if (el σ 70 x2) = 23 then
 r_endSounds_153 N rec15 σ x2 x3 x4 1 x4
 else
 r_endSounds_153 N rec15 σ x2 x3 x4 0 x4))
def r_endSounds_275 (N : Nat) (rec15 : St → Int → Int → Int → Option St) (σ : St) (x2 : Int) (x3 : Int) (x4 : Int) (s0 : Int) (s1 : Int) : Option St := grd (inb s1 30000) (
 r_endSounds_276 N rec15 (se σ 48 s1 (w32 s0)) x2 x3 x4)
def r_endSounds_159 (N : Nat) (rec15 : St → Int → Int → Int → Option St) (σ : St) (x2 : Int) (x3 : Int) (x4 : Int) (x5 : Int) : Option St := grd (inb x2 103000) (
 grd (i32 (el σ 70 x2)) (
 if (el σ 70 x2) = 25 then
 grd (i32 x5) (
 if x5 = 0 then
 r_endSounds_276 N rec15 σ x2 x3 x4
 else
 grd (inb x4 30000) (
 grd (i32 (iand (iand (el σ 47 x4) (el σ 46 x4)) 2)) (
 if (iand (iand (el σ 47 x4) (el σ 46 x4)) 2) = 2 then
 grd (i32 (el σ 69 x2)) (
 if (el σ 69 x2) = 43 then
 r_endSounds_275 N rec15 σ x2 x3 x4 ((el σ 48 x4) + (el σ 43 x4)) x4
 else
 if (el σ 69 x2) = 45 then
 r_endSounds_275 N rec15 σ x2 x3 x4 ((el σ 48 x4) - (el σ 43 x4)) x4
 else
 r_endSounds_275 N rec15 σ x2 x3 x4 ((el σ 48 x4) * (el σ 43 x4)) x4)
 else
 r_endSounds_276 N rec15 σ x2 x3 x4)))
 else
 r_endSounds_276 N rec15 σ x2 x3 x4))
def r_endSounds_96 (N : Nat) (rec15 : St → Int → Int → Int → Option St) (σ : St) (x2 : Int) (x3 : Int) (x4 : Int) (x5 : Int) : Option St := grd (inb x2 103000) (
 grd (i32 (el σ 70 x2)) (
 if (el σ 70 x2) = 23 then
 r_endSounds_134 N rec15 σ x2 x3 x4
 else
 if (el σ 70 x2) = 25 then
 grd (i32 (el σ 69 x2)) (
 if (el σ 69 x2) = 35 then
 grd (i32 x5) (
 if x5 = 0 then
 r_endSounds_159 N rec15 σ x2 x3 x4 x5
 else
 r_endSounds_134 N rec15 σ x2 x3 x4)
 else
 r_endSounds_159 N rec15 σ x2 x3 x4 x5)
 else
 r_endSounds_159 N rec15 σ x2 x3 x4 x5))
def r_endSounds_57 (N : Nat) (rec15 : St → Int → Int → Int → Option St) (σ : St) (x2 : Int) (x3 : Int) (x4 : Int) (x5 : Int) : Option St := grd (inb x2 103000) (
 grd (i32 (el σ 70 x2)) (
 if (el σ 70 x2) = 24 then
 grd (i32 x5) (
 if x5 = 0 then
 r_endSounds_286 N rec15 σ x2 x3 x4
 else
 grd (inb x4 30000) (
 Option.bind (r_isLoud N (el σ 46 x4) (el σ 43 x4)) (fun r23 =>
 grd (i32 r23) (
 if r23 = 0 then
 r_endSounds_286 N rec15 σ x2 x3 x4
 else
 r_endSounds_96 N rec15 σ x2 x3 x4 x5))))
 else
 r_endSounds_96 N rec15 σ x2 x3 x4 x5))
def r_endSounds_39 (N : Nat) (rec15 : St → Int → Int → Int → Option St) (σ : St) (x2 : Int) (x3 : Int) (x4 : Int) (s0 : Int) : Option St := grd (inb x2 103000) (
 grd (i32 (el σ 70 x2)) (
 if (el σ 70 x2) = 23 then
 grd (i32 s0) (
 if s0 = 0 then
 r_endSounds_286 N rec15 σ x2 x3 x4
 else
 r_endSounds_57 N rec15 σ x2 x3 x4 s0)
 else
 r_endSounds_57 N rec15 σ x2 x3 x4 s0))
def r_endSounds_15 (N : Nat)  : Nat → St → Int → Int → Int → Option St
  | 0, _, _, _, _ => none
  | n + 1, σ, x2, x3, x4 => grd (i32 x4) (
 grd (i32 (fl σ 84 0)) (
 if x4 < (fl σ 84 0) then
 grd (inb x4 30000) (
 grd (i32 (el σ 46 x4)) (
 if (el σ 46 x4) < 0 then
 r_endSounds_39 N (r_endSounds_15 N n) σ x2 x3 x4 0
 else
 r_endSounds_39 N (r_endSounds_15 N n) σ x2 x3 x4 1))
 else
 some (sf σ 84 0 x3)))
def r_endSounds (N : Nat) (σ : St) (x1 : Int) (x2 : Int) : Option St := grd (inb x1 70) (
 bnd (el σ 39 x1) (fun v2 =>
 bnd (el σ 39 x1) (fun v4 =>
 r_endSounds_15 N N σ x2 v2 v4)))
def r_find_211 (N : Nat) (rec53 : St → Int → Int → Int → Int → Int → Int → Option St) (σ : St) (x3 : Int) (x5 : Int) (x7 : Int) (x9 : Int) (x11 : Int) (x12 : Int) : Option St := rec53 σ x3 x5 x7 x9 x11 (x12 + 1)
def r_find_139 (N : Nat) (rec53 : St → Int → Int → Int → Int → Int → Int → Option St) (rec96 : St → Int → Int → Int → Int → Int → Int → Int → Int → Option St) (σ : St) (x3 : Int) (x5 : Int) (x7 : Int) (x9 : Int) (x11 : Int) (x12 : Int) (x13 : Int) (x15 : Int) : Option St := rec96 σ x3 x5 x7 x9 x11 x12 x13 (x15 + (-1))
def r_find_145 (N : Nat) (rec53 : St → Int → Int → Int → Int → Int → Int → Option St) (σ : St) (x3 : Int) (x5 : Int) (x7 : Int) (x9 : Int) (x11 : Int) (x12 : Int) (x15 : Int) : Option St := grd (i32 x15) (
 grd (i32 x11) (
 if x15 < x11 then
 r_find_211 N rec53 σ x3 x5 x7 x9 x11 x12
 else
 grd (inb x15 30000) (
 grd (inb x12 30000) (
 r_find_211 N rec53 (se (se (se (se σ 46 x12 (el σ 47 x15)) 45 x12 (el σ 50 x15)) 44 x12 (el σ 49 x15)) 43 x12 (el σ 48 x15)) x3 x5 x7 x9 x11 x12))))
def r_find_96 (N : Nat) (rec53 : St → Int → Int → Int → Int → Int → Int → Option St) : Nat → St → Int → Int → Int → Int → Int → Int → Int → Int → Option St
  | 0, _, _, _, _, _, _, _, _, _ => none
  | n + 1, σ, x3, x5, x7, x9, x11, x12, x13, x15 => grd (i32 x15) (
 grd (i32 x11) (
 if x15 < x11 then
 r_find_145 N rec53 σ x3 x5 x7 x9 x11 x12 x15
 else
 grd (inb x15 30000) (
 grd (i64 (((el σ 52 x15) - x9) * x3)) (
 grd (i64 x13) (
 if x13 < (((el σ 52 x15) - x9) * x3) then
 r_find_139 N rec53 (r_find_96 N rec53 n) σ x3 x5 x7 x9 x11 x12 x13 x15
 else
 grd (i64 (((el σ 51 x15) - x9) * x3)) (
 if x13 < (((el σ 51 x15) - x9) * x3) then
 r_find_145 N rec53 σ x3 x5 x7 x9 x11 x12 x15
 else
 r_find_139 N rec53 (r_find_96 N rec53 n) σ x3 x5 x7 x9 x11 x12 x13 x15))))))
def r_find_53 (N : Nat)  : Nat → St → Int → Int → Int → Int → Int → Int → Option St
  | 0, _, _, _, _, _, _, _ => none
  | n + 1, σ, x3, x5, x7, x9, x11, x12 => grd (i32 x12) (
 grd (i32 x11) (
 if x12 < x11 then
 grd (inb x12 30000) (
 grd (i32 (el σ 46 x12)) (
 if (el σ 46 x12) < 0 then
 bnd (((el σ 52 x12) - x7) * x5) (fun v22 =>
 bnd ((fl σ 84 0) - 1) (fun v24 =>
 r_find_96 N (r_find_53 N n) N σ x3 x5 x7 x9 x11 x12 v22 v24))
 else
 r_find_211 N (r_find_53 N n) σ x3 x5 x7 x9 x11 x12))
 else
 some σ))
def r_find (N : Nat) (σ : St) (x1 : Int) (x2 : Int) : Option St := grd (inb x2 103000) (
 grd (i32 (el σ 63 x2)) (
 bnd (el σ 63 x2) (fun v3 =>
 Option.bind (r_grainOf N σ x1) (fun r5 =>
 grd (inb x1 70) (
 bnd ((el r5.1 41 x1) * v3) (fun v8 =>
 bnd ((el r5.1 41 x1) * r5.2) (fun v10 =>
 bnd (el r5.1 35 x1) (fun v12 =>
 bnd (el r5.1 39 x1) (fun v14 =>
 r_find_53 N N r5.1 v3 r5.2 v8 v10 v12 v14)))))))))
def r_sounds_188 (N : Nat) (rec159 : St → Int → Int → Int → Int → Int → Option (St × Int)) (σ : St) (x1 : Int) (x2 : Int) (x5 : Int) (x7 : Int) (s0 : Int) : Option (St × Int) := rec159 σ x1 x2 x5 s0 (x7 + 1)
def r_sounds_234 (N : Nat)  (σ : St) (x1 : Int) (x2 : Int) : Option (St × Int) := Option.bind (r_endSounds N σ x1 x2) (fun r43 =>
 some (r43, 0))
def r_sounds_196 (N : Nat)  (σ : St) (x1 : Int) (x2 : Int) (x5 : Int) (x6 : Int) : Option (St × Int) := grd (i32 x6) (
 if x6 = 0 then
 r_sounds_234 N σ x1 x2
 else
 grd (inb x1 70) (
 grd (i64 (el σ 34 x1)) (
 grd (i64 (el σ 33 x1)) (
 if (el σ 34 x1) < (el σ 33 x1) then
 r_sounds_234 N σ x1 x2
 else
 Option.bind (r_callKid N σ x1 (1 - x5) (el σ 34 x1)) (fun r41 =>
 some (r41, 1))))))
def r_sounds_159 (N : Nat)  : Nat → St → Int → Int → Int → Int → Int → Option (St × Int)
  | 0, _, _, _, _, _, _ => none
  | n + 1, σ, x1, x2, x5, x6, x7 => grd (i32 x7) (
 grd (i32 (fl σ 84 0)) (
 if x7 < (fl σ 84 0) then
 grd (i32 x6) (
 if x6 = 0 then
 grd (inb x7 30000) (
 grd (i32 (el σ 46 x7)) (
 if (el σ 46 x7) < 0 then
 r_sounds_188 N (r_sounds_159 N n) σ x1 x2 x5 x7 1
 else
 r_sounds_188 N (r_sounds_159 N n) σ x1 x2 x5 x7 0))
 else
 r_sounds_196 N σ x1 x2 x5 x6)
 else
 r_sounds_196 N σ x1 x2 x5 x6))
def r_sounds_148 (N : Nat)  (σ : St) (x1 : Int) (x2 : Int) (x5 : Int) : Option (St × Int) := grd (inb x1 70) (
 bnd (el σ 39 x1) (fun v25 =>
 r_sounds_159 N N σ x1 x2 x5 0 v25))
def r_sounds_121 (N : Nat)  (σ : St) (x1 : Int) (x2 : Int) (x5 : Int) : Option (St × Int) := Option.bind (r_find N σ x1 x2) (fun r21 =>
 grd (inb x1 70) (
 r_sounds_148 N (se (sf r21 84 0 (el r21 35 x1)) 34 x1 ((el r21 34 x1) - 1)) x1 x2 x5))
def r_sounds_16 (N : Nat)  (σ : St) (x1 : Int) (x2 : Int) (x3 : Int) (s0 : Int) : Option (St × Int) := grd (inb x1 70) (
 grd (i32 (el σ 40 x1)) (
 if (el σ 40 x1) = 0 then
 Option.bind (r_callKid N σ x1 s0 x3) (fun r19 =>
 some (r19, 1))
 else
 grd (i32 (el σ 37 x1)) (
 grd (i32 s0) (
 if (el σ 37 x1) = s0 then
 grd (i32 (el σ 36 x1)) (
 if (el σ 36 x1) = 0 then
 Option.bind (r_beginSounds N σ x1 x2) (fun r12 =>
 grd (inb x2 103000) (
 grd (inb (((el r12 65 x2) + 1) - s0) 210000) (
 grd (inb (el r12 58 (((el r12 65 x2) + 1) - s0)) 103000) (
 grd (i32 (el r12 61 (el r12 58 (((el r12 65 x2) + 1) - s0)))) (
 grd (i32 (fl r12 84 0)) (
 r_sounds_148 N (se (se (se (se r12 34 x1 x3) 33 x1 (x3 - (el r12 61 (el r12 58 (((el r12 65 x2) + 1) - s0))))) 36 x1 1) 35 x1 (fl r12 84 0)) x1 x2 s0))))))
 else
 r_sounds_121 N σ x1 x2 s0)
 else
 r_sounds_121 N σ x1 x2 s0))))
def r_sounds (N : Nat) (σ : St) (x1 : Int) (x2 : Int) (x3 : Int) : Option (St × Int) := grd (inb x2 103000) (
 grd (i32 (el σ 70 x2)) (
 if (el σ 70 x2) = 24 then
 r_sounds_16 N σ x1 x2 x3 1
 else
 r_sounds_16 N σ x1 x2 x3 0))
def r_spreads_152 (N : Nat)  (σ : St) (x1 : Int) (x3 : Int) (x5 : Int) : Option (St × Int) := grd (inb x1 70) (
 grd (i32 (el σ 36 x1)) (
 grd (i32 x5) (
 if (el σ 36 x1) = x5 then
 some (σ, 0)
 else
 Option.bind (r_callKid N σ x1 0 x3) (fun r41 =>
 some (r41, 1)))))
def r_spreads_93 (N : Nat)  : Nat → St → Int → Int → Int → Int → Option (St × Int)
  | 0, _, _, _, _, _ => none
  | n + 1, σ, x1, x2, x3, x5 => grd (inb x1 70) (
 grd (i32 (el σ 36 x1)) (
 grd (i32 x5) (
 if (el σ 36 x1) < x5 then
 grd (inb x2 103000) (
 grd (i32 ((el σ 36 x1) + (el σ 67 x2))) (
 grd (¬ x5 = 0) (
 grd (i32 ((Int.tmod ((el σ 36 x1) + (el σ 67 x2)) x5) * (el σ 69 x2))) (
 grd (i32 (Int.tmod ((Int.tmod ((el σ 36 x1) + (el σ 67 x2)) x5) * (el σ 69 x2)) x5)) (
 grd (i32 (el σ 69 x2)) (
 if (Int.tmod ((Int.tmod ((el σ 36 x1) + (el σ 67 x2)) x5) * (el σ 69 x2)) x5) < (el σ 69 x2) then
 r_spreads_152 N σ x1 x3 x5
 else
 (r_spreads_93 N n) (se σ 36 x1 ((el σ 36 x1) + 1)) x1 x2 x3 x5))))))
 else
 r_spreads_152 N σ x1 x3 x5)))
def r_spreads (N : Nat) (σ : St) (x1 : Int) (x2 : Int) (x3 : Int) : Option (St × Int) := grd (inb x2 103000) (
 bnd (el σ 68 x2) (fun v2 =>
 grd (i32 (el σ 63 x2)) (
 grd (i32 v2) (
 grd (¬ v2 = 0) (
 grd (i32 (Int.tdiv (el σ 63 x2) v2)) (
 bnd (Int.tdiv (el σ 63 x2) v2) (fun v8 =>
 grd (inb x1 70) (
 grd (i32 (el σ 40 x1)) (
 if (el σ 40 x1) = 1 then
 Option.bind (r_grainOf N σ x1) (fun r13 =>
 grd (i64 v8) (
 grd (i64 r13.2) (
 grd (¬ r13.2 = 0) (
 bnd (Int.tdiv v8 r13.2) (fun v18 =>
 grd (i32 (el r13.1 63 x2)) (
 grd (i32 (el r13.1 36 x1)) (
 Option.bind (r_grainOf N r13.1 x1) (fun r22 =>
 Option.bind (r_move N r22.1 (el r13.1 38 x1) v18 (((x3 * (el r13.1 63 x2)) + ((el r13.1 36 x1) * v8)) - ((x3 * r22.2) * v18))) (fun r24 =>
 r_spreads_93 N N (se r24 36 x1 ((el r24 36 x1) + 1)) x1 x2 x3 v2)))))))))
 else
 r_spreads_93 N N σ x1 x2 x3 v2)))))))))
def r_together_44 (N : Nat)  (σ : St) (x1 : Int) (x2 : Int) (x3 : Int) : Option (St × Int) := grd (inb x1 70) (
 grd (inb x2 103000) (
 grd (i32 (el σ 37 x1)) (
 grd (i32 (el σ 64 x2)) (
 if (el σ 37 x1) < (el σ 64 x2) then
 Option.bind (r_callKid N σ x1 (el σ 37 x1) x3) (fun r20 =>
 some (r20, 1))
 else
 Option.bind (r_sort N σ (el σ 39 x1)) (fun r18 =>
 some (r18, 0))))))
def r_together (N : Nat) (σ : St) (x1 : Int) (x2 : Int) (x3 : Int) : Option (St × Int) := grd (inb x1 70) (
 grd (i32 (el σ 40 x1)) (
 if (el σ 40 x1) = 1 then
 grd (inb x2 103000) (
 grd (i32 (el σ 63 x2)) (
 Option.bind (r_grainOf N σ x1) (fun r6 =>
 grd (i64 (el σ 63 x2)) (
 grd (i64 r6.2) (
 grd (¬ r6.2 = 0) (
 Option.bind (r_move N r6.1 (el σ 38 x1) (Int.tdiv (el σ 63 x2) r6.2) 0) (fun r11 =>
 r_together_44 N (se r11 37 x1 ((el r11 37 x1) + 1)) x1 x2 x3)))))))
 else
 r_together_44 N σ x1 x2 x3))
def r_turn (N : Nat) (σ : St) (x1 : Int) (x2 : Int) (x3 : Int) : Option (St × Int) := grd (inb x1 70) (
 grd (i32 (el σ 40 x1)) (
 if (el σ 40 x1) = 0 then
 Option.bind (r_weights N σ x2) (fun r16 =>
 Option.bind (r_div N x3 r16.2) (fun r18 =>
 Option.bind (r_mod N x3 r16.2) (fun r20 =>
 bnd (se r16.1 34 x1 r18) (fun σ22 =>
 Option.bind (r_kidAt N σ22 x2 r20) (fun r24 =>
 Option.bind (r_callKid N r24.1 x1 r24.2 (el r24.1 34 x1)) (fun r26 =>
 some (r26, 1)))))))
 else
 grd (inb x2 103000) (
 grd (i32 (el σ 63 x2)) (
 Option.bind (r_grainOf N σ x1) (fun r6 =>
 grd (i64 (el σ 63 x2)) (
 grd (i64 r6.2) (
 grd (¬ r6.2 = 0) (
 bnd (Int.tdiv (el σ 63 x2) r6.2) (fun v11 =>
 grd (i32 (el r6.1 63 x2)) (
 Option.bind (r_move N r6.1 (el r6.1 38 x1) v11 ((x3 - (el r6.1 34 x1)) * (el r6.1 63 x2))) (fun r14 =>
 some (r14, 0))))))))))))
def r_window_211 (N : Nat) (rec53 : St → Int → Int → Int → Int → Int → Int → Int → Option St) (σ : St) (x2 : Int) (x3 : Int) (x5 : Int) (x6 : Int) (x8 : Int) (x10 : Int) (x11 : Int) : Option St := rec53 σ x2 x3 x5 x6 x8 x10 (x11 + 1)
def r_window_188 (N : Nat) (rec53 : St → Int → Int → Int → Int → Int → Int → Int → Option St) (σ : St) (x2 : Int) (x3 : Int) (x5 : Int) (x6 : Int) (x8 : Int) (x10 : Int) (x11 : Int) (s0 : Int) : Option St := grd (i32 s0) (
 grd (i32 x5) (
 if s0 = x5 then
 Option.bind (r_copy N σ x11 x10) (fun r43 =>
 r_window_211 N rec53 r43 x2 x3 x5 x6 x8 (x10 + 1) x11)
 else
 r_window_211 N rec53 σ x2 x3 x5 x6 x8 x10 x11))
def r_window_131 (N : Nat) (rec53 : St → Int → Int → Int → Int → Int → Int → Int → Option St) (σ : St) (x2 : Int) (x3 : Int) (x5 : Int) (x6 : Int) (x8 : Int) (x10 : Int) (x11 : Int) : Option St := r_window_188 N rec53 σ x2 x3 x5 x6 x8 x10 x11 0
def r_window_187 (N : Nat) (rec53 : St → Int → Int → Int → Int → Int → Int → Int → Option St) (σ : St) (x2 : Int) (x3 : Int) (x5 : Int) (x6 : Int) (x8 : Int) (x10 : Int) (x11 : Int) : Option St := r_window_188 N rec53 σ x2 x3 x5 x6 x8 x10 x11 0
def r_window_53 (N : Nat)  : Nat → St → Int → Int → Int → Int → Int → Int → Int → Option St
  | 0, _, _, _, _, _, _, _, _ => none
  | n + 1, σ, x2, x3, x5, x6, x8, x10, x11 => grd (i32 x11) (
 grd (i32 (fl σ 84 0)) (
 if x11 < (fl σ 84 0) then
 grd (inb x11 30000) (
 bnd ((el σ 52 x11) - (x3 * x6)) (fun v19 =>
 grd (inb x2 103000) (
 grd (i32 (el σ 70 x2)) (
 if (el σ 70 x2) = 15 then
 grd (i32 (el σ 69 x2)) (
 grd (i64 (v19 * (el σ 69 x2))) (
 grd (i64 (x8 * x6)) (
 if (v19 * (el σ 69 x2)) < (x8 * x6) then
 r_window_131 N (r_window_53 N n) σ x2 x3 x5 x6 x8 x10 x11
 else
 grd (i64 ((x8 + 1) * x6)) (
 if (v19 * (el σ 69 x2)) < ((x8 + 1) * x6) then
 r_window_188 N (r_window_53 N n) σ x2 x3 x5 x6 x8 x10 x11 1
 else
 r_window_131 N (r_window_53 N n) σ x2 x3 x5 x6 x8 x10 x11))))
 else
 grd (i32 (el σ 68 x2)) (
 grd (i32 (el σ 69 x2)) (
 grd (i64 (v19 * (el σ 68 x2))) (
 grd (i64 ((el σ 69 x2) * x6)) (
 if (v19 * (el σ 68 x2)) < ((el σ 69 x2) * x6) then
 r_window_187 N (r_window_53 N n) σ x2 x3 x5 x6 x8 x10 x11
 else
 grd (i32 (el σ 66 x2)) (
 grd (i32 (el σ 67 x2)) (
 grd (i64 (v19 * (el σ 66 x2))) (
 grd (i64 ((el σ 67 x2) * x6)) (
 if (v19 * (el σ 66 x2)) < ((el σ 67 x2) * x6) then
 r_window_188 N (r_window_53 N n) σ x2 x3 x5 x6 x8 x10 x11 1
 else
 r_window_187 N (r_window_53 N n) σ x2 x3 x5 x6 x8 x10 x11))))))))))))
 else
 some (sf σ 84 0 x10)))
def r_window_35 (N : Nat)  (σ : St) (x1 : Int) (x2 : Int) (x3 : Int) (x5 : Int) (x6 : Int) (s0 : Int) : Option St := grd (inb x1 70) (
 bnd (el σ 38 x1) (fun v11 =>
 bnd (el σ 38 x1) (fun v13 =>
 r_window_53 N N σ x2 x3 x5 x6 s0 v11 v13)))
def r_window (N : Nat) (σ : St) (x1 : Int) (x2 : Int) (x3 : Int) (x5 : Int) : Option St := grd (inb x2 103000) (
 grd (i32 (el σ 63 x2)) (
 bnd (el σ 63 x2) (fun v3 =>
 grd (i32 (el σ 70 x2)) (
 if (el σ 70 x2) = 15 then
 grd (i32 (el σ 69 x2)) (
 Option.bind (r_mod N x3 (el σ 69 x2)) (fun r8 =>
 r_window_35 N σ x1 x2 x3 x5 v3 r8))
 else
 r_window_35 N σ x1 x2 x3 x5 v3 0))))
def r_windows_61 (N : Nat)  (σ : St) (x1 : Int) (x3 : Int) (s0 : Int) (s1 : Int) (s2 : Int) (s3 : Int) : Option (St × Int) := Option.bind (r_window N σ s3 s2 s1 s0) (fun r17 =>
 grd (inb x1 70) (
 grd (i32 (el r17 37 x1)) (
 if (el r17 37 x1) = 0 then
 Option.bind (r_callKid N r17 x1 1 x3) (fun r24 =>
 some (r24, 1))
 else
 Option.bind (r_sort N r17 (el r17 39 x1)) (fun r22 =>
 some (r22, 0)))))
def r_windows (N : Nat) (σ : St) (x1 : Int) (x2 : Int) (x3 : Int) : Option (St × Int) := grd (inb x1 70) (
 grd (i32 (el σ 40 x1)) (
 if (el σ 40 x1) = 0 then
 Option.bind (r_callKid N σ x1 0 x3) (fun r15 =>
 some (r15, 1))
 else
 grd (inb x2 103000) (
 grd (i32 (el σ 63 x2)) (
 Option.bind (r_grainOf N σ x1) (fun r6 =>
 grd (i64 (el σ 63 x2)) (
 grd (i64 r6.2) (
 grd (¬ r6.2 = 0) (
 Option.bind (r_move N r6.1 (el σ 38 x1) (Int.tdiv (el σ 63 x2) r6.2) 0) (fun r11 =>
 grd (i32 (el r11 37 x1)) (
 if (el r11 37 x1) = 1 then
 r_windows_61 N r11 x1 x3 1 x3 x2 x1
 else
 r_windows_61 N r11 x1 x3 0 x3 x2 x1))))))))))
def r_step_292 (N : Nat)  (σ : St)  : Option St := some (sf σ 96 0 ((fl σ 96 0) - 1))
def r_step (N : Nat) (σ : St) (x1 : Int) : Option St := grd (inb x1 70) (
 bnd (el σ 42 x1) (fun v2 =>
 bnd (el σ 41 x1) (fun v4 =>
 grd (inb v2 103000) (
 grd (i32 (el σ 70 v2)) (
 if (el σ 70 v2) = 1 then
 Option.bind (r_emit N σ v4 (v4 + 1) (el σ 69 v2) (el σ 68 v2) 0 1) (fun r9 =>
 r_step_292 N r9)
 else (if (el σ 70 v2) = 2 then
 Option.bind (r_emit N σ v4 (v4 + 1) 0 0 (el σ 69 v2) 2) (fun r12 =>
 r_step_292 N r12)
 else (if (el σ 70 v2) = 3 then
 r_step_292 N σ
 else (if (el σ 70 v2) = 4 then
 Option.bind (r_sequence N σ x1 v2 v4) (fun r16 =>
 grd (i32 r16.2) (
 if r16.2 = 0 then
 r_step_292 N r16.1
 else
 some r16.1))
 else (if (el σ 70 v2) = 5 then
 Option.bind (r_together N σ x1 v2 v4) (fun r21 =>
 grd (i32 r21.2) (
 if r21.2 = 0 then
 r_step_292 N r21.1
 else
 some r21.1))
 else (if (el σ 70 v2) = 6 then
 Option.bind (r_turn N σ x1 v2 v4) (fun r26 =>
 grd (i32 r26.2) (
 if r26.2 = 0 then
 r_step_292 N r26.1
 else
 some r26.1))
 else (if (el σ 70 v2) = 7 then
 Option.bind (r_poly N σ x1 v2 v4) (fun r31 =>
 grd (i32 r31.2) (
 if r31.2 = 0 then
 r_step_292 N r31.1
 else
 some r31.1))
 else (if (el σ 70 v2) = 8 then
 grd (i32 (el σ 69 v2)) (
 if (0 : Int) < (el σ 69 v2) then
 Option.bind (r_spreads N σ x1 v2 v4) (fun r38 =>
 grd (i32 r38.2) (
 if r38.2 = 0 then
 r_step_292 N r38.1
 else
 some r38.1))
 else
 r_step_292 N σ)
 else (if (el σ 70 v2) = 9 then
 Option.bind (r_rows N σ x1 v2 v4) (fun r43 =>
 grd (i32 r43.2) (
 if r43.2 = 0 then
 r_step_292 N r43.1
 else
 some r43.1))
 else (if (el σ 70 v2) = 10 then
 Option.bind (r_rows N σ x1 v2 v4) (fun r48 =>
 grd (i32 r48.2) (
 if r48.2 = 0 then
 r_step_292 N r48.1
 else
 some r48.1))
 else (if (el σ 70 v2) = 11 then
 Option.bind (r_rows N σ x1 v2 v4) (fun r53 =>
 grd (i32 r53.2) (
 if r53.2 = 0 then
 r_step_292 N r53.1
 else
 some r53.1))
 else (if (el σ 70 v2) = 12 then
 Option.bind (r_single N σ x1 v2 v4) (fun r58 =>
 grd (i32 r58.2) (
 if r58.2 = 0 then
 r_step_292 N r58.1
 else
 some r58.1))
 else (if (el σ 70 v2) = 13 then
 Option.bind (r_single N σ x1 v2 v4) (fun r63 =>
 grd (i32 r63.2) (
 if r63.2 = 0 then
 r_step_292 N r63.1
 else
 some r63.1))
 else (if (el σ 70 v2) = 14 then
 Option.bind (r_single N σ x1 v2 v4) (fun r68 =>
 grd (i32 r68.2) (
 if r68.2 = 0 then
 r_step_292 N r68.1
 else
 some r68.1))
 else (if (el σ 70 v2) = 15 then
 Option.bind (r_windows N σ x1 v2 v4) (fun r73 =>
 grd (i32 r73.2) (
 if r73.2 = 0 then
 r_step_292 N r73.1
 else
 some r73.1))
 else (if (el σ 70 v2) = 16 then
 Option.bind (r_windows N σ x1 v2 v4) (fun r78 =>
 grd (i32 r78.2) (
 if r78.2 = 0 then
 r_step_292 N r78.1
 else
 some r78.1))
 else (if (el σ 70 v2) = 17 then
 Option.bind (r_rows N σ x1 v2 v4) (fun r83 =>
 grd (i32 r83.2) (
 if r83.2 = 0 then
 r_step_292 N r83.1
 else
 some r83.1))
 else (if (el σ 70 v2) = 18 then
 Option.bind (r_rows N σ x1 v2 v4) (fun r88 =>
 grd (i32 r88.2) (
 if r88.2 = 0 then
 r_step_292 N r88.1
 else
 some r88.1))
 else (if (el σ 70 v2) = 19 then
 Option.bind (r_single N σ x1 v2 v4) (fun r93 =>
 grd (i32 r93.2) (
 if r93.2 = 0 then
 r_step_292 N r93.1
 else
 some r93.1))
 else (if (el σ 70 v2) = 20 then
 Option.bind (r_single N σ x1 v2 v4) (fun r98 =>
 grd (i32 r98.2) (
 if r98.2 = 0 then
 r_step_292 N r98.1
 else
 some r98.1))
 else (if (el σ 70 v2) = 21 then
 Option.bind (r_single N σ x1 v2 v4) (fun r103 =>
 grd (i32 r103.2) (
 if r103.2 = 0 then
 r_step_292 N r103.1
 else
 some r103.1))
 else (if (el σ 70 v2) = 22 then
 Option.bind (r_single N σ x1 v2 v4) (fun r108 =>
 grd (i32 r108.2) (
 if r108.2 = 0 then
 r_step_292 N r108.1
 else
 some r108.1))
 else (if (el σ 70 v2) = 23 then
 Option.bind (r_sounds N σ x1 v2 v4) (fun r113 =>
 grd (i32 r113.2) (
 if r113.2 = 0 then
 r_step_292 N r113.1
 else
 some r113.1))
 else (if (el σ 70 v2) = 24 then
 Option.bind (r_sounds N σ x1 v2 v4) (fun r118 =>
 grd (i32 r118.2) (
 if r118.2 = 0 then
 r_step_292 N r118.1
 else
 some r118.1))
 else (if (el σ 70 v2) = 25 then
 Option.bind (r_sounds N σ x1 v2 v4) (fun r123 =>
 grd (i32 r123.2) (
 if r123.2 = 0 then
 r_step_292 N r123.1
 else
 some r123.1))
 else (Option.bind (r_single N σ x1 v2 v4) (fun r127 =>
 grd (i32 r127.2) (
 if r127.2 = 0 then
 r_step_292 N r127.1
 else
 some r127.1))))))))))))))))))))))))))))))))
def r_rowOf_16 (N : Nat)  : Nat → St → Option St
  | 0, _ => none
  | n + 1, σ => grd (i32 (fl σ 96 0)) (
 if (0 : Int) < (fl σ 96 0) then
 Option.bind (r_step N σ ((fl σ 96 0) - 1)) (fun r7 =>
 (r_rowOf_16 N n) r7)
 else
 some σ)
def r_rowOf (N : Nat) (σ : St) (x1 : Int) (x2 : Int) : Option St := bnd (sf (sf σ 84 0 0) 96 0 0) (fun σ1 =>
 Option.bind (r_call N σ1 x1 x2) (fun r3 =>
 r_rowOf_16 N N r3))
def r_feed_68 (N : Nat) (rec15 : St → Int → Int → Int → Int → Int → Int → Option (St × Int)) (σ : St) (x1 : Int) (x2 : Int) (x3 : Int) (x4 : Int) (x5 : Int) (x6 : Int) (s0 : Int) : Option (St × Int) := grd (i32 x6) (
 grd (inb ((fl σ 1 0) + x6) 2000) (
 rec15 (se σ 97 ((fl σ 1 0) + x6) (b8 (ishr s0 (24 - (8 * (Int.tmod x6 4)))))) x1 x2 x3 x4 x5 (x6 + 1)))
def r_feed_15 (N : Nat)  : Nat → St → Int → Int → Int → Int → Int → Int → Option (St × Int)
  | 0, _, _, _, _, _, _, _ => none
  | n + 1, σ, x1, x2, x3, x4, x5, x6 => grd (i32 x6) (
 if x6 < 20 then
 if x6 < 4 then
 r_feed_68 N (r_feed_15 N n) σ x1 x2 x3 x4 x5 x6 x1
 else
 if x6 < 8 then
 r_feed_68 N (r_feed_15 N n) σ x1 x2 x3 x4 x5 x6 x2
 else
 if x6 < 12 then
 r_feed_68 N (r_feed_15 N n) σ x1 x2 x3 x4 x5 x6 x3
 else
 if x6 < 16 then
 r_feed_68 N (r_feed_15 N n) σ x1 x2 x3 x4 x5 x6 x4
 else
 r_feed_68 N (r_feed_15 N n) σ x1 x2 x3 x4 x5 x6 x5
 else
 some ((sf σ 1 0 ((fl σ 1 0) + 20)), 1))
def r_feed (N : Nat) (σ : St) (x1 : Int) (x2 : Int) (x3 : Int) (x4 : Int) (x5 : Int) : Option (St × Int) := grd (i32 (fl σ 1 0)) (
 if (1980 : Int) < (fl σ 1 0) then
 some (σ, 0)
 else
 r_feed_15 N N σ x1 x2 x3 x4 x5 0)
def r_end (N : Nat) (σ : St) (x1 : Int) : Option (St × Int) := grd (i32 x1) (
 if x1 < 0 then
 some (σ, 0)
 else
 grd (i32 (fl σ 1 0)) (
 if (fl σ 1 0) < x1 then
 some (σ, 0)
 else
 some ((sf σ 1 0 x1), 1)))
def r_begins_62 (N : Nat)  : Nat → St → Int → Option St
  | 0, _, _ => none
  | n + 1, σ, x1 => grd (i32 x1) (
 grd (i32 (fl σ 34 0)) (
 if x1 < (fl σ 34 0) then
 grd (inb x1 40) (
 grd (inb x1 700) (
 (r_begins_62 N n) (se σ 77 x1 (el σ 78 x1)) (x1 + 1)))
 else
 Option.bind (r_look N σ 0) (fun r4 =>
 some r4)))
def r_begins (N : Nat) (σ : St)  : Option St := r_begins_62 N N (sf (sf (sf (sf (sf (sf (sf (sf (sf σ 11 0 0) 12 0 (-1)) 64 0 0) 38 0 0) 149 0 (fl σ 16 0)) 150 0 (fl σ 48 0)) 151 0 (fl σ 61 0)) 152 0 (fl σ 28 0)) 36 0 (fl σ 34 0)) 0
def r_over_33 (N : Nat)  (σ : St) (s0 : Int) : Option (St × Int) := grd (i32 (fl σ 11 0)) (
 if (fl σ 11 0) = 0 then
 some ((sf (sf (sf σ 119 0 s0) 120 0 (fl σ 64 0)) 1 0 0), 0)
 else
 some ((sf (sf (sf (sf (sf (sf (sf σ 119 0 s0) 120 0 (fl σ 64 0)) 1 0 0) 16 0 (fl σ 149 0)) 48 0 (fl σ 150 0)) 61 0 (fl σ 151 0)) 28 0 (fl σ 152 0)), (fl σ 11 0)))
def r_over_25 (N : Nat)  (σ : St)  : Option (St × Int) := r_over_33 N σ (-1)
def r_over (N : Nat) (σ : St)  : Option (St × Int) := grd (i32 (fl σ 11 0)) (
 if (fl σ 11 0) = 0 then
 r_over_25 N (sf σ 118 0 (fl σ 11 0))
 else
 if (fl σ 11 0) = 11 then
 r_over_25 N (sf σ 118 0 (fl σ 11 0))
 else
 r_over_33 N (sf σ 118 0 (fl σ 11 0)) (fl σ 12 0))
def r_head_140 (N : Nat)  (σ : St)  : Option St := Option.bind (r_fail N σ 2 (fl σ 4 0)) (fun r47 =>
 some r47)
def r_head_125 (N : Nat) (rec75 : St → Int → Option St) (σ : St) (x1 : Int) : Option St := Option.bind (r_paramHere N σ) (fun r49 =>
 grd (i32 r49.2) (
 if r49.2 < 0 then
 grd (i32 (fl r49.1 38 0)) (
 if (fl r49.1 38 0) = 4 then
 r_head_140 N r49.1
 else
 grd (inb (fl r49.1 38 0) 4) (
 bnd (sf (se (se r49.1 76 (fl r49.1 38 0) (fl r49.1 7 0)) 75 (fl r49.1 38 0) (fl r49.1 8 0)) 38 0 ((fl r49.1 38 0) + 1)) (fun σ56 =>
 Option.bind (r_advance N σ56) (fun r58 =>
 rec75 r58 x1))))
 else
 r_head_140 N r49.1))
def r_head_193 (N : Nat)  (σ : St)  : Option St := grd (i32 (fl σ 11 0)) (
 if (fl σ 11 0) = 0 then
 Option.bind (r_isSign N σ 61) (fun r39 =>
 grd (i32 r39.2) (
 if r39.2 = 0 then
 Option.bind (r_fail N r39.1 1 (fl r39.1 4 0)) (fun r45 =>
 some r45)
 else
 Option.bind (r_advance N r39.1) (fun r43 =>
 some r43)))
 else
 some σ)
def r_head_75 (N : Nat)  : Nat → St → Int → Option St
  | 0, _, _ => none
  | n + 1, σ, x1 => grd (i32 (fl σ 11 0)) (
 if (fl σ 11 0) = 0 then
 grd (i32 (fl σ 3 0)) (
 if (fl σ 3 0) = 2 then
 Option.bind (r_functionHere N σ) (fun r26 =>
 grd (i32 r26.2) (
 if r26.2 < 0 then
 grd (inb x1 6000) (
 grd (i64 (fl r26.1 7 0)) (
 grd (i64 (el r26.1 83 x1)) (
 if (fl r26.1 7 0) = (el r26.1 83 x1) then
 grd (i64 (fl r26.1 8 0)) (
 grd (i64 (el r26.1 82 x1)) (
 if (fl r26.1 8 0) = (el r26.1 82 x1) then
 r_head_140 N r26.1
 else
 r_head_125 N (r_head_75 N n) r26.1 x1))
 else
 r_head_125 N (r_head_75 N n) r26.1 x1)))
 else
 r_head_140 N r26.1))
 else
 r_head_193 N σ)
 else
 r_head_193 N σ)
def r_head_44 (N : Nat)  (σ : St) (x1 : Int) : Option St := grd (inb x1 6000) (
 grd (i32 (fl σ 11 0)) (
 if (fl σ 11 0) = 0 then
 bnd (se (se σ 83 x1 (fl σ 7 0)) 82 x1 (fl σ 8 0)) (fun σ18 =>
 Option.bind (r_advance N σ18) (fun r20 =>
 r_head_75 N N r20 x1))
 else
 r_head_75 N N (se (se σ 83 x1 (fl σ 7 0)) 82 x1 (fl σ 8 0)) x1))
def r_head (N : Nat) (σ : St)  : Option St := grd (i32 (fl σ 3 0)) (
 if (fl σ 3 0) = 2 then
 bnd (sf σ 38 0 0) (fun σ3 =>
 Option.bind (r_functionHere N σ3) (fun r5 =>
 grd (i32 r5.2) (
 if r5.2 < 0 then
 r_head_44 N r5.1 (fl σ 28 0)
 else
 Option.bind (r_fail N r5.1 2 (fl r5.1 4 0)) (fun r9 =>
 r_head_44 N r9 (fl σ 28 0)))))
 else
 bnd (sf σ 38 0 0) (fun σ11 =>
 Option.bind (r_fail N σ11 1 (fl σ 4 0)) (fun r13 =>
 some r13)))
def r_line_188 (N : Nat) (rec138 : St → Int → Int → Option St) (σ : St) (x2 : Int) (x3 : Int) : Option St := rec138 σ x2 (x3 + 1)
def r_line_194 (N : Nat)  (σ : St) (x2 : Int) (x3 : Int) : Option St := grd (inb x3 700) (
 grd (i32 (fl σ 36 0)) (
 if x3 = (fl σ 36 0) then
 some (sf (se σ 77 x3 x2) 36 0 ((fl σ 36 0) + 1))
 else
 some (se σ 77 x3 x2)))
def r_line_138 (N : Nat)  : Nat → St → Int → Int → Option St
  | 0, _, _, _ => none
  | n + 1, σ, x2, x3 => grd (i32 x3) (
 grd (i32 (fl σ 36 0)) (
 if x3 < (fl σ 36 0) then
 grd (inb x3 700) (
 grd (inb (el σ 77 x3) 6000) (
 grd (inb x2 6000) (
 grd (i64 (el σ 83 (el σ 77 x3))) (
 grd (i64 (el σ 83 x2)) (
 if (el σ 83 (el σ 77 x3)) = (el σ 83 x2) then
 grd (i64 (el σ 82 (el σ 77 x3))) (
 grd (i64 (el σ 82 x2)) (
 if (el σ 82 (el σ 77 x3)) = (el σ 82 x2) then
 r_line_194 N σ x2 x3
 else
 r_line_188 N (r_line_138 N n) σ x2 x3))
 else
 r_line_188 N (r_line_138 N n) σ x2 x3)))))
 else
 r_line_194 N σ x2 x3))
def r_line_118 (N : Nat)  (σ : St) (x2 : Int) : Option St := grd (i32 (fl σ 11 0)) (
 if (fl σ 11 0) = 0 then
 r_line_138 N N (sf σ 28 0 ((fl σ 28 0) + 1)) x2 0
 else
 some σ)
def r_line_52 (N : Nat)  (σ : St) (x1 : Int) : Option St := grd (i32 (fl σ 11 0)) (
 if (fl σ 11 0) = 0 then
 grd (inb (fl σ 28 0) 6000) (
 grd (i32 (fl σ 38 0)) (
 if (fl σ 38 0) = 0 then
 bnd (se (se (se σ 81 (fl σ 28 0) (fl σ 38 0)) 80 (fl σ 28 0) (fl σ 46 0)) 79 (fl σ 28 0) (-1)) (fun σ19 =>
 Option.bind (r_makes N σ19 (fl σ 46 0)) (fun r21 =>
 r_line_118 N (sf (se r21.1 79 (fl σ 28 0) r21.2) 16 0 x1) (fl σ 28 0)))
 else
 r_line_118 N (se (se (se σ 81 (fl σ 28 0) (fl σ 38 0)) 80 (fl σ 28 0) (fl σ 46 0)) 79 (fl σ 28 0) (-1)) (fl σ 28 0)))
 else
 some σ)
def r_line (N : Nat) (σ : St)  : Option St := Option.bind (r_head N σ) (fun r1 =>
 grd (i32 (fl r1 11 0)) (
 if (fl r1 11 0) = 0 then
 Option.bind (r_readExp N r1) (fun r5 =>
 grd (i32 (fl r5 11 0)) (
 if (fl r5 11 0) = 0 then
 grd (i32 (fl r5 3 0)) (
 if (fl r5 3 0) = 1 then
 r_line_52 N r5 (fl σ 16 0)
 else
 if (fl r5 3 0) = 0 then
 r_line_52 N r5 (fl σ 16 0)
 else
 Option.bind (r_fail N r5 1 (fl r5 4 0)) (fun r12 =>
 r_line_52 N r12 (fl σ 16 0)))
 else
 r_line_52 N r5 (fl σ 16 0)))
 else
 some r1))
def r_read_106 (N : Nat)  (σ : St)  : Option (St × Int) := Option.bind (r_over N σ) (fun r20 =>
 some (r20.1, r20.2))
def r_read_80 (N : Nat)  : Nat → St → Int → Option (St × Int)
  | 0, _, _ => none
  | n + 1, σ, x1 => grd (i32 x1) (
 grd (i32 (fl σ 34 0)) (
 if x1 < (fl σ 34 0) then
 grd (inb x1 700) (
 grd (inb x1 40) (
 (r_read_80 N n) (se σ 78 x1 (el σ 77 x1)) (x1 + 1)))
 else
 r_read_106 N σ))
def r_read_63 (N : Nat)  (σ : St)  : Option (St × Int) := grd (i32 (fl σ 11 0)) (
 if (fl σ 11 0) = 0 then
 r_read_80 N N (sf σ 34 0 (fl σ 36 0)) 0
 else
 r_read_106 N σ)
def r_read_40 (N : Nat)  (σ : St)  : Option (St × Int) := grd (i32 (fl σ 11 0)) (
 if (fl σ 11 0) = 0 then
 grd (i32 (fl σ 36 0)) (
 if (40 : Int) < (fl σ 36 0) then
 Option.bind (r_fail N σ 11 (-1)) (fun r16 =>
 r_read_63 N r16)
 else
 r_read_63 N σ)
 else
 r_read_63 N σ)
def r_read_4 (N : Nat)  : Nat → St → Option (St × Int)
  | 0, _ => none
  | n + 1, σ => grd (i32 (fl σ 11 0)) (
 if (fl σ 11 0) = 0 then
 grd (i32 (fl σ 3 0)) (
 if (fl σ 3 0) = 0 then
 r_read_40 N σ
 else
 if (fl σ 3 0) = 1 then
 Option.bind (r_advance N σ) (fun r10 =>
 (r_read_4 N n) r10)
 else
 Option.bind (r_line N σ) (fun r8 =>
 (r_read_4 N n) r8))
 else
 r_read_40 N σ)
def r_read (N : Nat) (σ : St)  : Option (St × Int) := Option.bind (r_begins N σ) (fun r1 =>
 r_read_4 N N r1)
def r_becomes (N : Nat) (σ : St) (x1 : Int) (x2 : Int) : Option St := grd (i32 (fl σ 116 0)) (
 if (fl σ 116 0) = 0 then
 grd (inb x1 8) (
 some (se (se σ 28 x1 x2) 27 x1 (-2)))
 else
 grd (inb x1 8) (
 some (se σ 27 x1 x2)))
def r_hang_106 (N : Nat)  (σ : St)  : Option (St × Int) := Option.bind (r_over N σ) (fun r30 =>
 some (r30.1, r30.2))
def r_hang_84 (N : Nat)  (σ : St) (x1 : Int) (s0 : Int) : Option (St × Int) := grd (i32 (fl σ 11 0)) (
 if (fl σ 11 0) = 0 then
 bnd (sf σ 16 0 (fl σ 149 0)) (fun σ26 =>
 Option.bind (r_becomes N σ26 x1 s0) (fun r28 =>
 r_hang_106 N r28))
 else
 r_hang_106 N (sf σ 16 0 (fl σ 149 0)))
def r_hang_65 (N : Nat)  (σ : St) (x1 : Int) : Option (St × Int) := grd (i32 (fl σ 11 0)) (
 if (fl σ 11 0) = 0 then
 Option.bind (r_makes N σ (fl σ 46 0)) (fun r22 =>
 r_hang_84 N r22.1 x1 r22.2)
 else
 r_hang_84 N σ x1 (-1))
def r_hang_42 (N : Nat)  (σ : St) (x1 : Int) : Option (St × Int) := grd (i32 (fl σ 11 0)) (
 if (fl σ 11 0) = 0 then
 grd (i32 (fl σ 3 0)) (
 if (fl σ 3 0) = 0 then
 r_hang_65 N σ x1
 else
 Option.bind (r_fail N σ 1 (fl σ 4 0)) (fun r18 =>
 r_hang_65 N r18 x1))
 else
 r_hang_65 N σ x1)
def r_hang_20 (N : Nat)  : Nat → St → Int → Option (St × Int)
  | 0, _, _ => none
  | n + 1, σ, x1 => grd (i32 (fl σ 11 0)) (
 if (fl σ 11 0) = 0 then
 grd (i32 (fl σ 3 0)) (
 if (fl σ 3 0) = 1 then
 Option.bind (r_advance N σ) (fun r12 =>
 (r_hang_20 N n) r12 x1)
 else
 r_hang_42 N σ x1)
 else
 r_hang_42 N σ x1)
def r_hang (N : Nat) (σ : St) (x1 : Int) : Option (St × Int) := grd (i32 x1) (
 if x1 < 0 then
 some (σ, (-1))
 else
 if x1 < 8 then
 Option.bind (r_begins N σ) (fun r4 =>
 Option.bind (r_readExp N r4) (fun r6 =>
 r_hang_20 N N r6 x1))
 else
 some (σ, (-1)))
def r_hush (N : Nat) (σ : St) (x1 : Int) : Option (St × Int) := grd (i32 x1) (
 if x1 < 0 then
 some (σ, 0)
 else
 if x1 < 8 then
 Option.bind (r_becomes N σ x1 (-1)) (fun r4 =>
 some (r4, 1))
 else
 some (σ, 0))
def r_told (N : Nat) (σ : St) (x1 : Int) : Option (St × Int) := grd (i32 x1) (
 if x1 = 0 then
 some (σ, (fl σ 118 0))
 else
 if x1 = 1 then
 some (σ, (fl σ 119 0))
 else
 if x1 = 2 then
 some (σ, (fl σ 120 0))
 else
 some (σ, (-1)))
def r_isTrack (N : Nat) (σ : St) (x1 : Int) : Option (St × Int) := grd (i32 x1) (
 if x1 < 0 then
 some (σ, 0)
 else
 if x1 < 8 then
 some (σ, 1)
 else
 some (σ, 0))
def r_bound (N : Nat) (σ : St) (x1 : Int) (x2 : Int) : Option (St × Int) := Option.bind (r_isTrack N σ x1) (fun r1 =>
 grd (i32 r1.2) (
 if r1.2 = 0 then
 some (r1.1, (-1))
 else
 grd (inb x1 8) (
 bnd (el r1.1 28 x1) (fun v6 =>
 grd (i32 v6) (
 if v6 = (-1) then
 some (r1.1, (-1))
 else
 grd (i32 x2) (
 if x2 = 0 then
 grd (inb v6 103000) (
 some (r1.1, (el r1.1 63 v6)))
 else (if x2 = 1 then
 grd (inb v6 103000) (
 some (r1.1, (el r1.1 62 v6)))
 else (if x2 = 2 then
 grd (inb v6 103000) (
 some (r1.1, (el r1.1 61 v6)))
 else (if x2 = 3 then
 grd (inb v6 103000) (
 some (r1.1, (el r1.1 60 v6)))
 else (if x2 = 4 then
 grd (inb v6 103000) (
 some (r1.1, (el r1.1 59 v6)))
 else (some (r1.1, (-1)))))))))))))
def r_ask_66 (N : Nat)  : Nat → St → Int → Int → Option (St × Int)
  | 0, _, _, _ => none
  | n + 1, σ, x2, x4 => grd (i32 x4) (
 grd (i32 (fl σ 121 0)) (
 if x4 < (fl σ 121 0) then
 grd (inb x4 30000) (
 grd (i32 x2) (
 grd (i32 (fl σ 128 0)) (
 grd (inb x4 400) (
 (r_ask_66 N n) (se (se (se (se (se (se σ 24 x4 ((el σ 52 x4) - (x2 * (fl σ 128 0)))) 23 x4 ((el σ 51 x4) - (el σ 52 x4))) 22 x4 (el σ 50 x4)) 21 x4 (el σ 49 x4)) 20 x4 (el σ 48 x4)) 19 x4 (el σ 47 x4)) x2 (x4 + 1)))))
 else
 some (σ, (fl σ 121 0))))
def r_ask (N : Nat) (σ : St) (x1 : Int) (x2 : Int) : Option (St × Int) := Option.bind (r_isTrack N σ x1) (fun r1 =>
 grd (i32 r1.2) (
 if r1.2 = 0 then
 some (r1.1, (-1))
 else
 grd (i32 x2) (
 if x2 < (-1000) then
 some (r1.1, (-1))
 else
 if (100000 : Int) < x2 then
 some (r1.1, (-1))
 else
 grd (inb x1 8) (
 bnd (el r1.1 28 x1) (fun v9 =>
 grd (i32 v9) (
 if v9 = (-1) then
 some (r1.1, (-1))
 else
 Option.bind (r_rowOf N r1.1 v9 x2) (fun r13 =>
 grd (inb v9 103000) (
 r_ask_66 N N (sf (sf r13 121 0 (fl r13 84 0)) 128 0 (el r13 63 v9)) x2 0))))))))
def r_lowest_17 (N : Nat)  (x5 : Int) (s0 : Int) : Option Int := grd (i64 s0) (
 grd (i64 x5) (
 grd (¬ x5 = 0) (
 some (Int.tdiv s0 x5))))
def r_lowest (N : Nat) (x0 : Int) (x2 : Int) (x4 : Int) : Option Int := Option.bind (r_commonOf N x0 x2) (fun r1 =>
 grd (i32 x4) (
 if x4 = 0 then
 r_lowest_17 N r1 x0
 else
 r_lowest_17 N r1 x2))
def r_letters_20 (N : Nat)  : Nat → Int → Int → Option Int
  | 0, _, _ => none
  | n + 1, x2, x3 => grd (i32 x3) (
 if x3 = 0 then
 some x2
 else
 bnd (iushr x3 5) (fun v7 =>
 (r_letters_20 N n) (x2 + 1) v7))
def r_letters_4 (N : Nat)  : Nat → Int → Int → Int → Option Int
  | 0, _, _, _ => none
  | n + 1, x1, x2, x3 => grd (i32 x3) (
 if x3 = 0 then
 r_letters_20 N N x2 x1
 else
 bnd (iushr x3 5) (fun v3 =>
 (r_letters_4 N n) x1 (x2 + 1) v3))
def r_letters (N : Nat) (x0 : Int) (x1 : Int) : Option Int := r_letters_4 N N x1 0 x0
def r_letterAt_57 (N : Nat)  (s0 : Int) : Option Int := some (96 + (iand s0 31))
def r_letterAt_27 (N : Nat)  (x0 : Int) (x1 : Int) (x2 : Int) (x3 : Int) (s0 : Int) : Option Int := grd (i32 x2) (
 grd (i32 s0) (
 if x2 < s0 then
 r_letterAt_57 N (ishr x0 (5 * ((s0 - 1) - x2)))
 else
 r_letterAt_57 N (ishr x1 (5 * ((x3 - 1) - x2)))))
def r_letterAt (N : Nat) (x0 : Int) (x1 : Int) (x2 : Int) : Option Int := Option.bind (r_letters N x0 x1) (fun r1 =>
 grd (i32 x2) (
 if x2 < 0 then
 some (-1)
 else
 grd (i32 r1) (
 if x2 < r1 then
 if r1 < 4 then
 r_letterAt_27 N x0 x1 x2 r1 r1
 else
 r_letterAt_27 N x0 x1 x2 r1 4
 else
 some (-1))))
def r_event_77 (N : Nat)  (σ : St) (s0 : Int) (s1 : Int) (s2 : Int) : Option (St × Int) := Option.bind (r_lowest N s2 s1 s0) (fun r32 =>
 some (σ, r32))
def r_event_102 (N : Nat)  (σ : St) (s0 : Int) (s1 : Int) (s2 : Int) : Option (St × Int) := Option.bind (r_lowest N s2 s1 s0) (fun r34 =>
 some (σ, r34))
def r_event (N : Nat) (σ : St) (x1 : Int) (x2 : Int) : Option (St × Int) := grd (i32 x1) (
 if x1 < 0 then
 some (σ, (-1))
 else
 grd (i32 (fl σ 121 0)) (
 if x1 < (fl σ 121 0) then
 grd (i32 x2) (
 if x2 = 0 then
 grd (inb x1 400) (
 grd (i32 (fl σ 128 0)) (
 if x2 = 1 then
 r_event_77 N σ 1 (fl σ 128 0) (el σ 24 x1)
 else
 r_event_77 N σ 0 (fl σ 128 0) (el σ 24 x1)))
 else (if x2 = 1 then
 grd (inb x1 400) (
 grd (i32 (fl σ 128 0)) (
 if x2 = 1 then
 r_event_77 N σ 1 (fl σ 128 0) (el σ 24 x1)
 else
 r_event_77 N σ 0 (fl σ 128 0) (el σ 24 x1)))
 else (if x2 = 2 then
 grd (inb x1 400) (
 grd (i32 (fl σ 128 0)) (
 if x2 = 3 then
 r_event_102 N σ 1 (fl σ 128 0) (el σ 23 x1)
 else
 r_event_102 N σ 0 (fl σ 128 0) (el σ 23 x1)))
 else (if x2 = 3 then
 grd (inb x1 400) (
 grd (i32 (fl σ 128 0)) (
 if x2 = 3 then
 r_event_102 N σ 1 (fl σ 128 0) (el σ 23 x1)
 else
 r_event_102 N σ 0 (fl σ 128 0) (el σ 23 x1)))
 else (if x2 = 4 then
 grd (inb x1 400) (
 grd (i32 (iand (el σ 19 x1) 2)) (
 if (iand (el σ 19 x1) 2) = 2 then
 some (σ, (el σ 20 x1))
 else
 some (σ, 0)))
 else (if x2 = 5 then
 grd (inb x1 400) (
 some (σ, (ishr (el σ 19 x1) 1)))
 else (if x2 = 6 then
 grd (inb x1 400) (
 Option.bind (r_letters N (el σ 22 x1) (el σ 21 x1)) (fun r30 =>
 some (σ, r30)))
 else (some (σ, (-1))))))))))
 else
 some (σ, (-1))))
def r_letter_12 (N : Nat)  (σ : St)  : Option (St × Int) := some (σ, (-1))
def r_letter (N : Nat) (σ : St) (x1 : Int) (x2 : Int) : Option (St × Int) := grd (i32 x1) (
 if x1 < 0 then
 r_letter_12 N σ
 else
 grd (i32 (fl σ 121 0)) (
 if x1 < (fl σ 121 0) then
 grd (inb x1 400) (
 Option.bind (r_letterAt N (el σ 22 x1) (el σ 21 x1) x2) (fun r6 =>
 some (σ, r6)))
 else
 r_letter_12 N σ))
def r_isSounding_28 (N : Nat) (rec4 : St → Int → Int → Int → Option (St × Int)) (σ : St) (x1 : Int) (x3 : Int) (s0 : Int) : Option (St × Int) := rec4 σ x1 s0 (x3 + 1)
def r_isSounding_23 (N : Nat) (rec4 : St → Int → Int → Int → Option (St × Int)) (σ : St) (x1 : Int) (x3 : Int) : Option (St × Int) := r_isSounding_28 N rec4 σ x1 x3 1
def r_isSounding_57 (N : Nat)  (σ : St)  : Option (St × Int) := some (σ, 1)
def r_isSounding_4 (N : Nat)  : Nat → St → Int → Int → Int → Option (St × Int)
  | 0, _, _, _, _ => none
  | n + 1, σ, x1, x2, x3 => grd (i32 x3) (
 if x3 < 8 then
 grd (i32 x2) (
 if x2 = 0 then
 grd (inb x3 8) (
 grd (i32 (el σ 25 x3)) (
 if (el σ 25 x3) = 0 then
 r_isSounding_28 N (r_isSounding_4 N n) σ x1 x3 0
 else
 r_isSounding_23 N (r_isSounding_4 N n) σ x1 x3))
 else
 r_isSounding_23 N (r_isSounding_4 N n) σ x1 x3)
 else
 grd (inb x1 8) (
 grd (i32 (el σ 26 x1)) (
 if (el σ 26 x1) = 0 then
 grd (i32 x2) (
 if x2 = 0 then
 r_isSounding_57 N σ
 else
 grd (i32 (el σ 25 x1)) (
 if (el σ 25 x1) = 0 then
 some (σ, 0)
 else
 r_isSounding_57 N σ))
 else
 some (σ, 0))))
def r_isSounding (N : Nat) (σ : St) (x1 : Int) : Option (St × Int) := r_isSounding_4 N N σ x1 0 0
def r_swaps_42 (N : Nat) (rec2 : St → Int → Option St) (σ : St) (x1 : Int) : Option St := rec2 σ (x1 + 1)
def r_swaps_2 (N : Nat)  : Nat → St → Int → Option St
  | 0, _, _ => none
  | n + 1, σ, x1 => grd (i32 x1) (
 if x1 < 8 then
 grd (inb x1 8) (
 grd (i32 (el σ 27 x1)) (
 if (el σ 27 x1) = (-2) then
 r_swaps_42 N (r_swaps_2 N n) σ x1
 else
 r_swaps_42 N (r_swaps_2 N n) (se (se σ 28 x1 (el σ 27 x1)) 27 x1 (-2)) x1))
 else
 some σ)
def r_swaps (N : Nat) (σ : St)  : Option St := r_swaps_2 N N σ 0
def r_arrange_82 (N : Nat) (rec2 : St → Int → Option St) (σ : St) (x1 : Int) (x2 : Int) : Option St := grd (inb x2 3300) (
 rec2 (se σ 1 x2 x1) (x1 + 1))
def r_arrange_12 (N : Nat) (rec2 : St → Int → Option St) : Nat → St → Int → Int → Option St
  | 0, _, _, _ => none
  | n + 1, σ, x1, x2 => grd (i32 x2) (
 if (0 : Int) < x2 then
 grd (inb (x2 - 1) 3300) (
 grd (inb (el σ 1 (x2 - 1)) 3300) (
 grd (inb x1 3300) (
 grd (i32 (el σ 8 x1)) (
 grd (i32 (el σ 8 (el σ 1 (x2 - 1)))) (
 grd (i64 ((el σ 7 (el σ 1 (x2 - 1))) * (el σ 8 x1))) (
 grd (i64 ((el σ 7 x1) * (el σ 8 (el σ 1 (x2 - 1))))) (
 if ((el σ 7 x1) * (el σ 8 (el σ 1 (x2 - 1)))) < ((el σ 7 (el σ 1 (x2 - 1))) * (el σ 8 x1)) then
 grd (inb x2 3300) (
 (r_arrange_12 N rec2 n) (se σ 1 x2 (el σ 1 (x2 - 1))) x1 (x2 + (-1)))
 else
 r_arrange_82 N rec2 σ x1 x2)))))))
 else
 r_arrange_82 N rec2 σ x1 x2)
def r_arrange_2 (N : Nat)  : Nat → St → Int → Option St
  | 0, _, _ => none
  | n + 1, σ, x1 => grd (i32 x1) (
 grd (i32 (fl σ 139 0)) (
 if x1 < (fl σ 139 0) then
 r_arrange_12 N (r_arrange_2 N n) N σ x1 x1
 else
 some σ))
def r_arrange (N : Nat) (σ : St)  : Option St := r_arrange_2 N N σ 0
def r_hear (N : Nat) (σ : St) (x1 : Int) : Option St := grd (inb x1 3300) (
 grd (inb (fl σ 129 0) 400) (
 some (sf (se (se (se (se (se (se (se (se (se σ 18 (fl σ 129 0) (el σ 9 x1)) 17 (fl σ 129 0) (fl σ 115 0)) 16 (fl σ 129 0) (el σ 8 x1)) 15 (fl σ 129 0) (el σ 7 x1)) 14 (fl σ 129 0) (el σ 6 x1)) 13 (fl σ 129 0) (el σ 5 x1)) 12 (fl σ 129 0) (el σ 4 x1)) 11 (fl σ 129 0) (el σ 3 x1)) 10 (fl σ 129 0) (el σ 2 x1)) 129 0 ((fl σ 129 0) + 1))))
def r_beat_275 (N : Nat) (rec7 : St → Int → Int → Int → Option (St × Int)) (σ : St) (x1 : Int) (x2 : Int) (x3 : Int) : Option (St × Int) := rec7 σ x1 x2 (x3 + 1)
def r_beat_269 (N : Nat) (rec7 : St → Int → Int → Int → Option (St × Int)) (rec56 : St → Int → Int → Int → Int → Int → Option (St × Int)) (σ : St) (x1 : Int) (x2 : Int) (x3 : Int) (x4 : Int) (x5 : Int) : Option (St × Int) := rec56 σ x1 x2 x3 x4 (x5 + 1)
def r_beat_56 (N : Nat) (rec7 : St → Int → Int → Int → Option (St × Int)) : Nat → St → Int → Int → Int → Int → Int → Option (St × Int)
  | 0, _, _, _, _, _, _ => none
  | n + 1, σ, x1, x2, x3, x4, x5 => grd (i32 x5) (
 grd (i32 (fl σ 84 0)) (
 if x5 < (fl σ 84 0) then
 grd (inb x5 30000) (
 grd (i32 (fl σ 115 0)) (
 grd (inb x4 103000) (
 grd (i32 (el σ 63 x4)) (
 bnd ((el σ 52 x5) - ((fl σ 115 0) * (el σ 63 x4))) (fun v32 =>
 grd (i32 x1) (
 grd (i64 (v32 * 960)) (
 grd (i64 (x1 * (el σ 63 x4))) (
 if (v32 * 960) < (x1 * (el σ 63 x4)) then
 r_beat_269 N rec7 (r_beat_56 N rec7 n) σ x1 x2 x3 x4 x5
 else
 grd (i32 x2) (
 grd (i64 (x2 * (el σ 63 x4))) (
 if (v32 * 960) < (x2 * (el σ 63 x4)) then
 grd (inb (fl σ 139 0) 3300) (
 r_beat_269 N rec7 (r_beat_56 N rec7 n) (sf (se (se (se (se (se (se (se (se σ 9 (fl σ 139 0) x3) 8 (fl σ 139 0) (el σ 63 x4)) 7 (fl σ 139 0) v32) 6 (fl σ 139 0) ((el σ 51 x5) - (el σ 52 x5))) 5 (fl σ 139 0) (el σ 50 x5)) 4 (fl σ 139 0) (el σ 49 x5)) 3 (fl σ 139 0) (el σ 48 x5)) 2 (fl σ 139 0) (el σ 47 x5)) 139 0 ((fl σ 139 0) + 1)) x1 x2 x3 x4 x5)
 else
 r_beat_269 N rec7 (r_beat_56 N rec7 n) σ x1 x2 x3 x4 x5))))))))))
 else
 r_beat_275 N rec7 σ x1 x2 x3))
def r_beat_321 (N : Nat)  (σ : St)  : Option (St × Int) := some (σ, (fl σ 139 0))
def r_beat_287 (N : Nat)  : Nat → St → Int → Option (St × Int)
  | 0, _, _ => none
  | n + 1, σ, x3 => grd (i32 x3) (
 grd (i32 (fl σ 139 0)) (
 if x3 < (fl σ 139 0) then
 grd (i32 (fl σ 129 0)) (
 if (fl σ 129 0) < 400 then
 grd (inb x3 3300) (
 Option.bind (r_hear N σ (el σ 1 x3)) (fun r23 =>
 (r_beat_287 N n) r23 (x3 + 1)))
 else
 r_beat_321 N σ)
 else
 r_beat_321 N σ))
def r_beat_7 (N : Nat)  : Nat → St → Int → Int → Int → Option (St × Int)
  | 0, _, _, _, _ => none
  | n + 1, σ, x1, x2, x3 => grd (i32 x3) (
 if x3 < 8 then
 grd (inb x3 8) (
 grd (i32 (el σ 28 x3)) (
 if (el σ 28 x3) = (-1) then
 r_beat_275 N (r_beat_7 N n) σ x1 x2 x3
 else
 Option.bind (r_isSounding N σ x3) (fun r8 =>
 grd (i32 r8.2) (
 if r8.2 = 0 then
 r_beat_275 N (r_beat_7 N n) r8.1 x1 x2 x3
 else
 bnd (el r8.1 28 x3) (fun v12 =>
 grd (i32 (fl r8.1 115 0)) (
 Option.bind (r_rowOf N r8.1 v12 (fl r8.1 115 0)) (fun r15 =>
 r_beat_56 N (r_beat_7 N n) N r15 x1 x2 x3 v12 0)))))))
 else
 Option.bind (r_arrange N σ) (fun r3 =>
 r_beat_287 N N r3 0))
def r_beat (N : Nat) (σ : St) (x1 : Int) (x2 : Int) : Option (St × Int) := r_beat_7 N N (sf σ 139 0 0) x1 x2 0
def r_play_85 (N : Nat) (rec54 : St → Int → Int → Option (St × Int)) (σ : St) (x4 : Int) (x5 : Int) (s0 : Int) : Option (St × Int) := Option.bind (r_beat N σ (fl σ 116 0) ((fl σ 116 0) + s0)) (fun r14 =>
 bnd (x5 + r14.2) (fun v16 =>
 bnd (x4 - s0) (fun v18 =>
 grd (i32 ((fl r14.1 116 0) + s0)) (
 if ((fl r14.1 116 0) + s0) < 960 then
 rec54 (sf r14.1 116 0 ((fl r14.1 116 0) + s0)) v18 v16
 else
 bnd (sf (sf (sf r14.1 116 0 ((fl r14.1 116 0) + s0)) 116 0 0) 115 0 ((fl r14.1 115 0) + 1)) (fun σ22 =>
 Option.bind (r_swaps N σ22) (fun r24 =>
 rec54 r24 v18 v16))))))
def r_play_54 (N : Nat)  : Nat → St → Int → Int → Option (St × Int)
  | 0, _, _, _ => none
  | n + 1, σ, x4, x5 => grd (i32 x4) (
 if (0 : Int) < x4 then
 grd (i32 (960 - (fl σ 116 0))) (
 if x4 < (960 - (fl σ 116 0)) then
 r_play_85 N (r_play_54 N n) σ x4 x5 x4
 else
 r_play_85 N (r_play_54 N n) σ x4 x5 (960 - (fl σ 116 0)))
 else
 some ((sf σ 117 0 ((fl σ 117 0) + x5)), x5))
def r_play (N : Nat) (σ : St) (x1 : Int) : Option (St × Int) := grd (i32 x1) (
 if x1 < 1 then
 some (σ, (-1))
 else
 if (3840 : Int) < x1 then
 some (σ, (-1))
 else
 grd (i32 (fl σ 115 0)) (
 grd (i32 (fl σ 116 0)) (
 bnd ((((fl σ 115 0) * 960) + (fl σ 116 0)) + x1) (fun v6 =>
 grd (i64 v6) (
 if (96000000 : Int) < v6 then
 some (σ, (-1))
 else
 r_play_54 N N (sf σ 129 0 0) x1 0)))))
def r_heard_97 (N : Nat)  (σ : St) (s0 : Int) (s1 : Int) (s2 : Int) : Option (St × Int) := Option.bind (r_lowest N s2 s1 s0) (fun r34 =>
 some (σ, r34))
def r_heard_124 (N : Nat)  (σ : St) (s0 : Int) (s1 : Int) (s2 : Int) : Option (St × Int) := Option.bind (r_lowest N s2 s1 s0) (fun r36 =>
 some (σ, r36))
def r_heard (N : Nat) (σ : St) (x1 : Int) (x2 : Int) : Option (St × Int) := grd (i32 x1) (
 if x1 < 0 then
 some (σ, (-1))
 else
 grd (i32 (fl σ 129 0)) (
 if x1 < (fl σ 129 0) then
 grd (i32 x2) (
 if x2 = 0 then
 grd (inb x1 400) (
 some (σ, (el σ 18 x1)))
 else (if x2 = 1 then
 grd (inb x1 400) (
 some (σ, (el σ 17 x1)))
 else (if x2 = 2 then
 grd (inb x1 400) (
 grd (i32 (el σ 16 x1)) (
 if x2 = 3 then
 r_heard_97 N σ 1 (el σ 16 x1) (el σ 15 x1)
 else
 r_heard_97 N σ 0 (el σ 16 x1) (el σ 15 x1)))
 else (if x2 = 3 then
 grd (inb x1 400) (
 grd (i32 (el σ 16 x1)) (
 if x2 = 3 then
 r_heard_97 N σ 1 (el σ 16 x1) (el σ 15 x1)
 else
 r_heard_97 N σ 0 (el σ 16 x1) (el σ 15 x1)))
 else (if x2 = 4 then
 grd (inb x1 400) (
 grd (i32 (el σ 16 x1)) (
 if x2 = 5 then
 r_heard_124 N σ 1 (el σ 16 x1) (el σ 14 x1)
 else
 r_heard_124 N σ 0 (el σ 16 x1) (el σ 14 x1)))
 else (if x2 = 5 then
 grd (inb x1 400) (
 grd (i32 (el σ 16 x1)) (
 if x2 = 5 then
 r_heard_124 N σ 1 (el σ 16 x1) (el σ 14 x1)
 else
 r_heard_124 N σ 0 (el σ 16 x1) (el σ 14 x1)))
 else (if x2 = 6 then
 grd (inb x1 400) (
 grd (i32 (iand (el σ 10 x1) 2)) (
 if (iand (el σ 10 x1) 2) = 2 then
 some (σ, (el σ 11 x1))
 else
 some (σ, 0)))
 else (if x2 = 7 then
 grd (inb x1 400) (
 Option.bind (r_letters N (el σ 13 x1) (el σ 12 x1)) (fun r32 =>
 some (σ, r32)))
 else (some (σ, (-1)))))))))))
 else
 some (σ, (-1))))
def r_heardLetter_12 (N : Nat)  (σ : St)  : Option (St × Int) := some (σ, (-1))
def r_heardLetter (N : Nat) (σ : St) (x1 : Int) (x2 : Int) : Option (St × Int) := grd (i32 x1) (
 if x1 < 0 then
 r_heardLetter_12 N σ
 else
 grd (i32 (fl σ 129 0)) (
 if x1 < (fl σ 129 0) then
 grd (inb x1 400) (
 Option.bind (r_letterAt N (el σ 13 x1) (el σ 12 x1) x2) (fun r6 =>
 some (σ, r6)))
 else
 r_heardLetter_12 N σ))
def r_jump (N : Nat) (σ : St) (x1 : Int) : Option (St × Int) := grd (i32 x1) (
 if x1 < 0 then
 some (σ, 0)
 else
 if x1 < 100000 then
 bnd (sf (sf σ 115 0 x1) 116 0 0) (fun σ4 =>
 Option.bind (r_swaps N σ4) (fun r6 =>
 some (r6, 1)))
 else
 some (σ, 0))
def r_mute (N : Nat) (σ : St) (x1 : Int) (x2 : Int) : Option (St × Int) := Option.bind (r_isTrack N σ x1) (fun r1 =>
 grd (i32 r1.2) (
 if r1.2 = 0 then
 some (r1.1, 0)
 else
 grd (inb x1 8) (
 bnd (el r1.1 26 x1) (fun v6 =>
 grd (isZ x2) (
 grd (isZ v6) (
 some ((se r1.1 26 x1 x2), v6)))))))
def r_solo (N : Nat) (σ : St) (x1 : Int) (x2 : Int) : Option (St × Int) := Option.bind (r_isTrack N σ x1) (fun r1 =>
 grd (i32 r1.2) (
 if r1.2 = 0 then
 some (r1.1, 0)
 else
 grd (inb x1 8) (
 bnd (el r1.1 25 x1) (fun v6 =>
 grd (isZ x2) (
 grd (isZ v6) (
 some ((se r1.1 25 x1 x2), v6)))))))
def r_seed (N : Nat) (σ : St) (x1 : Int) : Option St := some (sf σ 95 0 x1)
def r_about_83 (N : Nat) (rec61 : St → Int → Int → Option (St × Int)) (σ : St) (x3 : Int) (s0 : Int) (s1 : Int) : Option (St × Int) := bnd (s1 + s0) (fun v19 =>
 rec61 σ v19 (x3 + 1))
def r_about_61 (N : Nat)  : Nat → St → Int → Int → Option (St × Int)
  | 0, _, _, _ => none
  | n + 1, σ, x2, x3 => grd (i32 x3) (
 if x3 < 8 then
 grd (inb x3 8) (
 grd (i32 (el σ 28 x3)) (
 if (el σ 28 x3) = (-1) then
 r_about_83 N (r_about_61 N n) σ x3 0 x2
 else
 r_about_83 N (r_about_61 N n) σ x3 1 x2))
 else
 some (σ, x2))
def r_about_118 (N : Nat) (rec95 : St → Int → Int → Option (St × Int)) (σ : St) (x3 : Int) (s0 : Int) (s1 : Int) : Option (St × Int) := bnd (s1 + s0) (fun v21 =>
 rec95 σ v21 (x3 + 1))
def r_about_95 (N : Nat)  : Nat → St → Int → Int → Option (St × Int)
  | 0, _, _, _ => none
  | n + 1, σ, x2, x3 => grd (i32 x3) (
 if x3 < 8 then
 grd (inb x3 8) (
 grd (i32 (el σ 27 x3)) (
 if (el σ 27 x3) = (-2) then
 r_about_118 N (r_about_95 N n) σ x3 0 x2
 else
 r_about_118 N (r_about_95 N n) σ x3 1 x2))
 else
 some (σ, x2))
def r_about (N : Nat) (σ : St) (x1 : Int) : Option (St × Int) := grd (i32 x1) (
 if x1 = 0 then
 some (σ, (fl σ 115 0))
 else (if x1 = 1 then
 some (σ, (fl σ 116 0))
 else (if x1 = 2 then
 some (σ, (fl σ 34 0))
 else (if x1 = 3 then
 r_about_61 N N σ 0 0
 else (if x1 = 4 then
 r_about_95 N N σ 0 0
 else (if x1 = 5 then
 some (σ, (fl σ 117 0))
 else (if x1 = 6 then
 some (σ, (fl σ 1 0))
 else (some (σ, (-1))))))))))
