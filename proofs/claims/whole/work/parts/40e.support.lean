/-! counts of cells and slots -/
theorem cat_i (x : Int32) : (Value.int x).category = 1 := rfl
theorem cat_l (x : Int64) : (Value.long x).category = 2 := rfl
theorem W_cast {p : Program} {l : Launch} {e : Env} {R : Room} {s : State} {m : MethodId} {args : Array Value} {below : List Frame} {meth : Method} {c : Code} {H : Heap} {locs : List Loc} {a b a' b' : Nat} {Q : State → Prop} {f : JFrame} (ha : a = a') (hb : b = b') (k : W p l e R s m args below meth c H locs a b Q f) : W p l e R s m args below meth c H locs a' b' Q f := by subst ha hb; exact k
section CN
variable {π0 π ρ τ : Sh} {c w t : Nat} {n : Int}
theorem wcO (h : ext π0 π) : nn π - nn π0 + 1 = nn (nO π c w) - nn π0 := by have := h.1; show _ = nn π + 1 - nn π0; omega
theorem wsO (h : ext π0 π) : sw π - sw π0 + w = sw (nO π c w) - sw π0 := by have := h.2.1; show _ = sw π + w - sw π0; omega
theorem wcA (h : ext π0 π) : nn π - nn π0 + 1 = nn (nA π t n) - nn π0 := by have := h.1; show _ = nn π + 1 - nn π0; omega
theorem wsA (h : ext π0 π) : sw π - sw π0 + n.toNat = sw (nA π t n) - sw π0 := by have := h.2.1; show _ = sw π + n.toNat - sw π0; omega
theorem wcC (h : ext π0 π) (k : ext π ρ) : nn π - nn π0 + (nn ρ - nn π) = nn ρ - nn π0 := by have := h.1; have := k.1; omega
theorem wsC (h : ext π0 π) (k : ext π ρ) : sw π - sw π0 + (sw ρ - sw π) = sw ρ - sw π0 := by have := h.2.1; have := k.2.1; omega
theorem rc1 (h : ext π0 π) (k : ext (nO π c w) ρ) : nn π - nn π0 + 1 ≤ nn ρ - nn π0 := by have := h.1; have k1 : nn π + 1 ≤ nn ρ := k.1; omega
theorem rs1 (h : ext π0 π) (k : ext (nO π c w) ρ) : sw π - sw π0 + w ≤ sw ρ - sw π0 := by have := h.2.1; have k1 : sw π + w ≤ sw ρ := k.2.1; omega
theorem rc1A (h : ext π0 π) (k : ext (nA π t n) ρ) : nn π - nn π0 + 1 ≤ nn ρ - nn π0 := by have := h.1; have k1 : nn π + 1 ≤ nn ρ := k.1; omega
theorem rs1A (h : ext π0 π) (k : ext (nA π t n) ρ) : sw π - sw π0 + n.toNat ≤ sw ρ - sw π0 := by have := h.2.1; have k1 : sw π + n.toNat ≤ sw ρ := k.2.1; omega
theorem rcC (h : ext π0 π) (k : ext π ρ) (j : ext ρ τ) : nn π - nn π0 + (nn ρ - nn π) ≤ nn τ - nn π0 := by have := h.1; have := k.1; have := j.1; omega
theorem rsC (h : ext π0 π) (k : ext π ρ) (j : ext ρ τ) : sw π - sw π0 + (sw ρ - sw π) ≤ sw τ - sw π0 := by have := h.2.1; have := k.2.1; have := j.2.1; omega
theorem czz (h : ext π0 π) (k : ext π ρ) : nn π - nn π0 + 0 ≤ nn ρ - nn π0 := by have := k.1; omega
theorem szz (h : ext π0 π) (k : ext π ρ) : sw π - sw π0 + 0 ≤ sw ρ - sw π0 := by have := k.2.1; omega
theorem cz0 (h : ext π0 π) (k : ext π ρ) : nn π - nn π0 ≤ nn ρ - nn π0 := by have := k.1; omega
theorem sz0 (h : ext π0 π) (k : ext π ρ) : sw π - sw π0 ≤ sw ρ - sw π0 := by have := k.2.1; omega
theorem lt_m1 (π : Sh) : (-1 : Int) < nn π := by omega
theorem lt_ext {x : Int} (h : x < nn π) (k : ext π ρ) : x < nn ρ := by have := k.1; omega
theorem lt_nO {c w : Nat} : ((nn π : Nat) : Int) < nn (nO π c w) := by show (nn π : Int) < ((nn π + 1 : Nat) : Int); omega
theorem lt_nA {t : Nat} {n : Int} : ((nn π : Nat) : Int) < nn (nA π t n) := by show (nn π : Int) < ((nn π + 1 : Nat) : Int); omega
end CN
/-! rows of this class's own need -/
theorem v_cwS {R : Room} {s : State} {args : Array Value} {own : String} {index maxL mc ms : Nat} {y : MethodName} {bytes : ByteArray} {ret : Option FieldType} {Ts ws ws' : List Cond} {rm : Room} (n : Nat) (ht : ∀ w ∈ Ts, w.before args s = true) (hG : GoodIn Ts ws) (hw : ws = Cond.code y bytes maxL ret :: ws') (hrc : rm.cells = mc) (hrs : rm.slots = ms) (hini : (Cond.initialized y.cls).before args s = true) (hl : (Cond.methodLink own index y).before args s = true) (hst : (Cond.static y).before args s = true)
    (hd : y.cls ≠ "java/lang/invoke/MethodHandle" ∧ y.cls ≠ "java/lang/invoke/VarHandle" ∧ (parseMethodDescriptor y.desc).map (fun d => d.parameters.length) = some n) (hR : rm.frames + 1 ≤ R.frames ∧ 8 + (maxL + 11) + rm.locals ≤ R.locals) : CallB R s args own index y bytes maxL ret ws rm mc ms n ∧ (Cond.static y).before args s = true :=
  ⟨callB_of n ht hG hw hrc hrs hini hl hd hR, hst⟩
section VR
variable {p : Program} {l : Launch} {e : Env} {R : Room} {s : State} {m : MethodId} {args : Array Value} {below : List Frame} {meth : Method} {c : Code} {H : Heap} {locs : List Loc} {cells slots : Nat} {Q : State → Prop}
variable {cc : ByteArray} {pc : Nat} {ls : Array Slot} {rest st0 : List Value} {D : va_G} {A : Nat → Prop} {k : Nat → ClassId} {H0 : Heap} {own : String} {Ts : List Cond} {nL : Nat} {z mi : Nat} {aK aV : Nat → Nat} {g : Nat → Nat} {π : Sh} {σ : St} {x y i : Int}
theorem v_objInit {TY : List (ClassId × FieldType)} (C : Cx p s m args c cc own Ts D TY nL) {idx : Nat} (hsz : ls.size = nL) (hx : 0 ≤ x) (hdg : decode cc pc = .ok (.invokespecial idx, 3)) (hlink : Cond.methodLink own idx objectInit ∈ Ts) (hi : Cond.instanceMethod objectInit ∈ Ts) (hcd : Cond.code objectInit ⟨#[0xb1]⟩ 1 none ∈ Ts) (hf : 1 ≤ R.frames) (hr : (rest.map fun v => v.category).sum + 12 ≤ R.locals)
    (kk : W p l e R s m args below meth c H locs cells slots Q (F0 m (pc + 3) ls rest)) : W p l e R s m args below meth c H locs cells slots Q (F0 m pc ls (rfv g x :: rest)) := by
  rw [rfv_s hx]; exact x_objInit C hsz hdg hlink hi hcd hf hr kk
theorem v_cast (C : Cx p s m args c cc own Ts D (TYs k) nL) (h : Hp D A H0 H locs (cW k z g π σ)) {c0 : Nat} {r0 : vw_C} {nm : String} {index : Nat} (hO : ob π x c0) (hc : vwCl[c0]? = some r0) (h20 : c0 < 20) (hca : va_Nw (.castable r0.1 nm) s) (hlink : Cond.classLink own index nm ∈ Ts) (hdg : decode cc pc = .ok (.checkcast index, 3))
    (kk : W p l e R s m args below meth c H locs cells slots Q (F0 m (pc + 3) ls (rfv g x :: rest))) : W p l e R s m args below meth c H locs cells slots Q (F0 m pc ls (rfv g x :: rest)) := by
  rw [rfv_s hO.1] at kk ⊢
  exact va_castY C.1 C.2.1 C.2.2.2.1 (C.2.2.1 _ hlink) hca (va_recv C.2.2.2.2.1 h.1 (ci := c0) (q0 := x.toNat) (q := r0) hc (cW_ob k z g σ hO h20)) hdg kk
theorem c32_max {x y : Int} (hx : i32 x) (hy : i32 y) : (if Int32.ofInt x < Int32.ofInt y then Int32.ofInt y else Int32.ofInt x) = Int32.ofInt (max x y) := by
  by_cases h : x < y
  · rw [if_pos ((c32_lt hx hy).mpr h)]; congr 1; omega
  · rw [if_neg (fun q => h ((c32_lt hx hy).mp q))]; congr 1; omega
theorem c32_min {x y : Int} (hx : i32 x) (hy : i32 y) : (if Int32.ofInt y < Int32.ofInt x then Int32.ofInt y else Int32.ofInt x) = Int32.ofInt (min x y) := by
  by_cases h : y < x
  · rw [if_pos ((c32_lt hy hx).mpr h)]; congr 1; omega
  · rw [if_neg (fun q => h ((c32_lt hy hx).mp q))]; congr 1; omega
theorem c64_max {x y : Int} (hx : i64 x) (hy : i64 y) : (if Int64.ofInt y < Int64.ofInt x then Int64.ofInt x else Int64.ofInt y) = Int64.ofInt (max x y) := by
  by_cases h : y < x
  · rw [if_pos ((c64_lt hy hx).mpr h)]; congr 1; omega
  · rw [if_neg (fun q => h ((c64_lt hy hx).mp q))]; congr 1; omega
theorem c64_min {x y : Int} (hx : i64 x) (hy : i64 y) : (if Int64.ofInt y < Int64.ofInt x then Int64.ofInt y else Int64.ofInt x) = Int64.ofInt (min x y) := by
  by_cases h : y < x
  · rw [if_pos ((c64_lt hy hx).mpr h)]; congr 1; omega
  · rw [if_neg (fun q => h ((c64_lt hy hx).mp q))]; congr 1; omega
theorem v_max {TY : List (ClassId × FieldType)} (C : Cx p s m args c cc own Ts D TY nL) {index : Nat} (hsz : ls.size = nL) (hdg : decode cc pc = .ok (.invokestatic index, 3)) (hx : i32 x) (hy : i32 y) (hl : Cond.methodLink own index Lib.Math.max.name ∈ Ts) (hs : Cond.static Lib.Math.max.name ∈ Ts) (hc : Cond.code Lib.Math.max.name Lib.Math.max.code 2 (some .int) ∈ Ts) (hi : Cond.initialized "java/lang/Math" ∈ Ts) (hf : 1 ≤ R.frames) (hlo : (rest.map fun v => v.category).sum + 15 ≤ R.locals) (hce : cells ≤ R.cells) (hsl : slots ≤ R.slots)
    (kk : W p l e R s m args below meth c H locs cells slots Q (F0 m (pc + 3) ls (.int (Int32.ofInt (max x y)) :: rest))) : W p l e R s m args below meth c H locs cells slots Q (F0 m pc ls (.int (Int32.ofInt y) :: .int (Int32.ofInt x) :: rest)) :=
  va_mmax C.1 C.2.1 (by rw [C.2.2.2.2.2]; exact hsz.symm) C.2.2.2.1 (C.2.2.1 _ hl) (C.2.2.1 _ hs) (C.2.2.1 _ hi) (C.2.2.1 _ hc) hf (by omega) hce hsl hdg (by rw [c32_max hx hy]; exact kk)
theorem v_min {TY : List (ClassId × FieldType)} (C : Cx p s m args c cc own Ts D TY nL) {index : Nat} (hsz : ls.size = nL) (hdg : decode cc pc = .ok (.invokestatic index, 3)) (hx : i32 x) (hy : i32 y) (hl : Cond.methodLink own index Lib.Math.min.name ∈ Ts) (hs : Cond.static Lib.Math.min.name ∈ Ts) (hc : Cond.code Lib.Math.min.name Lib.Math.min.code 2 (some .int) ∈ Ts) (hi : Cond.initialized "java/lang/Math" ∈ Ts) (hf : 1 ≤ R.frames) (hlo : (rest.map fun v => v.category).sum + 15 ≤ R.locals) (hce : cells ≤ R.cells) (hsl : slots ≤ R.slots)
    (kk : W p l e R s m args below meth c H locs cells slots Q (F0 m (pc + 3) ls (.int (Int32.ofInt (min x y)) :: rest))) : W p l e R s m args below meth c H locs cells slots Q (F0 m pc ls (.int (Int32.ofInt y) :: .int (Int32.ofInt x) :: rest)) :=
  va_mmin C.1 C.2.1 (by rw [C.2.2.2.2.2]; exact hsz.symm) C.2.2.2.1 (C.2.2.1 _ hl) (C.2.2.1 _ hs) (C.2.2.1 _ hi) (C.2.2.1 _ hc) hf (by omega) hce hsl hdg (by rw [c32_min hx hy]; exact kk)
theorem v_max_l {TY : List (ClassId × FieldType)} (C : Cx p s m args c cc own Ts D TY nL) {index : Nat} (hsz : ls.size = nL) (hdg : decode cc pc = .ok (.invokestatic index, 3)) (hx : i64 x) (hy : i64 y) (hl : Cond.methodLink own index Lib.MathLoose.max_long.x ∈ Ts) (hs : Cond.static Lib.MathLoose.max_long.x ∈ Ts) (hc : Cond.code Lib.MathLoose.max_long.x Lib.MathLoose.max_long.code 4 (some .long) ∈ Ts) (hi : Cond.initialized "java/lang/Math" ∈ Ts) (hf : 1 ≤ R.frames) (hlo : (rest.map fun v => v.category).sum + 15 ≤ R.locals) (hce : cells ≤ R.cells) (hsl : slots ≤ R.slots)
    (kk : W p l e R s m args below meth c H locs cells slots Q (F0 m (pc + 3) ls (.long (Int64.ofInt (max x y)) :: rest))) : W p l e R s m args below meth c H locs cells slots Q (F0 m pc ls (.long (Int64.ofInt y) :: .long (Int64.ofInt x) :: rest)) :=
  va_mmax_long C.1 C.2.1 (by rw [C.2.2.2.2.2]; exact hsz.symm) C.2.2.2.1 (C.2.2.1 _ hl) (C.2.2.1 _ hs) (C.2.2.1 _ hi) (C.2.2.1 _ hc) hf (by omega) hce hsl hdg (by rw [c64_max hx hy]; exact kk)
theorem v_min_l {TY : List (ClassId × FieldType)} (C : Cx p s m args c cc own Ts D TY nL) {index : Nat} (hsz : ls.size = nL) (hdg : decode cc pc = .ok (.invokestatic index, 3)) (hx : i64 x) (hy : i64 y) (hl : Cond.methodLink own index Lib.MathLoose.min_long.x ∈ Ts) (hs : Cond.static Lib.MathLoose.min_long.x ∈ Ts) (hc : Cond.code Lib.MathLoose.min_long.x Lib.MathLoose.min_long.code 4 (some .long) ∈ Ts) (hi : Cond.initialized "java/lang/Math" ∈ Ts) (hf : 1 ≤ R.frames) (hlo : (rest.map fun v => v.category).sum + 15 ≤ R.locals) (hce : cells ≤ R.cells) (hsl : slots ≤ R.slots)
    (kk : W p l e R s m args below meth c H locs cells slots Q (F0 m (pc + 3) ls (.long (Int64.ofInt (min x y)) :: rest))) : W p l e R s m args below meth c H locs cells slots Q (F0 m pc ls (.long (Int64.ofInt y) :: .long (Int64.ofInt x) :: rest)) :=
  va_mmin_long C.1 C.2.1 (by rw [C.2.2.2.2.2]; exact hsz.symm) C.2.2.2.1 (C.2.2.1 _ hl) (C.2.2.1 _ hs) (C.2.2.1 _ hi) (C.2.2.1 _ hc) hf (by omega) hce hsl hdg (by rw [c64_min hx hy]; exact kk)
def chW (i : Int) : Int := (sC 1 i.toNat).toInt
theorem v_ldcS {TY : List (ClassId × FieldType)} (C : Cx p s m args c cc own Ts D TY nL) {index : Nat} {tx : String} {a : Nat} (hR : vk_R own index tx a s) (hdg : decode cc pc = .ok (.ldc index, 2)) (kk : W p l e R s m args below meth c H locs cells slots Q (F0 m (pc + 2) ls (.ref a :: rest))) : W p l e R s m args below meth c H locs cells slots Q (F0 m pc ls rest) :=
  va_ldcS C.1 C.2.1 C.2.2.2.1 hR hdg kk
theorem v_charAt (C : Cx p s m args c cc own Ts D (TYs k) nL) (hE : Ev z mi aK aV A s s.heap) (h : Hp D A s.heap H locs (cW k z g π σ)) {index maxL : Nat} {bytes : ByteArray} {ret : Option FieldType} (hi : inb i 84) (hdg : decode cc pc = .ok (.invokevirtual index, 3)) (cw : CallW R s args own "java/lang/String" index yJ0_charAt_5068e bytes maxL ret wsJ0_charAt_5068e { frames := 3, cells := 0, slots := 0, locals := 64 } 0 0 1) (hsz : ls.size = nL) (hW : (rest.map fun v => v.category).sum ≤ 8) (hf : cells + 0 ≤ R.cells ∧ slots + 0 ≤ R.slots)
    (kk : ∀ (H1 : Heap) (locs1 : List Loc), Hp D A s.heap H1 locs1 (cW k z g π σ) → W p l e R s m args below meth c H1 locs1 cells slots Q (F0 m (pc + 3) ls (.int (Int32.ofInt (chW i)) :: rest))) : W p l e R s m args below meth c H locs cells slots Q (F0 m pc ls (.int (Int32.ofInt i) :: .ref (aK 1) :: rest)) := by
  have h1 := hi.1
  have h2 := hi.2
  have e : Int32.ofInt i = nI i.toNat := by
    show _ = Int32.ofNat _
    rw [c32_nat, toNat_c h1]
  rw [e]
  refine x_callVi (wr := cW k z g π σ) C h (m_charAt l D k z aK aV 1 (by decide) i.toNat (by show _ < 84; omega)) [] (List.range (cW k z g π σ).length) rfl (rg_map _) rfl (nd_of List.nodup_range) (fun _ _ h => nomatch h) (xok_E hE.1 h [] rfl) (vk_recv hE.1.2.2.2.2.2.2.2.2.2.2.2.1 (i := 1) (by decide) h.2.2.1) cw rfl hsz rfl hW hdg hf (fun v0 _ H1 locs1 hu h => ?_)
  rw [List.append_nil] at h
  rw [hu]
  have e2 : Int32.ofInt (chW i) = sC 1 i.toNat := by rw [chW, Int32.ofInt_toInt]
  rw [← e2]
  exact kk H1 locs1 h
theorem v_callSi (C : Cx p s m args c cc own Ts D (TYs k) nL) {ws : va_W} (h : Hp D A H0 H locs ws) {yy : MethodName} {bytes : ByteArray} {maxL n index : Nat} {ret : Option FieldType} {Ts' : List Cond} {rm : Room} {As : List Value} {r : Int} (hM : Mi l yy Ts' rm As D (TYs k) [] (fun _ => True) Unit (fun v _ => v = Int32.ofInt r) (fun _ => []) 0 0) (cw : CallB R s args own index yy bytes maxL ret Ts' rm 0 0 n ∧ (Cond.static yy).before args s = true) (hn : As.length = n) (hsz : ls.size = nL) (hst : st0 = As.reverse ++ rest) (hW : (rest.map fun v => v.category).sum ≤ 8) (hdg : decode cc pc = .ok (.invokestatic index, 3)) (hf : cells + 0 ≤ R.cells ∧ slots + 0 ≤ R.slots) (kk : ∀ (H1 : Heap) (locs1 : List Loc), Hp D A H0 H1 locs1 ws → W p l e R s m args below meth c H1 locs1 cells slots Q (F0 m (pc + 3) ls (.int (Int32.ofInt r) :: rest))) : W p l e R s m args below meth c H locs cells slots Q (F0 m pc ls st0) :=
  x_callSi (wr := ws) C h hM [] (List.range ws.length) rfl (rg_map _) rfl (nd_of List.nodup_range) (fun _ _ h => nomatch h) xok_T cw hn hsz hst hW hdg hf (fun v0 _ H1 locs1 hu h => by subst hu; rw [List.append_nil] at h; exact kk H1 locs1 h)
theorem v_callSl (C : Cx p s m args c cc own Ts D (TYs k) nL) {ws : va_W} (h : Hp D A H0 H locs ws) {yy : MethodName} {bytes : ByteArray} {maxL n index : Nat} {ret : Option FieldType} {Ts' : List Cond} {rm : Room} {As : List Value} {r : Int} (hM : Ml l yy Ts' rm As D (TYs k) [] (fun _ => True) Unit (fun v _ => v = Int64.ofInt r) (fun _ => []) 0 0) (cw : CallB R s args own index yy bytes maxL ret Ts' rm 0 0 n ∧ (Cond.static yy).before args s = true) (hn : As.length = n) (hsz : ls.size = nL) (hst : st0 = As.reverse ++ rest) (hW : (rest.map fun v => v.category).sum ≤ 8) (hdg : decode cc pc = .ok (.invokestatic index, 3)) (hf : cells + 0 ≤ R.cells ∧ slots + 0 ≤ R.slots) (kk : ∀ (H1 : Heap) (locs1 : List Loc), Hp D A H0 H1 locs1 ws → W p l e R s m args below meth c H1 locs1 cells slots Q (F0 m (pc + 3) ls (.long (Int64.ofInt r) :: rest))) : W p l e R s m args below meth c H locs cells slots Q (F0 m pc ls st0) :=
  x_callSl (wr := ws) C h hM [] (List.range ws.length) rfl (rg_map _) rfl (nd_of List.nodup_range) (fun _ _ h => nomatch h) xok_T cw hn hsz hst hW hdg hf (fun v0 _ H1 locs1 hu h => by subst hu; rw [List.append_nil] at h; exact kk H1 locs1 h)
theorem v_iretS {v : Int} {ty : FieldType} (C : Cx p s m args c cc own Ts D (TYs k) nL) (h : Hp D A s.heap H locs []) (hr : meth.sig.returnType = some ty) (hlk : meth.locks = false) (hdg : decode cc pc = .ok (.ireturn, 1)) (hn : narrow ty (.int (Int32.ofInt v)) = .int (Int32.ofInt v)) : W p l e R s m args below meth c H locs 0 0 (MQ below (va_Qi (fun w (_ : Unit) => w = Int32.ofInt v) (fun _ t => PostW D (TYs k) A [] t) A) args s 0 0 A) (F0 m pc ls [.int (Int32.ofInt v)]) := x_iret C h hr hlk () hdg hn rfl rfl (Nat.le_refl _) (Nat.le_refl _)
theorem v_lretS {v : Int} (C : Cx p s m args c cc own Ts D (TYs k) nL) (h : Hp D A s.heap H locs []) (hr : meth.sig.returnType = some .long) (hlk : meth.locks = false) (hdg : decode cc pc = .ok (.lreturn, 1)) : W p l e R s m args below meth c H locs 0 0 (MQ below (va_Ql (fun w (_ : Unit) => w = Int64.ofInt v) (fun _ t => PostW D (TYs k) A [] t) A) args s 0 0 A) (F0 m pc ls [.long (Int64.ofInt v)]) := x_lret C h hr hlk () hdg rfl rfl (Nat.le_refl _) (Nat.le_refl _)
/-- a new list, its dup and its constructor -/
theorem c_newL (C : Cx p s m args c cc own Ts D (TYs k) nL) (hE : Ev z mi aK aV A s s.heap) (h : Hp D A s.heap H locs (cW k z g π σ)) (hC : Cl π σ) {index i2 maxL : Nat} {bytes : ByteArray} (hd1 : decode cc pc = .ok (.new index, 3)) (hd2 : decode cc (pc + 3) = .ok (.dup, 1)) (hd3 : decode cc (pc + 4) = .ok (.invokespecial i2, 3)) (hcl : Cond.classLink own index RJx4a65c ∈ Ts) (hins : Cond.instantiable RJx4a65c 3 ∈ Ts) (hini : Cond.initialized RJx4a65c ∈ Ts) (hin : ∀ w ∈ u_ws RJx4a65c TJx4a65c 3, w ∈ Ts)
    (cw : CallB R s args own i2 yJx4a65c_init_da8c8 bytes maxL none wsJx4a65c_init_da8c8 { frames := 3, cells := 0, slots := 0, locals := 52 } 0 0 0 ∧ yJx4a65c_init_da8c8.name = "<init>" ∧ (Cond.instanceMethod yJx4a65c_init_da8c8).before args s = true) (hsz : ls.size = nL) (hW : (rest.map fun v => v.category).sum ≤ 7) (hcells : cells + 1 ≤ R.cells) (hslots : slots + 3 ≤ R.slots)
    (kk : ∀ (u : Nat → Nat) (H1 : Heap) (locs1 : List Loc), gx (nn π) g u → Hp D A s.heap H1 locs1 (cW k z u (nO π 0 3) (zO σ (nn π) dfl)) → W p l e R s m args below meth c H1 locs1 (cells + 1) (slots + 3) Q (F0 m (pc + 7) ls (rfv u (nn π) :: rest))) : W p l e R s m args below meth c H locs cells slots Q (F0 m pc ls rest) := by
  refine x_new C h 0 (fs := [.int 0, .null, .int 0]) hd1 rfl hin tyJx4a65c_ok hcl hins hini (by decide) hcells hslots (fun q H1 h1 => ?_)
  refine lv_dup C.1 C.2.1 hd2 rfl ?_
  have hlen := cW_len k z g π σ
  refine x_callIv (wr := cW k z g π σ) C h1 (m_List l D k z aK aV q) [(cW k z g π σ).length] (List.range (cW k z g π σ).length) (by simp) ?_ rfl (nd_of List.nodup_range) (fun i hi hc => ?_) (xok_E hE.1 h1 [(cW k z g π σ).length] (by simp)) cw rfl hsz rfl (by rw [List.map_cons, List.sum_cons]; show 1 + _ ≤ 8; omega) hd3 ⟨hcells, hslots⟩ (fun _ H2 locs2 _ h2 => ?_)
  · rw [← rg_map]
    apply List.map_congr_left
    intro i hi
    exact List.getElem?_append_left (List.mem_range.mp hi)
  · have := List.mem_range.mp hi
    simp at hc
    omega
  · rw [cW_nO hC q (by decide) (fs := [.int 0, .ref z, .int 0]) (fun u i => rfl)] at h2
    rw [rfv_new g (nn π) q]
    exact kk _ H2 locs2 (gx_gu g _ q) h2
end VR
