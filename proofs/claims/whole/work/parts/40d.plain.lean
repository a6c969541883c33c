/-! contracts of methods of classes that the machine runs by entries of its own for other methods (Math) -/
theorem met_ofWF {l : Launch} {y : MethodName} {ws ws' : List Cond} {rm : Room} {Pc : Array Value → State → Prop} {Qc : Array Value → State → Outcome → State → Prop} {mc ms : Nat} {free : Addr → Prop} {cc : ByteArray} {maxL : Nat} {ret : Option FieldType}
    (hy : plainFor y = true) (hw : ws = Cond.code y cc maxL ret :: ws')
    (body : ∀ p e s m args below meth c s₁, BodyLoose p l y (headSpec ws rm) cc maxL ret e s m args below meth c s₁ → c.maxLocals = maxL → Pc args s →
      W p l e (headSpec ws rm).room s m args below meth c s.heap [] 0 0 (MQ below Qc args s mc ms free) (entryFrame m args maxL)) : Met l y ws rm Pc Qc mc ms free := by
  refine MetFree.of_bodySF (code := cc) (maxLocals := maxL) (ret := ret) hy ?_ ?_
  · intro args s m h hn
    obtain ⟨meth, c, h1, h2, h3, h4, h5, h6, -, -⟩ := Cond.code_spec hn (atoms_spec (ws := ws) h _ (by rw [hw]; exact List.mem_cons_self))
    exact ⟨meth, c, h1, h2, h3, h4, h5, h6⟩
  · intro p e s m args below meth c s₁ B hml hP _
    have hh0 : s₁.heap = s.heap := by rw [B.state]; rfl
    obtain ⟨t, a1, o, b1, b2, b3⟩ := body p e s m args below meth c s₁ B hml hP s₁ hh0 (Stand.of_body B)
    exact ⟨t, o, a1, b1, b2, ⟨b3.1, b3.2⟩⟩
theorem x_metF {l : Launch} {y : MethodName} {Ts Ts' : List Cond} {rm : Room} {av : List Value} {D : va_G} {TY : List (ClassId × FieldType)} {w0 : va_W} {X : State → Prop} {sz : Nat} {Qc : Array Value → State → Outcome → State → Prop} {mc ms : Nat} {cc : ByteArray} {maxL : Nat} {ret : Option FieldType}
    (hy : plainFor y = true) (hw : Ts = Cond.code y cc maxL ret :: Ts') (hav : (lg_sl av).length ≤ maxL)
    (body : ∀ (p : Program) (e : Env) (s : State) (m : MethodId) (below : List Frame) (meth : Method) (c : Code) (ls : Array Slot), Cx p s m av.toArray c cc y.cls Ts D TY maxL → X s → s.heap.size = sz → meth.sig.returnType = ret → meth.locks = false → meth.name = y.name → lv_has ls maxL (lv_args 0 av) → Hp D (va_A w0 sz) s.heap s.heap [] w0 →
      W p l e rm s m av.toArray below meth c s.heap [] 0 0 (MQ below Qc av.toArray s mc ms (va_A w0 sz)) (F0 m 0 ls [])) :
    Met l y Ts rm (va_Pc av (fun U => PreW D TY w0 sz U ∧ X U)) Qc mc ms (va_A w0 sz) := by
  refine met_ofWF (cc := cc) (maxL := maxL) (ret := ret) hy hw ?_
  intro p e s m args below meth c s₁ B hml hv
  obtain ⟨rfl, ⟨hsz, hP, hK, hD0⟩, hX⟩ := hv
  have hts := atoms_spec (ws := Ts) B.pre
  have hown : s.vm.findClass y.cls = some m.cls := findClass_of_methodNamed B.named
  have hin := (name_of_methodNamed B.named B.method).1
  have hl := lv_entry av (n := maxL) hav
  rw [lg_entry_eq]
  generalize (lg_sl av ++ List.replicate (maxL - (lg_sl av).length) Slot.unset).toArray = ls at hl ⊢
  exact body p e s m below meth c ls ⟨B.exec, B.bytes, hts, hown, hK, hml⟩ hX hsz B.returns B.notSynchronized hin hl ⟨hP, hD0.self, va_S.rf, fun q h => Or.inr (by rw [← hsz]; exact h)⟩
/-! a call with up to sixteen words left on the stack -/
section R16
variable {p : Program} {l : Launch} {e : Env} {R : Room} {s : State} {m : MethodId} {args : Array Value} {below : List Frame} {meth : Method} {c : Code} {H : Heap} {locs : List Loc} {cells slots : Nat} {Q : State → Prop}
variable {cc : ByteArray} {pc : Nat} {ls : Array Slot} {rest st0 : List Value} {D : va_G} {A : Nat → Prop} {TY : List (ClassId × FieldType)} {ws wc wr : va_W} {H0 : Heap} {own : String} {Ts : List Cond} {nL : Nat}
variable {y : MethodName} {bytes : ByteArray} {maxL mc ms n index : Nat} {ret : Option FieldType} {Ts' : List Cond} {rm : Room} {X : State → Prop} {Qc : Nat → Array Value → State → Outcome → State → Prop} {b : Nat} {As : List Value} {C1 : String}
theorem x_runV16 (C : Cx p s m args c cc own Ts D TY nL) (h : Hp D A H0 H locs ws) (isC : List Nat) (hM : ∀ sz, Met l y Ts' rm (va_Pc (.ref b :: As) (fun U => PreW D TY wc sz U ∧ X U)) (Qc sz) mc ms (va_A wc sz)) (hC : isC.map (fun i => ws[i]?) = wc.map some) (hn0 : va_nd isC = true) (hX : XOk X s H) (hrc : ∃ cellB : Cell, H[b]? = some cellB ∧ cellB.vm.isStatics = false ∧ s.vm.findClass C1 = some cellB.cls)
    (cw : CallW R s args own C1 index y bytes maxL ret Ts' rm mc ms n) (h16 : 16 + (maxL + 11) + rm.locals ≤ R.locals) (hn : As.length = n) (hsz : ls.size = nL) (hst : st0 = As.reverse ++ .ref b :: rest) (hW : (rest.map fun v => v.category).sum ≤ 16) (hdg : decode cc pc = .ok (.invokevirtual index, 3)) (hf : cells + mc ≤ R.cells ∧ slots + ms ≤ R.slots) :
    va_Run p l e R s m args below meth c H locs cells slots mc ms (F0 m pc ls st0) rest (Qc H.size (Value.ref b :: As).toArray) (va_A wc H.size) := by
  have hPc := h.1.sub (ws' := wc) isC (fm_of hC)
  have hDc := h.2.1.sub (ws' := wc) isC hn0 hC
  have hp := x_pre (av := .ref b :: As) hX C.2.2.2.2.1 hPc hDc
  obtain ⟨cb, hin, hse⟩ := cw
  obtain ⟨hrc', hrs, hfr, -, hws, hcw, hcode, hini, hy, hlen, hl⟩ := cb
  have hK : Back l R p e below s args y 3 16 (PreOf R mc ms (va_Pc (.ref b :: As) (fun U => PreW D TY wc H.size U ∧ X U))) (PostOf (Qc H.size) mc ms (va_A wc H.size)) :=
    back_of (bytes := bytes) (maxL := maxL) (ret := ret) (hM H.size) hp.1 hrc' hrs hfr h16 hws hcw (fun a' U hW => word_at hW (Or.inl (by first | rfl | simp [Cond.onTables, Cond.keeps, Cond.steady])) hini)
  obtain ⟨cellB, hcB, hoB, hclB⟩ := hrc
  intro T hT XX
  obtain ⟨v, vm₁, ⟨U', l2, c2, s2⟩, hW₁, X', ⟨g', mk, t, L, e1, e2, hq, h1, hL, h2, h3⟩, st⟩ := callV XX C.1 (C := C1) (bytes := bytes) (maxL := maxL) (ret := ret) C.2.2.2.1 hl hin hse hcode hy hK (by rw [hT]; exact hcB) hoB hclB (g := F0 m pc ls st0) rfl (hsz.trans C.2.2.2.2.2.symm) (argsL := As) (rest := rest) (fun sig h => hn.trans (hlen sig h)) hst (by show 2 * 0 + _ ≤ 16; omega) (by rw [C.2.1]; exact hdg)
    (fun vm₁ hW₁ => ⟨hf.1, hf.2, hp.2 (T.setVm vm₁) hT hW₁⟩)
  dsimp only [Pt.U, Pt.locs, Pt.cells, Pt.slots] at X' e1 e2 h1 h2 h3 st
  subst h1; subst h2; subst h3
  exact ⟨v, (T.setVm vm₁).calling g' mk (Value.ref b :: As).toArray, t, U', L, hT, X', hL, e1, e2, hq, st⟩
theorem c_callVlP16 {k : Nat → ClassId} {z mi : Nat} {aK aV g : Nat → Nat} {π : Sh} {σ : St} {x : Int} {c0 : Nat} {r0 : vw_C} (C : Cx p s m args c cc own Ts D (TYs k) nL) (hE : Ev z mi aK aV A s s.heap) (h : Hp D A s.heap H locs (cW k z g π σ)) (hO : ob π x c0) (hc : vwCl[c0]? = some r0) (h20 : c0 < 20) {r : St × Int} (hM : Ml l y Ts' rm (rfv g x :: As) D (TYs k) (cW k z g π σ) (XV z mi aK aV (cW k z g π σ)) Unit (fun v _ => v = Int64.ofInt r.2) (fun _ => cW k z g π r.1) 0 0) (cw : CallW R s args own r0.1 index y bytes maxL ret Ts' rm 0 0 n) (hn : As.length = n) (hsz : ls.size = nL) (hst : st0 = As.reverse ++ rfv g x :: rest) (h16 : 16 + (maxL + 11) + rm.locals ≤ R.locals) (hW : (rest.map fun v => v.category).sum ≤ 16) (hdg : decode cc pc = .ok (.invokevirtual index, 3)) (hf : cells + 0 ≤ R.cells ∧ slots + 0 ≤ R.slots) (kk : ∀ (H1 : Heap) (locs1 : List Loc), Hp D A s.heap H1 locs1 (cW k z g π r.1) → W p l e R s m args below meth c H1 locs1 cells slots Q (F0 m (pc + 3) ls (.long (Int64.ofInt r.2) :: rest))) : W p l e R s m args below meth c H locs cells slots Q (F0 m pc ls st0) := by
  rw [rfv_s hO.1] at hM hst
  exact x_backl (wr := []) h (List.range (cW k z g π σ).length) [] (rg_map _) rfl rfl (fun _ h => nomatch h) (x_runV16 (Qc := fun sz => va_Ql (fun v _ => v = Int64.ofInt r.2) (fun u t => PostW D (TYs k) (va_A (cW k z g π σ) sz) ((fun _ => cW k z g π r.1) u) t) (va_A (cW k z g π σ) sz)) C h (List.range (cW k z g π σ).length) hM (rg_map _) (nd_of List.nodup_range) (xok_V hE h (List.range (cW k z g π σ).length) (rg_map _)) (va_recv C.2.2.2.2.1 h.1 (ci := c0) (q0 := x.toNat) (q := r0) hc (cW_ob k z g σ hO h20)) cw h16 hn hsz hst hW hdg hf) (fun v0 u H1 locs1 hu h => by subst hu; exact kk H1 locs1 h)
end R16
