section XM
variable {p : Program} {l : Launch} {e : Env} {R : Room} {s : State} {m : MethodId} {args : Array Value} {below : List Frame} {meth : Method} {c : Code} {H : Heap} {locs : List Loc} {cells slots : Nat} {Q : State → Prop}
variable {cc : ByteArray} {pc : Nat} {ls : Array Slot} {rest : List Value} {D : va_G} {A : Nat → Prop} {TY : List (ClassId × FieldType)} {ws : va_W} {H0 : Heap} {own : String} {Ts : List Cond} {nL : Nat}
theorem x_getS (C : Cx p s m args c cc own Ts D TY nL) (h : Hp D A H0 H locs ws) (q0 k : Nat) {a ci : Nat} {fs : List Value} {v : Value} {C1 ref : String} {T : u_T} {N index : Nat} (hdg : decode cc pc = .ok (.getfield index, 3)) (he : ws[q0]? = some (a, .inr (ci, fs))) (hv : fs[k]? = some v) (hc : vwCl[ci]? = some (C1, T, N)) (hin : ∀ w ∈ u_ws C1 T N, w ∈ Ts) (hk : k < N) (hlink : Cond.fieldLink own index ref (T k).2.1 (T k).2.2.1 ∈ Ts) (hsm : Cond.sameField ref (T k).1 (T k).2.1 (T k).2.2.1 ∈ Ts)
    (kk : W p l e R s m args below meth c H locs cells slots Q (F0 m (pc + 3) ls (v :: rest))) : W p l e R s m args below meth c H locs cells slots Q (F0 m pc ls (.ref a :: rest)) :=
  va_get C.1 C.2.1 C.2.2.1 hin C.2.2.2.1 C.2.2.2.2.1 h.1 q0 he hc k hk (C.2.2.1 _ hlink) (fun x hx => u_same (C.2.2.1 _ hsm) x hx) hv hdg kk
theorem x_putS (C : Cx p s m args c cc own Ts D TY nL) (h : Hp D A H0 H locs ws) (q0 k : Nat) {a ci : Nat} {fs : List Value} {v : Value} {C1 ref : String} {T : u_T} {N index : Nat} {ty0 : Nat → FieldType} (hdg : decode cc pc = .ok (.putfield index, 3)) (he : ws[q0]? = some (a, .inr (ci, fs))) (hc : vwCl[ci]? = some (C1, T, N)) (hin : ∀ w ∈ u_ws C1 T N, w ∈ Ts) (hk : k < N) (hlink : Cond.fieldLink own index ref (T k).2.1 (T k).2.2.1 ∈ Ts) (hsm : Cond.sameField ref (T k).1 (T k).2.1 (T k).2.2.1 ∈ Ts) (hty : ∀ k, k < N → parseFieldDescriptor (T k).2.2.1 = some (ty0 k)) (hnm : ∀ a, a < N → ∀ b, b < N → a ≠ b → (T a).2.1 ≠ (T b).2.1) (hl : k < fs.length) (hfin : (T k).2.2.2 = false) (hn : narrow (ty0 k) v = v) (hfit : fits (ty0 k) v = true)
    (kk : ∀ (H1 : Heap) (locs1 : List Loc), Hp D A H0 H1 locs1 (ws.set q0 (a, .inr (ci, fs.set k v))) → W p l e R s m args below meth c H1 locs1 cells slots Q (F0 m (pc + 3) ls rest)) : W p l e R s m args below meth c H locs cells slots Q (F0 m pc ls (v :: .ref a :: rest)) :=
  va_put C.1 C.2.1 C.2.2.1 hin ty0 hty hnm C.2.2.2.1 C.2.2.2.2.1 h.1 h.2.1 h.2.2.1 q0 he hc k hk (C.2.2.1 _ hlink) (fun x hx => u_same (C.2.2.1 _ hsm) x hx) hfin (hty k hk) hn hfit hl hdg (fun H1 locs1 a1 a2 a3 => kk H1 locs1 ⟨a1, a2, a3, h.2.2.2⟩)
theorem Hp.nil (h : Hp D A H0 H locs ws) : Hp D A H0 H locs [] := ⟨fun k q h => by simp at h, ⟨fun i j p q h => by simp at h, fun k q h => by simp at h⟩, h.2.2.1, h.2.2.2⟩
end XM
abbrev Mr (l : Launch) (y : MethodName) (Ts : List Cond) (rm : Room) (av : List Value) (D : va_G) (TY : List (ClassId × FieldType)) (w0 : va_W) (X : State → Prop) (S : Type) (post : S → Prop) (w1 : S → Nat → va_W) (mc ms : Nat) : Prop :=
  ∀ sz : Nat, Met l y Ts rm (va_Pc av (fun U => PreW D TY w0 sz U ∧ X U)) (va_Qr post (fun u b t => PostW D TY (va_A w0 sz) (w1 u b) t) (va_A w0 sz)) mc ms (va_A w0 sz)
theorem x_aret {p : Program} {l : Launch} {e : Env} {R : Room} {s : State} {m : MethodId} {args : Array Value} {below : List Frame} {meth : Method} {c : Code} {H : Heap} {locs : List Loc} {cells slots mc ms : Nat} {cc : ByteArray} {pc : Nat} {ls : Array Slot} {D : va_G} {A : Nat → Prop} {TY : List (ClassId × FieldType)} {ws : va_W} {own : String} {Ts : List Cond} {nL : Nat} (C : Cx p s m args c cc own Ts D TY nL) (h : Hp D A s.heap H locs ws) {ty : FieldType} {b : Nat} (hr : meth.sig.returnType = some ty) (hlk : meth.locks = false) {S : Type} {post : S → Prop} {w1 : S → Nat → va_W} (u : S) (hdg : decode cc pc = .ok (.areturn, 1)) (hrt : (∃ n, ty = .object n) ∨ ∃ t, ty = .array t) (hp : post u) (hw : ws = w1 u b) (hc : cells ≤ mc) (hs : slots ≤ ms) :
    W p l e R s m args below meth c H locs cells slots (MQ below (va_Qr post (fun u b t => PostW D TY A (w1 u b) t) A) args s mc ms A) (F0 m pc ls [.ref b]) := by
  refine W.widen hc hs (W.aret C.1 C.2.1 hr hrt (Or.inr ⟨b, rfl⟩) (fun t ht hW => ⟨⟨u, b, rfl, hp, ?_, va_K.moved hW.alike C.2.2.2.2.1, ?_⟩, h.2.2.1.F ht⟩) h.2.2.1.2.2 hdg hlk)
  · rw [ht, ← hw]; exact h.1
  · rw [← hw]; exact h.2.1
theorem x_callVr {p : Program} {l : Launch} {e : Env} {R : Room} {s : State} {m : MethodId} {args : Array Value} {below : List Frame} {meth : Method} {c : Code} {H : Heap} {locs : List Loc} {cells slots : Nat} {Q : State → Prop} {cc : ByteArray} {pc : Nat} {ls : Array Slot} {rest st0 : List Value} {D : va_G} {A : Nat → Prop} {TY : List (ClassId × FieldType)} {ws wc wr : va_W} {H0 : Heap} {own : String} {Ts : List Cond} {nL : Nat} {y : MethodName} {bytes : ByteArray} {maxL mc ms n index : Nat} {ret : Option FieldType} {Ts' : List Cond} {rm : Room} {X : State → Prop} {b : Nat} {As : List Value} {C1 : String} {S : Type} {w1 : S → Nat → va_W} {post : S → Prop} (C : Cx p s m args c cc own Ts D TY nL) (h : Hp D A H0 H locs ws) (hM : Mr l y Ts' rm (.ref b :: As) D TY wc X S post w1 mc ms) (isC isR : List Nat) (hC : isC.map (fun i => ws[i]?) = wc.map some) (hR : isR.map (fun i => ws[i]?) = wr.map some) (hn0 : va_nd isC = true) (hnd : va_nd isR = true) (hdis : ∀ i ∈ isR, i ∉ isC) (hX : XOk X s H) (hrc : ∃ cellB : Cell, H[b]? = some cellB ∧ cellB.vm.isStatics = false ∧ s.vm.findClass C1 = some cellB.cls) (cw : CallW R s args own C1 index y bytes maxL ret Ts' rm mc ms n) (hn : As.length = n) (hsz : ls.size = nL) (hst : st0 = As.reverse ++ .ref b :: rest) (hW : (rest.map fun v => v.category).sum ≤ 8) (hdg : decode cc pc = .ok (.invokevirtual index, 3)) (hf : cells + mc ≤ R.cells ∧ slots + ms ≤ R.slots)
    (kk : ∀ (r : Nat) (u : S) (H1 : Heap) (locs1 : List Loc), post u → Hp D A H0 H1 locs1 (wr ++ w1 u r) → W p l e R s m args below meth c H1 locs1 (cells + mc) (slots + ms) Q (F0 m (pc + 3) ls (.ref r :: rest))) : W p l e R s m args below meth c H locs cells slots Q (F0 m pc ls st0) := by
  have hFc := va_free (wc := wc) h.2.1 h.2.2.1 h.2.2.2 isC hC
  exact va_callr (x_runV (Qc := fun sz => va_Qr post (fun u b t => PostW D TY (va_A wc sz) (w1 u b) t) (va_A wc sz)) C h isC hM hC hn0 hX hrc cw hn hsz hst hW hdg hf) h.2.2.1 (fun q _ z => hFc q z) hFc (fun u ra t H1 locs1 ht _ hw hB _ hk hS => kk ra u H1 locs1 hw (x_join h isC isR hC hR hnd hdis ht hB hk hS))
def isTr (x : Int32) : Int32 := if x < 0 then 0 else if 8 ≤ x then 0 else 1
theorem isTr_in {x : Int32} (h : ¬ isTr x = 0) : vp_in x 8 := by
  unfold isTr at h
  by_cases h1 : x < 0
  · rw [if_pos h1] at h; exact absurd rfl h
  · rw [if_neg h1] at h
    by_cases h2 : (8 : Int32) ≤ x
    · rw [if_pos h2] at h; exact absurd rfl h
    · rw [vp_in_iff]
      rw [Int32.lt_iff_toInt_lt] at h1
      rw [Int32.le_iff_toInt_le] at h2
      have e1 : (8 : Int32).toInt = 8 := by decide
      have e0 : (0 : Int32).toInt = 0 := by decide
      omega
