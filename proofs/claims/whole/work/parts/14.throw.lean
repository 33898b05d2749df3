/-! throw new E("text"): the exception is made, filled and leaves the method; two natives. -/
section VThr
variable {G : vG} {M M1 : vM} {fr lo pc fr1 lo1 mc1 ms1 : Nat} {lv lv' : List (Nat × Value)} {st : List Value} {h : vH} {mc ms : Nat} {Q Q1 : vQ}
theorem vLs_word {C n d : String} {A : Nat → Prop} {s : State} {args : Array Value} (hh : vLs C n d A s s.heap) : (Cond.laysStatic C n d).before args s = true := by
  obtain ⟨c, k, i, f, a, cell, h1, h2, h3, h4, h5, h6, h7, h8, h9, -⟩ := hh
  exact Cond.laysStatic_of (o := none) (idx := []) h1 h2 h3 h4 h5 h6 h7 h8 h9
theorem vZq_word {C n d : String} {A : Nat → Prop} {s : State} {args : Array Value} (hh : va_Zq C n d A s s.heap) : (Cond.isRef (.static C n d)).before args s = true := by
  have key : ∀ v : Value, vIsR v = true → va_Z C n d v A s s.heap → (Cond.isRef (.static C n d)).before args s = true := by
    intro v hv hz
    obtain ⟨cf, kf, fi, f, a, cell, h1, h2, h3, h4, h5, h6, h7, -⟩ := hz
    have he : (Term.static C n d).eval args s none [] s = some v := by
      simp [Term.eval, State.fieldNamed?, h1, h2, h4, h5, h6, h7]
    simp only [Cond.before, Cond.holds, Cond.value, he]
    rcases vIsR_or hv with rfl | ⟨a, rfl⟩ <;> simp [Value.isRef]
  rcases hh with h1 | ⟨t, h1⟩
  · exact key _ rfl h1
  · exact key _ rfl h1
/-- the words that a throw of cls needs: all but the four on Throwable's statics are of vT -/
def vThw (own : String) (ic : Nat) (cls : String) : List Cond := Bundle.ownAtoms own ic cls ["java/lang/RuntimeException", "java/lang/Exception"]
def vFour : List Cond := [.isRef (.static Bundle.tN "UNASSIGNED_STACK" Bundle.steD), .isRef (.static Bundle.tN "SUPPRESSED_SENTINEL" Bundle.listD), .laysStatic Bundle.tN "UNASSIGNED_STACK" Bundle.steD, .laysStatic Bundle.tN "SUPPRESSED_SENTINEL" Bundle.listD]
theorem v_throw {ik is ic : Nat} {cls text : String} (d0 : decode M.2.1 pc = .ok (.new ik, 3)) (d3 : decode M.2.1 (pc + 3) = .ok (.dup, 1)) (d4 : decode M.2.1 (pc + 4) = .ok (.ldc is, 2)) (d6 : decode M.2.1 (pc + 6) = .ok (.invokespecial ic, 3)) (d9 : decode M.2.1 (pc + 9) = .ok (.athrow, 1))
    (hcls : Bundle.fit cls = true) (hk : Cond.classLink M.1.cls ik cls ∈ vT) (hi : Cond.initialized cls ∈ vT) (hstr : (M.1.cls, is, text) ∈ vStr) (hw : ∀ w ∈ vThw M.1.cls ic cls, w ∈ vFour ∨ w ∈ vT) (hh : M.2.2.2.2 = []) (hfr : 6 ≤ fr) (hlo : (st.map fun v => v.category).sum + 90 ≤ lo)
    (hq : Q (.inr cls) h) (b1 : 1 ≤ mc := by decide) (b2 : 6 ≤ ms := by decide) : V G M fr lo pc lv st h mc ms Q := by
  intro p l e R s m args below meth c A H locs cells slots MC MS ls I T hT X
  obtain ⟨I1, ⟨r1, r2, r3, r4, r5, r6⟩, I3, I4, I5, I6, I7⟩ := I
  have hexec := I1.1
  have hb := I1.2.1
  have htr : e.platform.stackTraces = false := (show e.platform.stackTraces = l.stackTraces by rw [X.admits.platform]).trans I1.2.2.2.2.2.2.2.2.1
  have htop : (T.setVm s.vm).topJava?.isSome := X.here.top
  have hF : ((T.setVm s.vm).setFrames (.invoking m args :: below)).frames = .invoking m args :: below := State.frames_setFrames _ (State.cur_lt_of_top htop)
  obtain ⟨g₀, hg0⟩ := Option.isSome_iff_exists.mp htop
  obtain ⟨r, hr⟩ := State.topJava?_eq_some.mp hg0
  have hl9 : e.platform.stackLimits (T.setVm s.vm).me = e.platform.stackLimits s.me := X.limits
  have hb9 : (T.setVm s.vm).me.stackBytes = s.me.stackBytes := X.bytes
  -- the same frame, seen as one that begins at this heap
  have Y : Stand p l e (vRm R.frames R.locals 1 6) ((T.setVm s.vm).setFrames (.invoking m args :: below)) m args below meth c T [] 0 0 := by
    refine ⟨X.admits, X.cas, X.clock, hF, ?_, X.hears, X.method, X.code, X.here, X.tail, X.warmed, ?_, ?_, ?_⟩
    · have h0 := X.room
      have hU : ((T.setVm s.vm).setFrames (.invoking m args :: below)).localsInUse = s.localsInUse := by
        rw [State.localsInUse_invoking hF (meth := meth) (c := c) X.method X.code, State.localsInUse_invoking X.frames X.method X.code]
      simp only [State.hasRoom, Bool.and_eq_true, decide_eq_true_eq] at h0 ⊢
      obtain ⟨⟨⟨⟨h1, h2, h3, h4, h5, h6⟩, h7⟩, h8⟩, h9⟩ := h0
      rw [X.frames, List.length_cons] at h2 h3
      have q1 := X.heapSize
      have q2 := X.used
      simp only [hF, hU, List.length_cons, State.stackLimits_setFrames, State.stackBytes_setFrames, hl9, hb9, vRm]
      refine ⟨⟨⟨⟨by omega, by omega, by omega, by omega, by omega, h6⟩, ?_⟩, ?_⟩, X.book⟩
      · show T.heap.size + 1 ≤ e.platform.maxCells
        omega
      · show T.slotsUsed + 6 ≤ e.platform.maxSlots
        omega
    · rw [State.stackLimits_setFrames]; rfl
    · rw [State.stackBytes_setFrames]; rfl
    · refine ⟨?_, Nat.le_refl _, Nat.le_refl _, ?_, ?_, fun a c9 h9 => ⟨c9, h9, rfl, rfl, fun _ _ => rfl⟩⟩
      · obtain ⟨t, ht, -⟩ := State.frames_cons hr
        show T.setVm s.vm = { ((T.setVm s.vm).setFrames (.invoking m args :: below)).setFrames (T.setVm s.vm).frames with heap := T.heap, slotsUsed := T.slotsUsed }
        rw [State.setFrames_setFrames, State.setFrames_self ht]
        rfl
      · show T.slotsUsed = T.slotsUsed + ((T.heap.toList.drop T.heap.size).map (·.slots.size)).sum
        rw [List.drop_eq_nil_of_le (Nat.le_of_eq Array.length_toList)]
        rfl
      · show ((T.heap.toList.drop T.heap.size).map (·.slots.size)).sum ≤ 0
        rw [List.drop_eq_nil_of_le (Nat.le_of_eq Array.length_toList)]
        exact Nat.le_refl _
  obtain ⟨s', hs'⟩ : ∃ z, z = (T.setVm s.vm).setFrames (.invoking m args :: below) := ⟨_, rfl⟩
  rw [← hs'] at Y
  have hvm : s'.vm = s.vm := by rw [hs']; rfl
  have hhp : s'.heap = H := by rw [hs']; exact hT
  have hW0 : s.WarmedH s'.vm := by rw [hvm]; exact State.WarmedH.refl s
  have hE : vEnv G A s' s'.heap := by rw [hhp]; exact vEnv.moved hW0 ((venv I1).kept I5.1 I5.2.1)
  have hat : ∀ w ∈ vThw M.1.cls ic cls, w.before args s' = true := by
    intro w hw1
    rcases hw w hw1 with h4 | h4
    · simp only [vFour, List.mem_cons, List.not_mem_nil, or_false] at h4
      rcases h4 with rfl | rfl | rfl | rfl
      · exact vZq_word hE.2.2.2.2.1.1
      · exact vZq_word hE.2.2.2.2.2.1.1
      · exact vLs_word hE.2.2.2.2.1.2
      · exact vLs_word hE.2.2.2.2.2.1.2
    · exact hE.1 w h4 args
  have hown' : s'.vm.findClass M.1.cls = some m.cls := by rw [hvm]; exact vown I1
  obtain ⟨sa, hsa⟩ := hE.2.2.2.2.2.2.1 _ hstr
  have hins : (Cond.instantiable cls 6).before args s' = true := hat _ (by simp [vThw, Bundle.ownAtoms])
  obtain ⟨vm₁, cX, kX, hfX, hkX, -, -, X₁, st1⟩ := Y.newCold hexec (own := M.1.cls) (C := cls) (index := ik) (n := 6) hown' (hE.1 _ hk args) hins (hE.1 _ hi args)
    (g := F0 m pc ls st) rfl (by rw [hb]; exact d0) (Nat.le_refl _) (Nat.le_refl _)
  generalize hT1 : (T.setVm vm₁).pushCell { cls := cX, slots := kX.instanceTypes.map defaultValue, vm := .none } = T1 at X₁ st1
  have hcat : (Value.ref T.heap.size).category = 1 := rfl
  have hcellA : T1.heap[T.heap.size]? = some (freshCell cX kX) := by rw [← hT1]; exact State.heap_pushCell_size _ _
  have d3' : decode c.code (pc + 3) = .ok (.dup, 1) := by rw [hb]; exact d3
  have d4' : decode c.code (pc + 4) = .ok (.ldc is, 2) := by rw [hb]; exact d4
  have hout : ∀ x ∈ c.exceptionTable.toList, covers x (pc + 6 + 3) = false := by
    intro y hy
    have h1 : (y.startPc, y.endPc, y.handlerPc, y.catchType) ∈ M.2.2.2.2 := by
      rw [← I1.2.2.2.2.1]
      exact List.mem_map.mpr ⟨y, hy, rfl⟩
    rw [hh] at h1
    cases h1
  obtain ⟨U, hsteps, hrun, hend, hW, hsame, ce, hce, hO⟩ := X₁.ctorThrowS hexec htr (own := M.1.cls) (cls := cls) (names := ["java/lang/RuntimeException", "java/lang/Exception"]) (ic := ic) hown' hcls (by decide) hat (fun x hx => nomatch hx) hfX hkX hcellA (by rw [hhp, hT]; exact Nat.le_refl _) (msg := .ref sa) rfl
    (g := { method := m, pc := pc + 6, locals := ls, stack := .ref sa :: .ref T.heap.size :: .ref T.heap.size :: st, locked := none }) rfl (I6.1.trans I1.2.2.1.symm) rfl rfl (rest := st) rfl
    (by rw [hb]; exact d6) (by rw [hb]; exact d9) hout (by show 5 < R.frames; omega) (by simp only [List.map_cons, List.sum_cons, hcat]; show 2 * 0 + _ + (13 * 3 + 42) ≤ R.locals; omega) I1.2.2.2.2.2.1
  have hsm : s.sameButNew ({ U with vm := s.vm } : State) locs MC MS := by
    subst hs'
    obtain ⟨e1, e2⟩ := hsame
    rw [State.setFrames_setFrames] at e1
    have h2 : (T.setVm s.vm).sameButNew ({ U with vm := s.vm } : State) [] (0 + 1) (0 + 6) := ⟨e1, e2⟩
    have h3 := X.same.trans h2
    rw [List.append_nil] at h3
    exact h3.mono (by omega) (by omega)
  have hfrm : H.size ≤ U.heap.size ∧ ∀ q : Nat, q < H.size → U.heap[q]? = H[q]? := by
    obtain ⟨-, h2, -, -, -, h6⟩ := hsame
    have h2' : s'.heap.size ≤ U.heap.size := h2
    rw [hhp] at h2'
    refine ⟨h2', fun q hq => ?_⟩
    obtain ⟨c9, e1, e2, e3, e4⟩ := h6 q (H[q]) (by rw [hhp]; exact Array.getElem?_eq_getElem hq)
    have hs9 : c9.slots = (H[q]).slots := Array.ext_getElem? fun i => e4 i (fun hm => nomatch hm)
    have h9 : c9 = H[q] := by
      rw [hs9] at e2
      exact e2
    have e5 : U.heap[q]? = some c9 := e1
    rw [e5, h9, Array.getElem?_eq_getElem hq]
  have hcl : s.vm.findClass cls = some ce.cls := by
    have h9 := hO.cls
    rw [hvm] at h9
    exact h9
  refine ⟨U, ?_, .threw T.heap.size, hrun, hend, State.WarmedH.trans hW0 hW, ⟨locs, hsm, I5.2.2⟩, ⟨Nat.le_trans I5.1 hfrm.1, fun q h1 h2 => (hfrm.2 q (Nat.lt_of_lt_of_le h1 I5.1)).trans (I5.2.1 q h1 h2)⟩, Or.inr ⟨T.heap.size, cls, ce, h, rfl, hq, I3.kept (fun k q hq => hfrm.2 q.1 (I3 k q hq).lt), I4, hce, hO.vm, hcl⟩⟩
  refine st1 _ ?_
  show Steps p.tables e below (T1.setTop { method := m, pc := pc + 3, locals := ls, stack := .ref T.heap.size :: st, locked := none }) _
  jvm_step X₁.here [X₁.here.top, hexec, d3', Value.category]
  exact X₁.ldcString hexec (own := M.1.cls) (text := text) (index := is) (a := sa) hown' hsa.1 hsa.2
    (g := { method := m, pc := pc + 4, locals := ls, stack := .ref T.heap.size :: .ref T.heap.size :: st, locked := none }) rfl d4' _ hsteps
theorem v_getC {a n idx : Nat} {x : vp_A} (d : decode M.2.1 pc = .ok (.invokevirtual idx, 3)) (hf : h.2 a = .inl (G.2.1 3, x)) (ha : a ∈ h.1) (hw : Cond.methodLink M.1.cls idx ⟨"java/lang/Object", "getClass", "()Ljava/lang/Class;"⟩ ∈ vT) (hse : Cond.selects "[Ljava/lang/Object;" ⟨"java/lang/Object", "getClass", "()Ljava/lang/Class;"⟩ ⟨"java/lang/Object", "getClass", "()Ljava/lang/Class;"⟩ ∈ vT) (hin : Cond.instanceMethod ⟨"java/lang/Object", "getClass", "()Ljava/lang/Class;"⟩ ∈ vT) (hfr : 1 ≤ fr) (hlo : (st.map fun v => v.category).sum + 14 ≤ lo) (kk : V G M fr lo (pc + 3) lv (.ref G.2.2.2.1 :: st) h mc ms Q) : V G M fr lo pc lv (.ref a :: st) h mc ms Q := by
  intro p l e R s m args below meth c A H locs cells slots MC MS ls I
  obtain ⟨r1, r2, r3, r4, r5, r6⟩ := I.2.1
  obtain ⟨j, hj⟩ := vplG ha hf
  have hcell : H[a]? = some (vp_cell (G.2.1 3) x) := I.2.2.1 j _ hj
  have hst : (vp_cell (G.2.1 3) x).vm.isStatics = false ∧ (vp_cell (G.2.1 3) x).cls = G.2.1 3 := by
    obtain ⟨n0, x0⟩ := x
    rcases x0 with x0 | x0 | x0 | x0 | x0 <;> exact ⟨rfl, rfl⟩
  exact va_getC (C := "[Ljava/lang/Object;") I.1.1 I.1.2.1 (I.1.2.2.1.trans I.2.2.2.2.2.1.1.symm) (vown I.1) (vts I.1 args _ hw) (vts I.1 args _ kz_966) (vts I.1 args _ hse) (vts I.1 args _ hin) (vts I.1 args _ kz_522) (venv I.1).2.2.2.2.2.2.2.1 ⟨_, hcell, hst.1, by rw [hst.2]; exact va_nmO ((vK I.1).2 3 _ rfl).2 rfl⟩ (by omega) (by omega) d (kk p l e R s m args below meth c A H locs cells slots MC MS ls I)
theorem v_copy {a0 a n0 n1 idx ci : Nat} {q : vw_C} {f g : Nat → Option Nat} {sp dp n : Int32} (d : decode M.2.1 pc = .ok (.invokestatic idx, 3)) (hf : h.2 a0 = .inl (G.2.1 3, n0, .inr (.inr (.inr (.inr f))))) (ha0 : a0 ∈ h.1) (hg : h.2 a = .inl (G.2.1 3, n1, .inr (.inr (.inr (.inr g))))) (ha : a ∈ h.1) (hw : Cond.methodLink M.1.cls idx arraycopyName ∈ vT) (h1 : ¬ sp < 0) (h2 : ¬ dp < 0) (h3 : ¬ n < 0) (h4 : sp.toNatClampNeg + n.toNatClampNeg ≤ n0) (h5 : dp.toNatClampNeg + n.toNatClampNeg ≤ n1) (hc : vCl[ci]? = some q) (hx : Cond.castable q.1 "java/lang/Object" ∈ vT) (hel : ∀ i : Nat, i < n.toNatClampNeg → ∀ y : Nat, f (sp.toNatClampNeg + i) = some y → y ∈ h.1 ∧ ∃ fs, h.2 y = .inr (ci, fs)) (hfr : 1 ≤ fr) (hlo : (st.map fun v => v.category).sum + 40 ≤ lo)
    (kk : V G M fr lo (pc + 3) lv st (h.1, va_up h.2 a (.inl (G.2.1 3, n1, .inr (.inr (.inr (.inr (va_cpy f g sp.toNatClampNeg dp.toNatClampNeg n.toNatClampNeg))))))) mc ms Q) : V G M fr lo pc lv (.int n :: .int dp :: .ref a :: .int sp :: .ref a0 :: st) h mc ms Q := by
  intro p l e R s m args below meth c A H locs cells slots MC MS ls I
  obtain ⟨r1, r2, r3, r4, r5, r6⟩ := I.2.1
  obtain ⟨j0, hj0⟩ := vplG ha0 hf
  obtain ⟨j, hj⟩ := vplG ha hg
  have hj1 : (va_pl h.1 h.2)[j]? = some (a, h.2 a) := by rw [hg]; exact hj
  have hnw : nativeFrameWords "java/lang/System" "arraycopy" 5 ≤ 20 := by decide
  refine va_copyq (C := q.1) I.1.1 I.1.2.1 (I.1.2.2.1.trans I.2.2.2.2.2.1.1.symm) (vown I.1) (vts I.1 args _ hw) (vts I.1 args _ kz_247) (vts I.1 args _ kS_java_lang_System_arraycopy_Ljava_lang_Object_ILjava_lang_Object_II_V) (vts I.1 args _ ki_java_lang_System) (vK I.1) I.2.2.1 I.2.2.2.1 I.2.2.2.2.1 j0 j 3 3 hj0 hj rfl rfl h1 h2 h3 h4 h5 (fun i hi y hy => ?_) (fun comp c0 e1 e2 => vb_asgC (va_Nw.of rfl (vts I.1 args _ hx)) comp c0 e1 e2) (by omega) (by omega) d (fun H1 locs1 hP hD hS => ?_)
  · obtain ⟨k1, fs, k2⟩ := hel i hi y hy
    obtain ⟨jy, hjy⟩ := vplG k1 k2
    exact va_recv (vK I.1) I.2.2.1 hc hjy
  · rw [vplS I.2.2.2.1 ha hj1] at hP hD
    exact kk p l e R s m args below meth c A H1 locs1 cells slots MC MS ls ⟨I.1, I.2.1, hP, hD, hS, I.2.2.2.2.2⟩
end VThr
