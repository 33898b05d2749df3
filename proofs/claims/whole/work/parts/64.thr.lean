/-! What each throw needs. -/
section VTh
/-- a constructor of a throwable whose own link has another place than 7 -/
def vTl (own : String) (ic : Nat) (cls : String) : List Cond := [.methodLink own ic (Bundle.initS cls), .instantiable cls 6, .castable cls cls, .selects cls Bundle.tFill0 Bundle.tFill0, .selects cls Bundle.tFill Bundle.tFill, .lays cls Bundle.tN "cause" "Ljava/lang/Throwable;", .lays cls Bundle.tN "stackTrace" Bundle.steD, .lays cls Bundle.tN "suppressedExceptions" Bundle.listD, .lays cls Bundle.tN "detailMessage" "Ljava/lang/String;", .isRef (.static Bundle.tN "UNASSIGNED_STACK" Bundle.steD), .isRef (.static Bundle.tN "SUPPRESSED_SENTINEL" Bundle.listD), .fieldLink Bundle.tN 198 Bundle.tN "backtrace" "Ljava/lang/Object;", .lays Bundle.tN Bundle.tN "backtrace" "Ljava/lang/Object;", .lays cls Bundle.tN "backtrace" "Ljava/lang/Object;"]
def vRtE : String := "java/lang/RuntimeException"
def vExE : List String := ["java/lang/Exception"]
def vThN (own : String) (ic : Nat) (cls : String) (ix : Nat) (b : ByteArray) : List Cond := Bundle.throwableAtoms ++ (Bundle.throwableSAtoms ++ (Bundle.passSAtoms cls vRtE ix b ++ (Bundle.chainSAtoms vRtE vExE ++ vTl own ic cls)))
set_option maxHeartbeats 1000000 in
theorem vCtorN {p : Program} {l : Launch} {e : Env} {R : Room} {s : State} {m₀ : MethodId} {args : Array Value} {below : List Frame} {meth : Method} {c : Code} {W : State} {cells slots : Nat} (X : Stand p l e R s m₀ args below meth c W [] cells slots) (hexec : p.tables.exec = Jvm.exec) (htr : e.platform.stackTraces = false) {own cls : String} {ic ix : Nat} {b : ByteArray} (b0 : decode b 0 = .ok (.aload_n 0, 1)) (b1 : decode b 1 = .ok (.aload_n 1, 1)) (b2 : decode b 2 = .ok (.invokespecial ix, 3)) (b5 : decode b 5 = .ok (.return_, 1))
    (hown : s.vm.findClass own = some m₀.cls) (hcls : Bundle.fit cls = true) (h : ∀ w ∈ vThN own ic cls ix b, w.before args s = true)
    {a : Addr} {cX : ClassId} {kX : Class} (hfX : s.vm.findClass cls = some cX) (hkX : s.vm.classes[cX]? = some kX) (hcell : W.heap[a]? = some (freshCell cX kX)) (hnew : s.heap.size ≤ a) {msg : Value} (hmsg : msg.isRef = true)
    {g : JFrame} (hg : g.method = m₀) (hsize : g.locals.size = c.maxLocals) (hlocked : g.locked = none) (hentered : g.entered = []) {rest : List Value} (hstack : g.stack = msg :: .ref a :: .ref a :: rest)
    (d6 : decode c.code g.pc = .ok (.invokespecial ic, 3)) (d9 : decode c.code (g.pc + 3) = .ok (.athrow, 1)) (hout : ∀ x ∈ c.exceptionTable.toList, covers x (g.pc + 3) = false)
    (hfr : 5 < R.frames) (hlo : 2 * g.monitorRoom + ((Value.ref a :: rest).map fun v => v.category).sum + (13 * 3 + 42) ≤ R.locals) (hlk : meth.locks = false) :
    ∃ U : State, Steps p.tables e below (W.setTop g) U ∧ U.status = .running ∧ Ended U below (.threw a) ∧ s.WarmedH U.vm ∧ s.sameButNew ({ U with vm := s.vm } : State) [] cells slots ∧ ∃ ce, U.heap[a]? = some ce ∧ ce.vm = .none ∧ s.vm.findClass cls = some ce.cls := by
  have pM : e.platform.frameOwnsMonitors = true := by rw [X.admits.platform]
  have pF : e.platform.finalization = false := by rw [X.admits.platform]
  have pA : e.platform.magicAccessors = ({} : Platform).magicAccessors := by rw [X.admits.platform]
  have tl : ∀ w ∈ vTl own ic cls, w.before args s = true := fun w hw => h w (List.mem_append_right _ (List.mem_append_right _ (List.mem_append_right _ (List.mem_append_right _ hw))))
  have ps : ∀ w ∈ Bundle.passSAtoms cls vRtE ix b, w.before args s = true := fun w hw => h w (List.mem_append_right _ (List.mem_append_right _ (List.mem_append_left _ hw)))
  obtain ⟨T, Z0, L, -, Y⟩ := ThrowableC.of_atoms (args := args) pM pF pA (fun w hw => h w (List.mem_append_left _ hw))
  obtain ⟨Z, Mg, LZ, LM, hZ⟩ := Init0T.ofS_atoms (args := args) pA L Y (fun w hw => h w (List.mem_append_right _ (List.mem_append_left _ hw)))
  obtain ⟨P2, Ps, hlen, L2, hL, hm2, hk2, hk3⟩ := Bundle.chainS (args := args) pA hZ vExE vRtE (by decide) (by decide) (fun w hw => h w (List.mem_append_right _ (List.mem_append_right _ (List.mem_append_right _ (List.mem_append_left _ hw)))))
  obtain ⟨P1, L1, hm1, hs1⟩ := PassC.ofS_atoms (args := args) (s := s) pA (X := cls) (Y := vRtE) (Bundle.fit_spec hcls).1 (by decide) b0 b1 b2 b5 ps
  have hfd : s.vm.findClass cls = some P1.m.cls := findClass_of_methodNamed hm1
  cases Option.some.inj (hfX.symm.trans hfd)
  obtain ⟨c1, kX', e1, e2, hord, -, -, -⟩ := Cond.instantiable_spec (tl (.instantiable cls 6) (List.mem_of_getElem? (i := 1) rfl))
  cases Option.some.inj (e1.symm.trans hfd)
  cases Option.some.inj (hkX.symm.trans e2)
  have s0 : selectMethod e.platform s.vm P1.m.cls T.fill0 = .method T.fill0 := by
    obtain ⟨c2, r2, m2, q1, q2, q3, q4, -⟩ := Cond.selects_spec (tl (.selects cls Bundle.tFill0 Bundle.tFill0) (List.mem_of_getElem? (i := 3) rfl))
    cases Option.some.inj (q1.symm.trans hfd)
    cases Option.some.inj (q2.symm.trans (State.methodFound?_of_named Y.fill0 (by decide)))
    cases Option.some.inj (q3.symm.trans Y.fill0)
    rw [Launch.admits_selectMethod X.admits]
    exact q4
  have s1 : selectMethod e.platform s.vm P1.m.cls T.fill = .method T.fill := by
    obtain ⟨c2, r2, m2, q1, q2, q3, q4, -⟩ := Cond.selects_spec (tl (.selects cls Bundle.tFill Bundle.tFill) (List.mem_of_getElem? (i := 4) rfl))
    cases Option.some.inj (q1.symm.trans hfd)
    cases Option.some.inj (q2.symm.trans (State.methodFound?_of_named Y.fill (by decide)))
    cases Option.some.inj (q3.symm.trans Y.fill)
    rw [Launch.admits_selectMethod X.admits]
    exact q4
  obtain ⟨cS0, hS0, hSs⟩ := Y.statics
  obtain ⟨u0, hu0⟩ := Cond.staticRefV Y.unassigned L.unassignedStatic L.statics hS0 hSs (tl _ (List.mem_of_getElem? (i := 9) rfl))
  obtain ⟨sen, hsen⟩ := Cond.staticRefV Y.sentinel L.sentinelStatic L.statics hS0 hSs (tl _ (List.mem_of_getElem? (i := 10) rfl))
  obtain ⟨ci, i8, fB, k8, g8, a8, sB, -, nB, tB, fbB⟩ := Cond.ownField (t := .object "java/lang/Object") Y.found L.cls (by decide +kernel) (tl (.fieldLink Bundle.tN 198 Bundle.tN "backtrace" "Ljava/lang/Object;") (List.mem_of_getElem? (i := 11) rfl)) (tl (.lays Bundle.tN Bundle.tN "backtrace" "Ljava/lang/Object;") (List.mem_of_getElem? (i := 12) rfl)) e.platform pA
  obtain ⟨cS, hcS, heS, -, hkp⟩ := X.same.2.2.2.2.2 T.aS cS0 hS0
  have hcS' : W.heap[T.aS]? = some cS := hcS
  have hun : cS.vm ≠ .unknown := by
    rw [heS]
    intro z
    rw [show cS0.vm = .unknown from z] at hSs
    cases hSs
  have hne : T.aS ≠ a := Nat.ne_of_lt (Nat.lt_of_lt_of_le (Array.getElem?_eq_some_iff.mp hS0).1 hnew)
  obtain ⟨iM, hM⟩ := Y.msg
  obtain ⟨tC, dC, hdC, hnC⟩ := Cond.laysAt hfd e2 Y.cause (tl _ (List.mem_of_getElem? (i := 5) rfl))
  obtain ⟨tS, dS, hdS, hnS⟩ := Cond.laysAt hfd e2 Y.stack (tl _ (List.mem_of_getElem? (i := 6) rfl))
  obtain ⟨tP, dP, hdP, hnP⟩ := Cond.laysAt hfd e2 Y.supp (tl _ (List.mem_of_getElem? (i := 7) rfl))
  obtain ⟨tM, dM, hdM, hnM⟩ := Cond.laysAt hfd e2 hM (tl _ (List.mem_of_getElem? (i := 8) rfl))
  obtain ⟨tyB, dB, hdB, hnB⟩ := Cond.laysAt hfd e2 fbB (tl _ (List.mem_of_getElem? (i := 13) rfl))
  have bC := Cond.laysApart hdB hdC hnB hnC (by rw [nB, Y.causeName]; decide)
  have bS := Cond.laysApart hdB hdS hnB hnS (by rw [nB, Y.stackName]; decide)
  have bP := Cond.laysApart hdB hdP hnB hnP (by rw [nB, Y.suppName]; decide)
  have skip : SkipFacts T e.platform s (fun u => u) u0 ((preparedCellV T.toThrowableT (freshCell P1.m.cls kX) a u0 sen).withEntry W.cur) :=
    ⟨{ ci198 := ci, i198 := i8, fBack := fB }, ⟨k8, g8, a8, sB⟩, by
      have z := fresh_default (c := P1.m.cls) tyB
      rw [tB] at z
      simpa [preparedCellV, Cell.setSlot, Cell.withEntry, Array.getElem?_setIfInBounds, bC, bS, bP, bC.symm, bS.symm, bP.symm, defaultValue] using z, fun _ _ => rfl⟩
  obtain ⟨tm, mC, cdC, kC, vm₁, w1, -, -, -, -, -, -, -, hW1, st1⟩ := Steps.initColdS (tb := p.tables) (e := e) (below := below) (s := s) (U := W) X.here hexec X.warmed pA hown (t := Bundle.initS cls) rfl rfl (Bundle.fit_spec hcls).2 (tl (.methodLink own ic (Bundle.initS cls)) List.mem_cons_self) (ps (.instanceMethod (Bundle.initS cls)) List.mem_cons_self) (bytes := b) (maxL := 2) (ps (.code (Bundle.initS cls) b 2 none) (List.mem_of_getElem? (i := 1) rfl)) (f := g) hg (a := a) (msg := msg) (rest := .ref a :: rest) hstack d6
  cases Option.some.inj (w1.symm.trans hm1)
  have X1 := X.noted hW1
  obtain ⟨vm₂, X2, st2⟩ := X1.ctorMessageOffV hexec (g := { g with stack := .ref a :: rest }) hg hsize T L Z LZ Mg LM (P1 :: P2 :: Ps)
    (fun P hP => by
      rcases List.mem_cons.mp hP with rfl | hP
      · exact L1
      · rcases List.mem_cons.mp hP with rfl | hP
        · exact L2
        · exact hL P hP)
    ⟨Option.some.inj (hs1.symm.trans hm2), hk2, hk3⟩ (u0 := u0) (sen := sen) (self := a) hmsg (cell := freshCell P1.m.cls kX) (cellS := cS) hcell (fun _ => by simp) (by simp) rfl rfl s0 s1 hcS' hne hun (by rw [hkp _ (fun z => nomatch z)]; exact hu0) (by rw [hkp _ (fun z => nomatch z)]; exact hsen)
    (Takes.of_laid e2 hord tC (by rw [Y.causeType]; rfl)) (Takes.of_laid e2 hord tS (by rw [Y.stackType]; exact fits_refV_array _ u0)) (Takes.of_laid e2 hord tP (by rw [Y.suppType]; exact fits_refV_object _ sen)) (Takes.of_laid e2 hord tM (by rw [Y.msgType]; exact fits_refV_object _ ⟨msg, hmsg⟩)) Y.objLocals skip htr [] d6
    (by simp only [List.length_cons, hlen, vExE, List.length_nil]; omega) (by simp only [List.length_cons, hlen, vExE, List.length_nil]; exact hlo)
  obtain ⟨wk, r1, r2, r3, r4⟩ := X2.athrowLeaves hexec (g := { g with stack := .ref a :: rest, pc := g.pc + 3 }) hg hlocked hentered hout (a := a) (rest := rest) rfl d9
  have hlt : a < ((W.setVm vm₁).setVm vm₂).heap.size := (Array.getElem?_eq_some_iff.mp hcell).1
  have hU := heapAt_setCell_self (s := (W.setVm vm₁).setVm vm₂) (plainBareV T.toThrowableT (freshCell P1.m.cls kX) a u0 sen msg) hlt
  refine ⟨_, st1 _ (fun acts => ?_), r1, r2, r3, r4.weaken (fun y hy hl => ?_) (Nat.le_refl _) (Nat.le_refl _), _, hU, rfl, hfd⟩
  · rw [doInvoke_state]
    exact st2 _ wk
  · exfalso
    rw [List.nil_append] at hy
    have hb : y.base = a := by
      simp only [List.mem_cons, List.not_mem_nil, or_false] at hy
      rcases hy with rfl | rfl | rfl | rfl | rfl <;> rfl
    rw [hb] at hl
    exact Nat.not_lt.mpr hnew hl
def vAll : List Cond → Prop
  | [] => True
  | w :: r => (w ∈ vFour ∨ w ∈ vT) ∧ vAll r
theorem vAll_of : ∀ {ws : List Cond}, vAll ws → ∀ w ∈ ws, w ∈ vFour ∨ w ∈ vT
  | [], _, w, hw => (nomatch hw)
  | x :: r, h, w, hw => by
    rcases List.mem_cons.mp hw with e | e
    · rw [e]; exact h.1
    · exact vAll_of h.2 w e
theorem tw_Cs_195 : ∀ w ∈ vThw "CodeShrinker" 195 "java/lang/IllegalArgumentException", w ∈ vFour ∨ w ∈ vT := vAll_of (show vAll (vThw "CodeShrinker" 195 "java/lang/IllegalArgumentException") from ⟨Or.inr (vT_1 10 rfl rfl), Or.inr (vT_2 142 rfl rfl), Or.inr (vT_2 151 rfl rfl), Or.inr (vT_2 155 rfl rfl), Or.inr (vT_2 158 rfl rfl), Or.inr (vT_2 160 rfl rfl), Or.inr (vT_2 143 rfl rfl), Or.inr (vT_2 144 rfl rfl), Or.inr (vT_1 31 rfl rfl), Or.inr (vT_1 32 rfl rfl), Or.inr (vT_2 145 rfl rfl), Or.inr (vT_2 150 rfl rfl), Or.inr (vT_2 156 rfl rfl), Or.inr (vT_2 176 rfl rfl), Or.inr (vT_2 132 rfl rfl), Or.inr (vT_2 177 rfl rfl), Or.inr (vT_2 134 rfl rfl), Or.inr (vT_2 178 rfl rfl), Or.inr (vT_2 136 rfl rfl), Or.inr (vT_2 146 rfl rfl), Or.inl (List.mem_of_getElem? (i := 2) rfl), Or.inr (vT_2 148 rfl rfl), Or.inl (List.mem_of_getElem? (i := 3) rfl), Or.inr (vT_2 138 rfl rfl), Or.inr (vT_2 172 rfl rfl), Or.inr (vT_2 173 rfl rfl), Or.inr (vT_2 175 rfl rfl), Or.inr (vT_2 138 rfl rfl), Or.inr (vT_2 163 rfl rfl), Or.inr (vT_2 164 rfl rfl), Or.inr (vT_2 165 rfl rfl), Or.inr (vT_2 166 rfl rfl), Or.inr (vT_2 124 rfl rfl), Or.inr (vT_2 166 rfl rfl), Or.inr (vT_2 167 rfl rfl), Or.inr (vT_2 168 rfl rfl), Or.inr (vT_2 169 rfl rfl), Or.inr (vT_2 126 rfl rfl), Or.inr (vT_2 169 rfl rfl), Or.inr (vT_2 170 rfl rfl), Or.inr (vT_2 171 rfl rfl), Or.inr (vT_2 172 rfl rfl), Or.inr (vT_2 128 rfl rfl), Or.inr (vT_2 162 rfl rfl), Or.inr (vT_2 121 rfl rfl), Or.inr (vT_2 122 rfl rfl), Or.inr (vT_2 129 rfl rfl), Or.inr (vT_2 130 rfl rfl), Or.inr (vT_2 131 rfl rfl), Or.inr (vT_2 133 rfl rfl), Or.inr (vT_2 135 rfl rfl), Or.inr (vT_2 137 rfl rfl), Or.inl (List.mem_of_getElem? (i := 0) rfl), Or.inl (List.mem_of_getElem? (i := 1) rfl), Or.inr (vT_2 141 rfl rfl), Or.inr (vT_2 140 rfl rfl), Or.inr (vT_2 139 rfl rfl), trivial⟩)
theorem tw_Cs_65 : ∀ w ∈ vThw "CodeShrinker" 65 "java/lang/IllegalStateException", w ∈ vFour ∨ w ∈ vT := vAll_of (show vAll (vThw "CodeShrinker" 65 "java/lang/IllegalStateException") from ⟨Or.inr (vT_1 10 rfl rfl), Or.inr (vT_2 142 rfl rfl), Or.inr (vT_2 151 rfl rfl), Or.inr (vT_2 155 rfl rfl), Or.inr (vT_2 158 rfl rfl), Or.inr (vT_2 160 rfl rfl), Or.inr (vT_2 143 rfl rfl), Or.inr (vT_2 144 rfl rfl), Or.inr (vT_1 31 rfl rfl), Or.inr (vT_1 32 rfl rfl), Or.inr (vT_2 145 rfl rfl), Or.inr (vT_2 150 rfl rfl), Or.inr (vT_2 156 rfl rfl), Or.inr (vT_2 176 rfl rfl), Or.inr (vT_2 132 rfl rfl), Or.inr (vT_2 177 rfl rfl), Or.inr (vT_2 134 rfl rfl), Or.inr (vT_2 178 rfl rfl), Or.inr (vT_2 136 rfl rfl), Or.inr (vT_2 146 rfl rfl), Or.inl (List.mem_of_getElem? (i := 2) rfl), Or.inr (vT_2 148 rfl rfl), Or.inl (List.mem_of_getElem? (i := 3) rfl), Or.inr (vT_2 138 rfl rfl), Or.inr (vT_2 172 rfl rfl), Or.inr (vT_2 173 rfl rfl), Or.inr (vT_2 175 rfl rfl), Or.inr (vT_2 138 rfl rfl), Or.inr (vT_2 199 rfl rfl), Or.inr (vT_2 200 rfl rfl), Or.inr (vT_2 201 rfl rfl), Or.inr (vT_2 166 rfl rfl), Or.inr (vT_2 124 rfl rfl), Or.inr (vT_2 166 rfl rfl), Or.inr (vT_2 167 rfl rfl), Or.inr (vT_2 168 rfl rfl), Or.inr (vT_2 169 rfl rfl), Or.inr (vT_2 126 rfl rfl), Or.inr (vT_2 169 rfl rfl), Or.inr (vT_2 170 rfl rfl), Or.inr (vT_2 171 rfl rfl), Or.inr (vT_2 172 rfl rfl), Or.inr (vT_2 128 rfl rfl), Or.inr (vT_2 198 rfl rfl), Or.inr (vT_2 189 rfl rfl), Or.inr (vT_2 190 rfl rfl), Or.inr (vT_2 191 rfl rfl), Or.inr (vT_2 153 rfl rfl), Or.inr (vT_2 192 rfl rfl), Or.inr (vT_2 193 rfl rfl), Or.inr (vT_2 194 rfl rfl), Or.inr (vT_2 195 rfl rfl), Or.inl (List.mem_of_getElem? (i := 0) rfl), Or.inl (List.mem_of_getElem? (i := 1) rfl), Or.inr (vT_2 141 rfl rfl), Or.inr (vT_2 140 rfl rfl), Or.inr (vT_2 196 rfl rfl), trivial⟩)
theorem tw_Ru_26 : ∀ w ∈ vThw "CodeShrinker$Runner" 26 "java/lang/IllegalStateException", w ∈ vFour ∨ w ∈ vT := vAll_of (show vAll (vThw "CodeShrinker$Runner" 26 "java/lang/IllegalStateException") from ⟨Or.inr (vT_1 10 rfl rfl), Or.inr (vT_2 142 rfl rfl), Or.inr (vT_2 151 rfl rfl), Or.inr (vT_2 155 rfl rfl), Or.inr (vT_2 158 rfl rfl), Or.inr (vT_2 160 rfl rfl), Or.inr (vT_2 143 rfl rfl), Or.inr (vT_2 144 rfl rfl), Or.inr (vT_1 31 rfl rfl), Or.inr (vT_1 32 rfl rfl), Or.inr (vT_2 145 rfl rfl), Or.inr (vT_2 150 rfl rfl), Or.inr (vT_2 156 rfl rfl), Or.inr (vT_2 176 rfl rfl), Or.inr (vT_2 132 rfl rfl), Or.inr (vT_2 177 rfl rfl), Or.inr (vT_2 134 rfl rfl), Or.inr (vT_2 178 rfl rfl), Or.inr (vT_2 136 rfl rfl), Or.inr (vT_2 146 rfl rfl), Or.inl (List.mem_of_getElem? (i := 2) rfl), Or.inr (vT_2 148 rfl rfl), Or.inl (List.mem_of_getElem? (i := 3) rfl), Or.inr (vT_2 138 rfl rfl), Or.inr (vT_2 172 rfl rfl), Or.inr (vT_2 173 rfl rfl), Or.inr (vT_2 175 rfl rfl), Or.inr (vT_2 138 rfl rfl), Or.inr (vT_2 199 rfl rfl), Or.inr (vT_2 200 rfl rfl), Or.inr (vT_2 201 rfl rfl), Or.inr (vT_2 166 rfl rfl), Or.inr (vT_2 124 rfl rfl), Or.inr (vT_2 166 rfl rfl), Or.inr (vT_2 167 rfl rfl), Or.inr (vT_2 168 rfl rfl), Or.inr (vT_2 169 rfl rfl), Or.inr (vT_2 126 rfl rfl), Or.inr (vT_2 169 rfl rfl), Or.inr (vT_2 170 rfl rfl), Or.inr (vT_2 171 rfl rfl), Or.inr (vT_2 172 rfl rfl), Or.inr (vT_2 128 rfl rfl), Or.inr (vT_3 201 rfl rfl), Or.inr (vT_2 189 rfl rfl), Or.inr (vT_2 190 rfl rfl), Or.inr (vT_2 191 rfl rfl), Or.inr (vT_2 153 rfl rfl), Or.inr (vT_2 192 rfl rfl), Or.inr (vT_2 193 rfl rfl), Or.inr (vT_2 194 rfl rfl), Or.inr (vT_2 195 rfl rfl), Or.inl (List.mem_of_getElem? (i := 0) rfl), Or.inl (List.mem_of_getElem? (i := 1) rfl), Or.inr (vT_2 141 rfl rfl), Or.inr (vT_2 140 rfl rfl), Or.inr (vT_2 196 rfl rfl), trivial⟩)
theorem tw_Ru_39 : ∀ w ∈ vThN "CodeShrinker$Runner" 39 "java/util/NoSuchElementException" 13 b_Ns_init, w ∈ vFour ∨ w ∈ vT := vAll_of (show vAll (vThN "CodeShrinker$Runner" 39 "java/util/NoSuchElementException" 13 b_Ns_init) from ⟨Or.inr (vT_1 10 rfl rfl), Or.inr (vT_2 142 rfl rfl), Or.inr (vT_2 151 rfl rfl), Or.inr (vT_2 155 rfl rfl), Or.inr (vT_2 158 rfl rfl), Or.inr (vT_2 160 rfl rfl), Or.inr (vT_2 143 rfl rfl), Or.inr (vT_2 144 rfl rfl), Or.inr (vT_1 31 rfl rfl), Or.inr (vT_1 32 rfl rfl), Or.inr (vT_2 145 rfl rfl), Or.inr (vT_2 150 rfl rfl), Or.inr (vT_2 156 rfl rfl), Or.inr (vT_2 176 rfl rfl), Or.inr (vT_2 132 rfl rfl), Or.inr (vT_2 177 rfl rfl), Or.inr (vT_2 134 rfl rfl), Or.inr (vT_2 178 rfl rfl), Or.inr (vT_2 136 rfl rfl), Or.inr (vT_2 146 rfl rfl), Or.inl (List.mem_of_getElem? (i := 2) rfl), Or.inr (vT_2 148 rfl rfl), Or.inl (List.mem_of_getElem? (i := 3) rfl), Or.inr (vT_2 138 rfl rfl), Or.inr (vT_2 172 rfl rfl), Or.inr (vT_2 173 rfl rfl), Or.inr (vT_2 175 rfl rfl), Or.inr (vT_2 138 rfl rfl), Or.inr (vT_3 214 rfl rfl), Or.inr (vT_3 215 rfl rfl), Or.inr (vT_3 216 rfl rfl), Or.inr (vT_2 166 rfl rfl), Or.inr (vT_2 124 rfl rfl), Or.inr (vT_2 166 rfl rfl), Or.inr (vT_2 167 rfl rfl), Or.inr (vT_2 168 rfl rfl), Or.inr (vT_2 169 rfl rfl), Or.inr (vT_2 126 rfl rfl), Or.inr (vT_2 169 rfl rfl), Or.inr (vT_2 170 rfl rfl), Or.inr (vT_2 171 rfl rfl), Or.inr (vT_2 172 rfl rfl), Or.inr (vT_2 128 rfl rfl), Or.inr (vT_3 213 rfl rfl), Or.inr (vT_3 204 rfl rfl), Or.inr (vT_3 205 rfl rfl), Or.inr (vT_3 206 rfl rfl), Or.inr (vT_2 154 rfl rfl), Or.inr (vT_3 207 rfl rfl), Or.inr (vT_3 208 rfl rfl), Or.inr (vT_3 209 rfl rfl), Or.inr (vT_3 210 rfl rfl), Or.inl (List.mem_of_getElem? (i := 0) rfl), Or.inl (List.mem_of_getElem? (i := 1) rfl), Or.inr (vT_2 141 rfl rfl), Or.inr (vT_2 140 rfl rfl), Or.inr (vT_3 211 rfl rfl), trivial⟩)
theorem tw_Cs_167 : ∀ w ∈ vThN "CodeShrinker" 167 "java/util/NoSuchElementException" 13 b_Ns_init, w ∈ vFour ∨ w ∈ vT := vAll_of (show vAll (vThN "CodeShrinker" 167 "java/util/NoSuchElementException" 13 b_Ns_init) from ⟨Or.inr (vT_1 10 rfl rfl), Or.inr (vT_2 142 rfl rfl), Or.inr (vT_2 151 rfl rfl), Or.inr (vT_2 155 rfl rfl), Or.inr (vT_2 158 rfl rfl), Or.inr (vT_2 160 rfl rfl), Or.inr (vT_2 143 rfl rfl), Or.inr (vT_2 144 rfl rfl), Or.inr (vT_1 31 rfl rfl), Or.inr (vT_1 32 rfl rfl), Or.inr (vT_2 145 rfl rfl), Or.inr (vT_2 150 rfl rfl), Or.inr (vT_2 156 rfl rfl), Or.inr (vT_2 176 rfl rfl), Or.inr (vT_2 132 rfl rfl), Or.inr (vT_2 177 rfl rfl), Or.inr (vT_2 134 rfl rfl), Or.inr (vT_2 178 rfl rfl), Or.inr (vT_2 136 rfl rfl), Or.inr (vT_2 146 rfl rfl), Or.inl (List.mem_of_getElem? (i := 2) rfl), Or.inr (vT_2 148 rfl rfl), Or.inl (List.mem_of_getElem? (i := 3) rfl), Or.inr (vT_2 138 rfl rfl), Or.inr (vT_2 172 rfl rfl), Or.inr (vT_2 173 rfl rfl), Or.inr (vT_2 175 rfl rfl), Or.inr (vT_2 138 rfl rfl), Or.inr (vT_3 214 rfl rfl), Or.inr (vT_3 215 rfl rfl), Or.inr (vT_3 216 rfl rfl), Or.inr (vT_2 166 rfl rfl), Or.inr (vT_2 124 rfl rfl), Or.inr (vT_2 166 rfl rfl), Or.inr (vT_2 167 rfl rfl), Or.inr (vT_2 168 rfl rfl), Or.inr (vT_2 169 rfl rfl), Or.inr (vT_2 126 rfl rfl), Or.inr (vT_2 169 rfl rfl), Or.inr (vT_2 170 rfl rfl), Or.inr (vT_2 171 rfl rfl), Or.inr (vT_2 172 rfl rfl), Or.inr (vT_2 128 rfl rfl), Or.inr (vT_4 3 rfl rfl), Or.inr (vT_3 204 rfl rfl), Or.inr (vT_3 205 rfl rfl), Or.inr (vT_3 206 rfl rfl), Or.inr (vT_2 154 rfl rfl), Or.inr (vT_3 207 rfl rfl), Or.inr (vT_3 208 rfl rfl), Or.inr (vT_3 209 rfl rfl), Or.inr (vT_3 210 rfl rfl), Or.inl (List.mem_of_getElem? (i := 0) rfl), Or.inl (List.mem_of_getElem? (i := 1) rfl), Or.inr (vT_2 141 rfl rfl), Or.inr (vT_2 140 rfl rfl), Or.inr (vT_3 211 rfl rfl), trivial⟩)
section VThN
variable {G : vG} {M : vM} {fr lo pc : Nat} {lv : List (Nat × Value)} {st : List Value} {h : vH} {mc ms : Nat} {Q : vQ}
theorem v_throwN {ik is ic ix : Nat} {cls text : String} {b : ByteArray} (b0 : decode b 0 = .ok (.aload_n 0, 1)) (b1 : decode b 1 = .ok (.aload_n 1, 1)) (b2 : decode b 2 = .ok (.invokespecial ix, 3)) (b5 : decode b 5 = .ok (.return_, 1)) (d0 : decode M.2.1 pc = .ok (.new ik, 3)) (d3 : decode M.2.1 (pc + 3) = .ok (.dup, 1)) (d4 : decode M.2.1 (pc + 4) = .ok (.ldc is, 2)) (d6 : decode M.2.1 (pc + 6) = .ok (.invokespecial ic, 3)) (d9 : decode M.2.1 (pc + 9) = .ok (.athrow, 1))
    (hcls : Bundle.fit cls = true) (hk : Cond.classLink M.1.cls ik cls ∈ vT) (hi : Cond.initialized cls ∈ vT) (hstr : (M.1.cls, is, text) ∈ vStr) (hw : ∀ w ∈ vThN M.1.cls ic cls ix b, w ∈ vFour ∨ w ∈ vT) (hh : M.2.2.2.2 = []) (hfr : 6 ≤ fr) (hlo : (st.map fun v => v.category).sum + 90 ≤ lo)
    (hq : Q (.inr cls) h) (e1 : 1 ≤ mc := by decide) (e2 : 6 ≤ ms := by decide) : V G M fr lo pc lv st h mc ms Q := by
  intro p l e R s m args below meth c A H locs cells slots MC MS ls I T hT X
  obtain ⟨I1, ⟨r1, r2, r3, r4, r5, r6⟩, I3, I4, I5, I6, I7⟩ := I
  have hexec := I1.1
  have hb := I1.2.1
  have htr : e.platform.stackTraces = false := (show e.platform.stackTraces = l.stackTraces by rw [X.admits.platform]).trans I1.2.2.2.2.2.2.2.2.1
  have htop : (T.setVm s.vm).topJava?.isSome := X.here.top
  have hF : ((T.setVm s.vm).setFrames (.invoking m args :: below)).frames = .invoking m args :: below := State.frames_setFrames _ (State.cur_lt_of_top htop)
  obtain ⟨g₀, hg0⟩ := Option.isSome_iff_exists.mp htop
  obtain ⟨r, hr⟩ := State.topJava?_eq_some.mp hg0
  have hl9 : e.platform.stackLimits (T.setVm s.vm).me = e.platform.stackLimits s.me := X.limits
  have hb9 : (T.setVm s.vm).me.stackBytes = s.me.stackBytes := X.bytes
  -- the same frame, seen as one that begins at this heap
  have Y : Stand p l e (vRm R.frames R.locals 1 6) ((T.setVm s.vm).setFrames (.invoking m args :: below)) m args below meth c T [] 0 0 := by
    refine ⟨X.admits, X.cas, X.clock, hF, ?_, X.hears, X.method, X.code, X.here, X.tail, X.warmed, ?_, ?_, ?_⟩
    · have h0 := X.room
      have hU : ((T.setVm s.vm).setFrames (.invoking m args :: below)).localsInUse = s.localsInUse := by
        rw [State.localsInUse_invoking hF (meth := meth) (c := c) X.method X.code, State.localsInUse_invoking X.frames X.method X.code]
      simp only [State.hasRoom, Bool.and_eq_true, decide_eq_true_eq] at h0 ⊢
      obtain ⟨⟨⟨⟨h1, h2, h3, h4, h5, h6⟩, h7⟩, h8⟩, h9⟩ := h0
      rw [X.frames, List.length_cons] at h2 h3
      have q1 := X.heapSize
      have q2 := X.used
      simp only [hF, hU, List.length_cons, State.stackLimits_setFrames, State.stackBytes_setFrames, hl9, hb9, vRm]
      refine ⟨⟨⟨⟨by omega, by omega, by omega, by omega, by omega, h6⟩, ?_⟩, ?_⟩, X.book⟩
      · show T.heap.size + 1 ≤ e.platform.maxCells
        omega
      · show T.slotsUsed + 6 ≤ e.platform.maxSlots
        omega
    · rw [State.stackLimits_setFrames]; rfl
    · rw [State.stackBytes_setFrames]; rfl
    · refine ⟨?_, Nat.le_refl _, Nat.le_refl _, ?_, ?_, fun a c9 h9 => ⟨c9, h9, rfl, rfl, fun _ _ => rfl⟩⟩
      · obtain ⟨t, ht, -⟩ := State.frames_cons hr
        show T.setVm s.vm = { ((T.setVm s.vm).setFrames (.invoking m args :: below)).setFrames (T.setVm s.vm).frames with heap := T.heap, slotsUsed := T.slotsUsed }
        rw [State.setFrames_setFrames, State.setFrames_self ht]
        rfl
      · show T.slotsUsed = T.slotsUsed + ((T.heap.toList.drop T.heap.size).map (·.slots.size)).sum
        rw [List.drop_eq_nil_of_le (Nat.le_of_eq Array.length_toList)]
        rfl
      · show ((T.heap.toList.drop T.heap.size).map (·.slots.size)).sum ≤ 0
        rw [List.drop_eq_nil_of_le (Nat.le_of_eq Array.length_toList)]
        exact Nat.le_refl _
  obtain ⟨s', hs'⟩ : ∃ z, z = (T.setVm s.vm).setFrames (.invoking m args :: below) := ⟨_, rfl⟩
  rw [← hs'] at Y
  have hvm : s'.vm = s.vm := by rw [hs']; rfl
  have hhp : s'.heap = H := by rw [hs']; exact hT
  have hW0 : s.WarmedH s'.vm := by rw [hvm]; exact State.WarmedH.refl s
  have hE : vEnv G A s' s'.heap := by rw [hhp]; exact vEnv.moved hW0 ((venv I1).kept I5.1 I5.2.1)
  have hat : ∀ w ∈ vThN M.1.cls ic cls ix b, w.before args s' = true := by
    intro w hw1
    rcases hw w hw1 with h4 | h4
    · simp only [vFour, List.mem_cons, List.not_mem_nil, or_false] at h4
      rcases h4 with rfl | rfl | rfl | rfl
      · exact vZq_word hE.2.2.2.2.1.1
      · exact vZq_word hE.2.2.2.2.2.1.1
      · exact vLs_word hE.2.2.2.2.1.2
      · exact vLs_word hE.2.2.2.2.2.1.2
    · exact hE.1 w h4 args
  have hown' : s'.vm.findClass M.1.cls = some m.cls := by rw [hvm]; exact vown I1
  obtain ⟨sa, hsa⟩ := hE.2.2.2.2.2.2.1 _ hstr
  have hins : (Cond.instantiable cls 6).before args s' = true := hat _ (by simp [vThN, vTl])
  obtain ⟨vm₁, cX, kX, hfX, hkX, -, -, X₁, st1⟩ := Y.newCold hexec (own := M.1.cls) (C := cls) (index := ik) (n := 6) hown' (hE.1 _ hk args) hins (hE.1 _ hi args)
    (g := F0 m pc ls st) rfl (by rw [hb]; exact d0) (Nat.le_refl _) (Nat.le_refl _)
  generalize hT1 : (T.setVm vm₁).pushCell { cls := cX, slots := kX.instanceTypes.map defaultValue, vm := .none } = T1 at X₁ st1
  have hcat : (Value.ref T.heap.size).category = 1 := rfl
  have hcellA : T1.heap[T.heap.size]? = some (freshCell cX kX) := by rw [← hT1]; exact State.heap_pushCell_size _ _
  have d3' : decode c.code (pc + 3) = .ok (.dup, 1) := by rw [hb]; exact d3
  have d4' : decode c.code (pc + 4) = .ok (.ldc is, 2) := by rw [hb]; exact d4
  have hout : ∀ x ∈ c.exceptionTable.toList, covers x (pc + 6 + 3) = false := by
    intro y hy
    have h1 : (y.startPc, y.endPc, y.handlerPc, y.catchType) ∈ M.2.2.2.2 := by
      rw [← I1.2.2.2.2.1]
      exact List.mem_map.mpr ⟨y, hy, rfl⟩
    rw [hh] at h1
    cases h1
  obtain ⟨U, hsteps, hrun, hend, hW, hsame, ce, hce, hO, hOc⟩ := vCtorN X₁ hexec htr (own := M.1.cls) (cls := cls) (ic := ic) b0 b1 b2 b5 hown' hcls hat hfX hkX hcellA (by rw [hhp, hT]; exact Nat.le_refl _) (msg := .ref sa) rfl
    (g := { method := m, pc := pc + 6, locals := ls, stack := .ref sa :: .ref T.heap.size :: .ref T.heap.size :: st, locked := none }) rfl (I6.1.trans I1.2.2.1.symm) rfl rfl (rest := st) rfl
    (by rw [hb]; exact d6) (by rw [hb]; exact d9) hout (by show 5 < R.frames; omega) (by simp only [List.map_cons, List.sum_cons, hcat]; show 2 * 0 + _ + (13 * 3 + 42) ≤ R.locals; omega) I1.2.2.2.2.2.1
  have hsm : s.sameButNew ({ U with vm := s.vm } : State) locs MC MS := by
    subst hs'
    obtain ⟨e1, e2⟩ := hsame
    rw [State.setFrames_setFrames] at e1
    have h2 : (T.setVm s.vm).sameButNew ({ U with vm := s.vm } : State) [] (0 + 1) (0 + 6) := ⟨e1, e2⟩
    have h3 := X.same.trans h2
    rw [List.append_nil] at h3
    exact h3.mono (by omega) (by omega)
  have hfrm : H.size ≤ U.heap.size ∧ ∀ q : Nat, q < H.size → U.heap[q]? = H[q]? := by
    obtain ⟨-, h2, -, -, -, h6⟩ := hsame
    have h2' : s'.heap.size ≤ U.heap.size := h2
    rw [hhp] at h2'
    refine ⟨h2', fun q hq => ?_⟩
    obtain ⟨c9, e1, e2, e3, e4⟩ := h6 q (H[q]) (by rw [hhp]; exact Array.getElem?_eq_getElem hq)
    have hs9 : c9.slots = (H[q]).slots := Array.ext_getElem? fun i => e4 i (fun hm => nomatch hm)
    have h9 : c9 = H[q] := by
      rw [hs9] at e2
      exact e2
    have e5 : U.heap[q]? = some c9 := e1
    rw [e5, h9, Array.getElem?_eq_getElem hq]
  have hcl : s.vm.findClass cls = some ce.cls := by
    have h9 := hOc
    rw [hvm] at h9
    exact h9
  refine ⟨U, ?_, .threw T.heap.size, hrun, hend, State.WarmedH.trans hW0 hW, ⟨locs, hsm, I5.2.2⟩, ⟨Nat.le_trans I5.1 hfrm.1, fun q h1 h2 => (hfrm.2 q (Nat.lt_of_lt_of_le h1 I5.1)).trans (I5.2.1 q h1 h2)⟩, Or.inr ⟨T.heap.size, cls, ce, h, rfl, hq, I3.kept (fun k q hq => hfrm.2 q.1 (I3 k q hq).lt), I4, hce, hO, hcl⟩⟩
  refine st1 _ ?_
  show Steps p.tables e below (T1.setTop { method := m, pc := pc + 3, locals := ls, stack := .ref T.heap.size :: st, locked := none }) _
  jvm_step X₁.here [X₁.here.top, hexec, d3', Value.category]
  exact X₁.ldcString hexec (own := M.1.cls) (text := text) (index := is) (a := sa) hown' hsa.1 hsa.2
    (g := { method := m, pc := pc + 4, locals := ls, stack := .ref T.heap.size :: .ref T.heap.size :: st, locked := none }) rfl d4' _ hsteps
end VThN
end VTh
