/-! Calls: what comes back goes on, what is thrown is caught or goes out. -/
section VInv
variable {G : vG} {M M1 : vM} {fr lo pc fr1 lo1 mc1 ms1 : Nat} {lv lv' : List (Nat × Value)} {st : List Value} {h : vH} {mc ms : Nat} {Q Q1 : vQ}
def vCov (x : Nat × Nat × Nat × Nat) (pc : Nat) : Bool := decide (x.1 ≤ pc) && decide (pc < x.2.1)
/-- E is thrown at pc: it leaves the method, or a row of its table takes it -/
def vXh (G : vG) (M : vM) (fr lo pc : Nat) (lv : List (Nat × Value)) (h : vH) (mc ms : Nat) (Q : vQ) (E : String) : Prop :=
  ((∀ x ∈ M.2.2.2.2, vCov x pc = false) ∧ Q (.inr E) h) ∨
  ∃ (pre : List (Nat × Nat × Nat × Nat)) (x : Nat × Nat × Nat × Nat) (suf : List (Nat × Nat × Nat × Nat)), M.2.2.2.2 = pre ++ x :: suf ∧ (∀ z ∈ pre, vCov z pc = false ∨ (z.2.2.2 ≠ 0 ∧ ∃ nm : String, Cond.classLink M.1.cls z.2.2.2 nm ∈ vT ∧ (E, nm) ∈ vNo)) ∧ vCov x pc = true ∧ x.2.2.2 ≠ 0 ∧ (∃ nm : String, Cond.classLink M.1.cls x.2.2.2 nm ∈ vT ∧ Cond.castable E nm ∈ vT) ∧ ∀ q : Nat, V G M fr lo x.2.2.1 lv [.ref q] h mc ms Q
theorem vX_run {p : Program} {l : Launch} {e : Env} {R : Room} {s : State} {m : MethodId} {args : Array Value} {below : List Frame} {meth : Method} {c : Code} {A : Nat → Prop} {T : State} {locs : List Loc} {cells slots MC MS : Nat} {ls : Array Slot} (X : Stand p l e R s m args below meth c T locs cells slots) (I : vIn G M fr lo lv h mc ms p l R s m meth c A T.heap locs cells slots MC MS ls) {q : Addr} {E : String} {ce : Cell} {rest : List Value} (hce : T.heap[q]? = some ce) (hcv : ce.vm = .none) (hcl : s.vm.findClass E = some ce.cls) (hx : vXh G M fr lo pc lv h mc ms Q E) :
    ∃ t, Steps p.tables e below ((T.setTop (F0 m pc ls rest)).pushFrame (.throwing q)) t ∧ vFin G below s A MC MS Q t := by
  obtain ⟨I1, ⟨r1, r2, r3, r4, r5, r6⟩, I3, I4, I5, I6⟩ := id I
  rcases hx with ⟨hout, hq⟩ | ⟨pre, x, suf, hsp, hpass, hcov, hx0, ⟨nm, hnm, hca⟩, hv⟩
  · have hout' : ∀ y ∈ c.exceptionTable.toList, covers y pc = false := by
      intro y hy
      have h1 : (y.startPc, y.endPc, y.handlerPc, y.catchType) ∈ M.2.2.2.2 := by
        rw [← I1.2.2.2.2.1]
        exact List.mem_map.mpr ⟨y, hy, rfl⟩
      exact hout _ h1
    obtain ⟨st1, hrun, hend, hW, hsm⟩ := X.leaveThrown q (g := F0 m pc ls rest) rfl rfl rfl hout' I1.2.2.2.2.2.1
    exact ⟨_, st1, .threw q, hrun, hend, hW, ⟨locs, hsm.mono (by omega) (by omega), I5.2.2⟩, I5.F rfl, Or.inr ⟨q, E, ce, h, rfl, hq, I3, I4, hce, hcv, hcl⟩⟩
  · have hpl : e.platform.magicAccessors = ({} : Platform).magicAccessors := by rw [X.admits.platform]
    have hmap := I1.2.2.2.2.1
    rw [hsp] at hmap
    obtain ⟨l1, l2, hl12, hl1, hl2⟩ := List.map_eq_append_iff.mp hmap
    obtain ⟨x', suf', hx', hxx, -⟩ := List.map_eq_cons_iff.mp hl2
    rw [hx'] at hl12
    obtain ⟨c3, c4, hc3, hc4, hasg⟩ := Cond.castable_spec (vts I1 args _ hca)
    cases Option.some.inj (hc3.symm.trans hcl)
    subst hxx
    obtain ⟨c5, hc5, hcl5⟩ := Cond.classLink_spec (vown I1) (vts I1 args _ hnm) e.platform hpl
    cases Option.some.inj (hc4.symm.trans hc5)
    obtain ⟨vm', X', st1⟩ := X.thenCaughtThrough q (g := F0 m pc ls rest) rfl (Steps.refl _) hce (by rw [hcv]; rfl) (by obtain ⟨k9, h9, -⟩ := Vm.findClass_spec hcl; exact ⟨k9, h9⟩) l1 x' suf' hl12
      (fun z hz => by
        have hz1 : (z.startPc, z.endPc, z.handlerPc, z.catchType) ∈ pre := by
          rw [← hl1]
          exact List.mem_map.mpr ⟨z, hz, rfl⟩
        rcases hpass _ hz1 with h1 | ⟨hz0, nm2, hn2, hno⟩
        · exact Or.inl h1
        · obtain ⟨c6, hc6, hcl6⟩ := Cond.classLink_spec (vown I1) (vts I1 args _ hn2) e.platform hpl
          obtain ⟨a8, b8, k1, k2, k3⟩ := (venv I1).2.2.2.2.2.2.2.2.2.1 _ hno
          cases Option.some.inj (k1.symm.trans hcl)
          cases Option.some.inj (k2.symm.trans hc6)
          exact Or.inr ⟨hz0, _, hcl6, k3⟩) hcov (Or.inr ⟨hx0, c4, hcl5, hasg⟩)
    obtain ⟨t, a1, b1⟩ := hv q p l e R s m args below meth c A T.heap locs cells slots MC MS ls I (T.setVm vm') rfl X'
    exact ⟨t, st1.trans a1, b1⟩
/-- a callee's contract with all that a call of it needs -/
abbrev vOk (M M1 : vM) (fr lo fr1 lo1 : Nat) (As st : List Value) : Prop := plainName M1.1.cls = true ∧ (∀ v ∈ As, v.category = 1) ∧ As.length ≤ M1.2.2.1 ∧ vCw M1 ∈ vT ∧ Cond.initialized M1.1.cls ∈ vT ∧ fr1 + 1 ≤ fr ∧ 8 + (M1.2.2.1 + 11) + lo1 ≤ lo ∧ (st.map fun v => v.category).sum ≤ 8 ∧ M1.1.cls ≠ "java/lang/invoke/MethodHandle" ∧ M1.1.cls ≠ "java/lang/invoke/VarHandle"
theorem vGo {p : Program} {l : Launch} {e : Env} {R : Room} {s : State} {m : MethodId} {args : Array Value} {below : List Frame} {meth : Method} {c : Code} {A : Nat → Prop} {H : Heap} {locs : List Loc} {cells slots MC MS : Nat} {ls : Array Slot} {T : State} {As : List Value} {ig : Instr} {mk : MethodId} {vm₁ : Vm} {st0 : List Value} (b1 : mc1 ≤ mc) (b2 : ms1 ≤ ms) (I : vIn G M fr lo lv h mc ms p l R s m meth c A H locs cells slots MC MS ls) (hT : T.heap = H) (X₁ : Stand p l e R s m args below meth c (T.setVm vm₁) locs cells slots) (hd : decode M.2.1 pc = .ok (ig, 3)) (hn : s.methodNamed? M1.1 = some mk)
    (hok : vOk M M1 fr lo fr1 lo1 As st) (hV : V G M1 fr1 lo1 0 (vArgs 0 As) [] h mc1 ms1 Q1)
    (kk : ∀ v h', Q1 (.inl v) h' → V G M fr lo (pc + 3) lv (v.toList ++ st) h' (mc - mc1) (ms - ms1) Q) (kx : ∀ E h', Q1 (.inr E) h' → vXh G M fr lo pc lv h' (mc - mc1) (ms - ms1) Q E)
    (hstep : ∀ target, (∀ acts, Steps p.tables e below (doInvoke e ((T.setVm vm₁).setTop (F0 m pc ls st)) acts mk As.toArray).1 target) → Steps p.tables e below (T.setTop (F0 m pc ls st0)) target) :
    ∃ t, Steps p.tables e below (T.setTop (F0 m pc ls st0)) t ∧ vFin G below s A MC MS Q t := by
  obtain ⟨I1, ⟨r1, r2, r3, r4, r5, r6⟩, I3, I4, I5, I6, I7⟩ := I
  obtain ⟨o1, o2, o3, o4, o5, o6, o7, o8, -, -⟩ := hok
  have hsub : ∀ q, va_A (va_pl h.1 h.2) H.size q → A q := by
    intro q hq
    rcases hq with ⟨k, e0, hk⟩ | hq
    · exact I4.2 k _ hk
    · exact vhA I1 q (Nat.le_trans I5.1 hq)
  have hE : vEnv G (va_A (va_pl h.1 h.2) H.size) (T.setVm vm₁) H := vEnv.moved X₁.warmed (((venv I1).kept I5.1 I5.2.1).narrow hsub)
  obtain ⟨T', L, h', X', hL, f1, f2, hP', hD', hres⟩ := vBack (M := M1) X₁ (g := F0 m pc ls st) (ig := ig) rfl (I6.1.trans I1.2.2.1.symm) (by rw [I1.2.1]; exact hd) (lv_room o8) (X₁.named hn) I1.2.2.2.2.2.2.2.2.1 o1 o2 o3 (A := va_A (va_pl h.1 h.2) H.size) (H := H) (fun q hq => Or.inr hq) I3 I4.self hV hT hE o4 o5 (by omega) (by omega) (by omega) (by omega)
  have hS' : va_S A s.heap T'.heap (locs ++ L) := ⟨Nat.le_trans I5.1 f1, fun q h1 h2 => (f2 q (Nat.lt_of_lt_of_le h1 I5.1) (fun z => h2 (hsub q z))).trans (I5.2.1 q h1 h2), fun q hq => by
    rcases List.mem_append.mp hq with h1 | h1
    · exact I5.2.2 q h1
    · exact hsub _ (hL q h1)⟩
  have I' : vIn G M fr lo lv h' (mc - mc1) (ms - ms1) p l R s m meth c A T'.heap (locs ++ L) (cells + mc1) (slots + ms1) MC MS ls := ⟨I1, ⟨r1, r2, by omega, by omega, r5, r6⟩, hP', hD'.weaken (fun _ q _ z => hsub q.1 z), hS', I6, I7⟩
  rcases hres with ⟨v, hqv, st1⟩ | ⟨q, E, ce, hqv, hce, hcv, hcl, st1⟩
  · obtain ⟨t, a1, b1⟩ := kk v h' hqv p l e R s m args below meth c A T'.heap (locs ++ L) (cells + mc1) (slots + ms1) MC MS ls I' T' rfl X'
    exact ⟨t, hstep _ (fun acts => by rw [doInvoke_state]; exact st1.trans a1), b1⟩
  · have hcl' : s.vm.findClass E = some ce.cls := by
      have h1 : (T.setVm vm₁).vm.findClass E = some ce.cls := hcl
      rw [X₁.warmed.alike.findClass] at h1
      exact h1
    obtain ⟨t, a1, b1⟩ := vX_run (pc := pc) (rest := st) X' I' hce hcv hcl' (kx E h' hqv)
    exact ⟨t, hstep _ (fun acts => by rw [doInvoke_state]; exact st1.trans a1), b1⟩
theorem v_callS {idx : Nat} {As : List Value} {st0 : List Value} (d : decode M.2.1 pc = .ok (.invokestatic idx, 3)) (hw : Cond.methodLink M.1.cls idx M1.1 ∈ vT) (hst : Cond.static M1.1 ∈ vT) (hok : vOk M M1 fr lo fr1 lo1 As st) (hp : (parseMethodDescriptor M1.1.desc).map (fun d => d.parameters.length) = some As.length) (hs0 : As.reverse ++ st = st0) (hV : V G M1 fr1 lo1 0 (vArgs 0 As) [] h mc1 ms1 Q1)
    (kk : ∀ v h', Q1 (.inl v) h' → V G M fr lo (pc + 3) lv (v.toList ++ st) h' (mc - mc1) (ms - ms1) Q) (kx : ∀ E h', Q1 (.inr E) h' → vXh G M fr lo pc lv h' (mc - mc1) (ms - ms1) Q E) (b1 : mc1 ≤ mc := by decide) (b2 : ms1 ≤ ms := by decide) : V G M fr lo pc lv st0 h mc ms Q := by
  intro p l e R s m args below meth c A H locs cells slots MC MS ls I T hT X
  have hcw := vts I.1 args _ hok.2.2.2.1
  obtain ⟨mk, hnamed⟩ : ∃ mk, s.methodNamed? M1.1 = some mk := by
    obtain ⟨y, cc, nl, rt, hd⟩ := M1
    cases hd with
    | nil => exact Cond.code_named (show (Cond.code y cc nl rt).holds args s none s [] = true from hcw)
    | cons x r =>
      obtain ⟨m', _, _, h0, -⟩ := Cond.codeWith_spec (show (Cond.codeWith y cc nl rt (x :: r)).holds args s none s [] = true from hcw)
      exact ⟨m', h0⟩
  obtain ⟨methM, cM, hmethM, -, -, -, -, -, -, hsigM⟩ := vCw_spec hnamed hcw
  have hstatic : methM.isStatic = true := Cond.static_spec hnamed hmethM (vts I.1 args _ hst)
  obtain ⟨kP, hkP, -⟩ := className_of_methodNamed hnamed
  have hinitP : kP.init = .initialized := Cond.initialized_spec (findClass_of_methodNamed hnamed) hkP (vts I.1 args _ hok.2.2.2.2.1)
  have hlen : As.length = methM.sig.parameters.length := by rw [hsigM] at hp; exact (Option.some.inj hp).symm
  obtain ⟨vm₁, X₁, hstep₁⟩ := X.invokestatic I.1.1 (vown I.1) (vts I.1 args _ hw) hnamed hmethM hstatic hkP hinitP hok.2.2.2.2.2.2.2.2 (g := F0 m pc ls st0) rfl (argsL := As) (rest := st) hlen hs0.symm (by rw [I.1.2.1]; exact d)
  exact vGo b1 b2 I hT X₁ d hnamed hok hV kk kx hstep₁
theorem v_callV {idx b ci : Nat} {fs : List Value} {As : List Value} {st0 : List Value} {q : vw_C} (d : decode M.2.1 pc = .ok (.invokevirtual idx, 3)) (hf : h.2 b = .inr (ci, fs)) (hb : b ∈ h.1) (hc : vCl[ci]? = some q) (hw : Cond.methodLink M.1.cls idx M1.1 ∈ vT) (hin : Cond.instanceMethod M1.1 ∈ vT) (hse : Cond.selects q.1 M1.1 M1.1 ∈ vT) (hok : vOk M M1 fr lo fr1 lo1 (.ref b :: As) st) (hp : (parseMethodDescriptor M1.1.desc).map (fun d => d.parameters.length) = some As.length) (hs0 : As.reverse ++ .ref b :: st = st0) (hV : V G M1 fr1 lo1 0 (vArgs 0 (.ref b :: As)) [] h mc1 ms1 Q1)
    (kk : ∀ v h', Q1 (.inl v) h' → V G M fr lo (pc + 3) lv (v.toList ++ st) h' (mc - mc1) (ms - ms1) Q) (kx : ∀ E h', Q1 (.inr E) h' → vXh G M fr lo pc lv h' (mc - mc1) (ms - ms1) Q E) (b1 : mc1 ≤ mc := by decide) (b2 : ms1 ≤ ms := by decide) : V G M fr lo pc lv st0 h mc ms Q := by
  intro p l e R s m args below meth c A H locs cells slots MC MS ls I T hT X
  have hcw := vts I.1 args _ hok.2.2.2.1
  have hy := hok.2.2.2.2.2.2.2.2
  obtain ⟨j, hj⟩ := vplG hb hf
  obtain ⟨cellB, hcB, hoB, hclB⟩ := va_recv (vK I.1) I.2.2.1 hc hj
  obtain ⟨mk, methM, hnamed, hmethM, hstM, habM⟩ := Cond.instanceMethod_spec (vts I.1 args _ hin)
  obtain ⟨methM', cM, hmethM', -, -, -, -, -, -, hsigM⟩ := vCw_spec hnamed hcw
  cases hmethM.symm.trans hmethM'
  obtain ⟨c2, r2, m2, q1, q2, q3, q4, kP, hkP, hkPi⟩ := Cond.selects_spec (vts I.1 args _ hse)
  cases hclB.symm.trans q1
  cases (State.methodFound?_of_named hnamed hy).symm.trans q2
  cases hnamed.symm.trans q3
  have hselP : selectMethod e.platform s.vm cellB.cls mk = .method mk := by rw [Launch.admits_selectMethod X.admits]; exact q4
  have hlen : As.length = methM.sig.parameters.length := by rw [hsigM] at hp; exact (Option.some.inj hp).symm
  obtain ⟨vm₁, X₁, hstep₁⟩ := X.invokevirtual I.1.1 (vown I.1) (vts I.1 args _ hw) hnamed hmethM hstM hkP hkPi hy (a := b) (cell := cellB) (by rw [hT]; exact hcB)
    (fun z h => by rw [h] at hoB; cases hoB) hselP hmethM habM hkP hkPi (g := F0 m pc ls st0) rfl (argsL := As) (rest := st) hlen hs0.symm (by rw [I.1.2.1]; exact d)
  exact vGo b1 b2 I hT X₁ d hnamed hok hV kk kx hstep₁
theorem v_callI {idx b : Nat} {As : List Value} {st0 : List Value} (d : decode M.2.1 pc = .ok (.invokespecial idx, 3)) (h1 : M1.1.name = "<init>") (hh : M1.2.2.2.2 = []) (hr : M1.2.2.2.1 = none) (hw : Cond.methodLink M.1.cls idx M1.1 ∈ vT ∨ (Cond.methodLinkNest M.1.cls idx M1.1 "CodeShrinker" = vNest)) (hin : Cond.instanceMethod M1.1 ∈ vT) (hok : vOk M M1 fr lo fr1 lo1 (.ref b :: As) st) (hp : (parseMethodDescriptor M1.1.desc).map (fun d => d.parameters.length) = some As.length) (hs0 : As.reverse ++ .ref b :: st = st0) (hV : V G M1 fr1 lo1 0 (vArgs 0 (.ref b :: As)) [] h mc1 ms1 Q1)
    (kk : ∀ v h', Q1 (.inl v) h' → V G M fr lo (pc + 3) lv (v.toList ++ st) h' (mc - mc1) (ms - ms1) Q) (kx : ∀ E h', Q1 (.inr E) h' → vXh G M fr lo pc lv h' (mc - mc1) (ms - ms1) Q E) (b1 : mc1 ≤ mc := by decide) (b2 : ms1 ≤ ms := by decide) : V G M fr lo pc lv st0 h mc ms Q := by
  intro p l e R s m args below meth c A H locs cells slots MC MS ls I T hT X
  have hcw := vts I.1 args _ hok.2.2.2.1
  have hy := hok.2.2.2.2.2.2.2.2
  have hcode : (Cond.code M1.1 M1.2.1 M1.2.2.1 none).before args s = true := by
    have h2 : vCw M1 = Cond.code M1.1 M1.2.1 M1.2.2.1 none := by
      unfold vCw
      rw [hh, hr]
    rw [← h2]
    exact hcw
  have hpl : e.platform.magicAccessors = ({} : Platform).magicAccessors := by rw [X.admits.platform]
  have hlen : ∀ sig, parseMethodDescriptor M1.1.desc = some sig → As.length = sig.parameters.length := fun sig hs => by rw [hs] at hp; exact (Option.some.inj hp).symm
  rcases hw with hw | hw
  · obtain ⟨mk, methM, cM, kP, vm₁, hnamed, hmethM, hcodeM, -, hlocalsM, -, hkP, -, hW₁, hstep₁⟩ := Steps.initColdArgs (e := e) X.here I.1.1 X.warmed hpl (vown I.1) h1 hy (vts I.1 args _ hw) (vts I.1 args _ hin) hcode (f := F0 m pc ls st0) rfl hlen hs0.symm (by rw [I.1.2.1]; exact d)
    exact vGo b1 b2 I hT (X.noted hW₁) d hnamed hok hV kk kx hstep₁
  · have hlk : (Cond.methodLinkNest M.1.cls idx M1.1 "CodeShrinker").before args s = true := by
      rw [hw]
      exact va_Nw.use rfl (venv I.1).2.2.1
    obtain ⟨mk, methM, cM, kP, vm₁, hnamed, hmethM, hcodeM, -, hlocalsM, -, hkP, -, hW₁, hstep₁⟩ := Steps.initColdArgsNest (e := e) X.here I.1.1 X.warmed hpl (vown I.1) h1 hy hlk (vts I.1 args _ hin) hcode (f := F0 m pc ls st0) rfl hlen hs0.symm (by rw [I.1.2.1]; exact d)
    exact vGo b1 b2 I hT (X.noted hW₁) d hnamed hok hV kk kx hstep₁
theorem V.mono (hq : ∀ r h, Q1 r h → Q r h) (k : V G M fr lo pc lv st h mc ms Q1) : V G M fr lo pc lv st h mc ms Q := by
  intro p l e R s m args below meth c A H locs cells slots MC MS ls I
  refine vW_mono (fun t b => ?_) (k p l e R s m args below meth c A H locs cells slots MC MS ls I)
  obtain ⟨o, b1, b2, b3, b4, b5, b6⟩ := b
  refine ⟨o, b1, b2, b3, b4, b5, ?_⟩
  rcases b6 with ⟨v, h', e1, e2, e3⟩ | ⟨q, E, ce, h', e1, e2, e3⟩
  · exact Or.inl ⟨v, h', e1, hq _ _ e2, e3⟩
  · exact Or.inr ⟨q, E, ce, h', e1, hq _ _ e2, e3⟩
theorem V.wide {fr' lo' mc' ms' : Nat} (h1 : fr ≤ fr') (h2 : lo ≤ lo') (h3 : mc ≤ mc') (h4 : ms ≤ ms') (k : V G M fr lo pc lv st h mc ms Q) : V G M fr' lo' pc lv st h mc' ms' Q := by
  intro p l e R s m args below meth c A H locs cells slots MC MS ls I
  obtain ⟨I1, ⟨r1, r2, r3, r4, r5, r6⟩, I3⟩ := I
  exact k p l e R s m args below meth c A H locs cells slots MC MS ls ⟨I1, ⟨by omega, by omega, by omega, by omega, r5, r6⟩, I3⟩
end VInv
