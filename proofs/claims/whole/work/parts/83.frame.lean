/-! A call that is given a part of the pool. -/
section VFr
variable {G : vG} {M M1 : vM} {fr lo pc fr1 lo1 mc1 ms1 : Nat} {lv lv' : List (Nat × Value)} {st : List Value} {h : vH} {mc ms : Nat} {Q Q1 : vQ}
theorem pl_at {L : List Nat} {f : Nat → va_E} {k : Nat} {q : Nat × va_E} (h : (va_pl L f)[k]? = some q) : L[k]? = some q.1 ∧ q.2 = f q.1 := by
  unfold va_pl at h
  rw [List.getElem?_map] at h
  cases e : L[k]? with
  | none => rw [e] at h; cases h
  | some a => rw [e] at h; cases h; exact ⟨rfl, rfl⟩
theorem pl_of {L : List Nat} {f : Nat → va_E} {k a : Nat} (h : L[k]? = some a) : (va_pl L f)[k]? = some (a, f a) := by
  unfold va_pl
  rw [List.getElem?_map, h]; rfl
theorem pool_P {D : va_G} {cl : List vw_C} {L : List Nat} {f : Nat → va_E} {H : Heap} : va_P D cl (va_pl L f) H ↔ ∀ a ∈ L, va_at D cl (a, f a) H := by
  constructor
  · intro h a ha
    obtain ⟨k, hk⟩ := List.mem_iff_getElem?.mp ha
    exact h k _ (pl_of hk)
  · intro h k q hk
    obtain ⟨h1, h2⟩ := pl_at hk
    have := h q.1 (List.mem_of_getElem? h1)
    rw [← h2] at this
    exact this
theorem pool_D {A : Nat → Prop} {L : List Nat} {f : Nat → va_E} : va_D A (va_pl L f) ↔ L.Nodup ∧ ∀ a ∈ L, A a := by
  constructor
  · intro h
    refine ⟨?_, fun a ha => ?_⟩
    · refine List.pairwise_iff_getElem.mpr (fun i j hi hj hij e => ?_)
      have := h.1 i j _ _ (pl_of (f := f) (List.getElem?_eq_getElem hi)) (pl_of (f := f) (List.getElem?_eq_getElem hj)) e
      omega
    · obtain ⟨k, hk⟩ := List.mem_iff_getElem?.mp ha
      exact h.2 k _ (pl_of (f := f) hk)
  · rintro ⟨h1, h2⟩
    refine ⟨fun i j p q hi hj e => ?_, fun k q hk => h2 _ (List.mem_of_getElem? (pl_at hk).1)⟩
    have a1 := (pl_at hi).1
    have a2 := (pl_at hj).1
    rw [← e] at a2
    exact (List.getElem?_inj (List.getElem?_eq_some_iff.mp a1).1 h1).mp (a1.trans a2.symm)
/-- the pool's own order does not matter, and it holds each cell once -/
theorem V.pool {h' : vH} (k : h.1.Nodup → (∀ a, a ∈ h'.1 ↔ a ∈ h.1) ∧ h'.1.Nodup ∧ (∀ a ∈ h.1, h'.2 a = h.2 a) ∧ V G M fr lo pc lv st h' mc ms Q) : V G M fr lo pc lv st h mc ms Q := by
  intro p l e R s m args below meth c A H locs cells slots MC MS ls I
  obtain ⟨I1, I2, I3, I4, I5, I6, I7⟩ := I
  obtain ⟨d1, d2⟩ := pool_D.mp I4
  obtain ⟨k1, k2, k3, k4⟩ := k d1
  refine k4 p l e R s m args below meth c A H locs cells slots MC MS ls ⟨I1, I2, pool_P.mpr (fun a ha => ?_), pool_D.mpr ⟨k2, fun a ha => d2 a ((k1 a).mp ha)⟩, I5, I6, I7⟩
  have := (k1 a).mp ha
  rw [k3 a this]
  exact pool_P.mp I3 a this
/-- what stands behind a call that was given h1 of h and left h1' -/
def vMg (h h1 h1' h' : vH) : Prop := h1'.1.Nodup ∧ (∀ a, a ∈ h'.1 ↔ a ∈ h1'.1 ∨ (a ∈ h.1 ∧ a ∉ h1.1)) ∧ (∀ a ∈ h1'.1, h'.2 a = h1'.2 a) ∧ ∀ a, a ∈ h.1 → a ∉ h1.1 → h'.2 a = h.2 a ∧ a ∉ h1'.1
theorem vGoF {p : Program} {l : Launch} {e : Env} {R : Room} {s : State} {m : MethodId} {args : Array Value} {below : List Frame} {meth : Method} {c : Code} {A : Nat → Prop} {H : Heap} {locs : List Loc} {cells slots MC MS : Nat} {ls : Array Slot} {T : State} {As : List Value} {ig : Instr} {mk : MethodId} {vm₁ : Vm} {st0 : List Value} {h1 : vH} (b1 : mc1 ≤ mc) (b2 : ms1 ≤ ms) (I : vIn G M fr lo lv h mc ms p l R s m meth c A H locs cells slots MC MS ls) (hT : T.heap = H) (X₁ : Stand p l e R s m args below meth c (T.setVm vm₁) locs cells slots) (hd : decode M.2.1 pc = .ok (ig, 3)) (hn : s.methodNamed? M1.1 = some mk)
    (hok : vOk M M1 fr lo fr1 lo1 As st) (hs : ∀ a ∈ h1.1, a ∈ h.1 ∧ h.2 a = h1.2 a) (hnd : h1.1.Nodup) (hV : V G M1 fr1 lo1 0 (vArgs 0 As) [] h1 mc1 ms1 Q1)
    (kk : ∀ v h1' h', Q1 (.inl v) h1' → vMg h h1 h1' h' → V G M fr lo (pc + 3) lv (v.toList ++ st) h' (mc - mc1) (ms - ms1) Q) (kx : ∀ E h1' h', Q1 (.inr E) h1' → vMg h h1 h1' h' → vXh G M fr lo pc lv h' (mc - mc1) (ms - ms1) Q E)
    (hstep : ∀ target, (∀ acts, Steps p.tables e below (doInvoke e ((T.setVm vm₁).setTop (F0 m pc ls st)) acts mk As.toArray).1 target) → Steps p.tables e below (T.setTop (F0 m pc ls st0)) target) :
    ∃ t, Steps p.tables e below (T.setTop (F0 m pc ls st0)) t ∧ vFin G below s A MC MS Q t := by
  obtain ⟨I1, ⟨r1, r2, r3, r4, r5, r6⟩, I3, I4, I5, I6, I7⟩ := I
  obtain ⟨o1, o2, o3, o4, o5, o6, o7, o8, -, -⟩ := hok
  obtain ⟨d1, d2⟩ := pool_D.mp I4
  have I31 : va_P G.1 vCl (va_pl h1.1 h1.2) H := pool_P.mpr (fun a ha => by rw [← (hs a ha).2]; exact pool_P.mp I3 a (hs a ha).1)
  have I41 : va_D A (va_pl h1.1 h1.2) := pool_D.mpr ⟨hnd, fun a ha => d2 a (hs a ha).1⟩
  have hsub : ∀ q, va_A (va_pl h1.1 h1.2) H.size q → A q := by
    intro q hq
    rcases hq with ⟨k, e0, hk⟩ | hq
    · exact I41.2 k _ hk
    · exact vhA I1 q (Nat.le_trans I5.1 hq)
  have hE : vEnv G (va_A (va_pl h1.1 h1.2) H.size) (T.setVm vm₁) H := vEnv.moved X₁.warmed (((venv I1).kept I5.1 I5.2.1).narrow hsub)
  obtain ⟨T', L, h1', X', hL, f1, f2, hP', hD', hres⟩ := vBack (M := M1) X₁ (g := F0 m pc ls st) (ig := ig) rfl (I6.1.trans I1.2.2.1.symm) (by rw [I1.2.1]; exact hd) (lv_room o8) (X₁.named hn) I1.2.2.2.2.2.2.2.2.1 o1 o2 o3 (A := va_A (va_pl h1.1 h1.2) H.size) (H := H) (fun q hq => Or.inr hq) I31 I41.self hV hT hE o4 o5 (by omega) (by omega) (by omega) (by omega)
  have hS' : va_S A s.heap T'.heap (locs ++ L) := ⟨Nat.le_trans I5.1 f1, fun q h1 h2 => (f2 q (Nat.lt_of_lt_of_le h1 I5.1) (fun z => h2 (hsub q z))).trans (I5.2.1 q h1 h2), fun q hq => by
    rcases List.mem_append.mp hq with h1 | h1
    · exact I5.2.2 q h1
    · exact hsub _ (hL q h1)⟩
  obtain ⟨e1, e2⟩ := pool_D.mp hD'
  have hlt : ∀ a ∈ h.1, a < H.size := fun a ha => va_pl_lt (X := []) (L := h.1) (f := h.2) I3 ha
  have hout : ∀ a, a ∈ h.1 → a ∉ h1.1 → ¬ va_A (va_pl h1.1 h1.2) H.size a := fun a ha hb z => by
    rcases z with ⟨k, e0, hk⟩ | z
    · exact hb (List.mem_of_getElem? (pl_at hk).1)
    · have := hlt a ha; omega
  have hg : vMg h h1 h1' (h1'.1 ++ h.1.filter (fun a => decide (a ∉ h1.1)), fun a => if a ∈ h1'.1 then h1'.2 a else h.2 a) := by
    refine ⟨e1, fun a => ?_, fun a ha => if_pos ha, fun a ha hb => ?_⟩
    · show a ∈ h1'.1 ++ _ ↔ _
      rw [List.mem_append, List.mem_filter, decide_eq_true_eq]
    · have hc : a ∉ h1'.1 := fun z => hout a ha hb (e2 a z)
      exact ⟨if_neg hc, hc⟩
  have hP2 : va_P G.1 vCl (va_pl (h1'.1 ++ h.1.filter (fun a => decide (a ∉ h1.1))) (fun a => if a ∈ h1'.1 then h1'.2 a else h.2 a)) T'.heap := by
    refine pool_P.mpr (fun a ha => ?_)
    rcases (hg.2.1 a).mp ha with z | ⟨z1, z2⟩
    · show va_at G.1 vCl (a, if a ∈ h1'.1 then h1'.2 a else h.2 a) T'.heap
      rw [if_pos z]; exact pool_P.mp hP' a z
    · show va_at G.1 vCl (a, if a ∈ h1'.1 then h1'.2 a else h.2 a) T'.heap
      rw [if_neg (hg.2.2.2 a z1 z2).2]
      exact (pool_P.mp I3 a z1).kept (f2 a (hlt a z1) (hout a z1 z2))
  have hD2 : va_D A (va_pl (h1'.1 ++ h.1.filter (fun a => decide (a ∉ h1.1))) (fun a => if a ∈ h1'.1 then h1'.2 a else h.2 a)) := by
    refine pool_D.mpr ⟨?_, fun a ha => ?_⟩
    · rw [List.nodup_append]
      refine ⟨e1, d1.filter _, fun a ha b hb hab => ?_⟩
      subst hab
      rw [List.mem_filter, decide_eq_true_eq] at hb
      exact (hg.2.2.2 a hb.1 hb.2).2 ha
    · rcases (hg.2.1 a).mp ha with z | ⟨z1, z2⟩
      · exact hsub a (e2 a z)
      · exact d2 a z1
  have I' : vIn G M fr lo lv (h1'.1 ++ h.1.filter (fun a => decide (a ∉ h1.1)), fun a => if a ∈ h1'.1 then h1'.2 a else h.2 a) (mc - mc1) (ms - ms1) p l R s m meth c A T'.heap (locs ++ L) (cells + mc1) (slots + ms1) MC MS ls := ⟨I1, ⟨r1, r2, by omega, by omega, r5, r6⟩, hP2, hD2, hS', I6, I7⟩
  rcases hres with ⟨v, hqv, st1⟩ | ⟨q, E, ce, hqv, hce, hcv, hcl, st1⟩
  · obtain ⟨t, a1, b1⟩ := kk v h1' _ hqv hg p l e R s m args below meth c A T'.heap (locs ++ L) (cells + mc1) (slots + ms1) MC MS ls I' T' rfl X'
    exact ⟨t, hstep _ (fun acts => by rw [doInvoke_state]; exact st1.trans a1), b1⟩
  · have hcl' : s.vm.findClass E = some ce.cls := by
      have h1 : (T.setVm vm₁).vm.findClass E = some ce.cls := hcl
      rw [X₁.warmed.alike.findClass] at h1
      exact h1
    obtain ⟨t, a1, b1⟩ := vX_run (pc := pc) (rest := st) X' I' hce hcv hcl' (kx E h1' _ hqv hg)
    exact ⟨t, hstep _ (fun acts => by rw [doInvoke_state]; exact st1.trans a1), b1⟩
theorem v_callVF {h1x : vH} {idx b ci : Nat} {fs : List Value} {As : List Value} {st0 : List Value} {q : vw_C} (d : decode M.2.1 pc = .ok (.invokevirtual idx, 3)) (hf : h.2 b = .inr (ci, fs)) (hb : b ∈ h.1) (hc : vCl[ci]? = some q) (hw : Cond.methodLink M.1.cls idx M1.1 ∈ vT) (hin : Cond.instanceMethod M1.1 ∈ vT) (hse : Cond.selects q.1 M1.1 M1.1 ∈ vT) (hok : vOk M M1 fr lo fr1 lo1 (.ref b :: As) st) (hp : (parseMethodDescriptor M1.1.desc).map (fun d => d.parameters.length) = some As.length) (hs0 : As.reverse ++ .ref b :: st = st0) (hsb : ∀ a ∈ h1x.1, a ∈ h.1 ∧ h.2 a = h1x.2 a) (hnd : h1x.1.Nodup) (hV : V G M1 fr1 lo1 0 (vArgs 0 (.ref b :: As)) [] h1x mc1 ms1 Q1)
    (kk : ∀ v h1' h', Q1 (.inl v) h1' → vMg h h1x h1' h' → V G M fr lo (pc + 3) lv (v.toList ++ st) h' (mc - mc1) (ms - ms1) Q) (kx : ∀ E h1' h', Q1 (.inr E) h1' → vMg h h1x h1' h' → vXh G M fr lo pc lv h' (mc - mc1) (ms - ms1) Q E) (b1 : mc1 ≤ mc := by decide) (b2 : ms1 ≤ ms := by decide) : V G M fr lo pc lv st0 h mc ms Q := by
  intro p l e R s m args below meth c A H locs cells slots MC MS ls I T hT X
  have hcw := vts I.1 args _ hok.2.2.2.1
  have hy := hok.2.2.2.2.2.2.2.2
  obtain ⟨j, hj⟩ := vplG hb hf
  obtain ⟨cellB, hcB, hoB, hclB⟩ := va_recv (vK I.1) I.2.2.1 hc hj
  obtain ⟨mk, methM, hnamed, hmethM, hstM, habM⟩ := Cond.instanceMethod_spec (vts I.1 args _ hin)
  obtain ⟨methM', cM, hmethM', -, -, -, -, -, -, hsigM⟩ := vCw_spec hnamed hcw
  cases hmethM.symm.trans hmethM'
  obtain ⟨c2, r2, m2, q1, q2, q3, q4, kP, hkP, hkPi⟩ := Cond.selects_spec (vts I.1 args _ hse)
  cases hclB.symm.trans q1
  cases (State.methodFound?_of_named hnamed hy).symm.trans q2
  cases hnamed.symm.trans q3
  have hselP : selectMethod e.platform s.vm cellB.cls mk = .method mk := by rw [Launch.admits_selectMethod X.admits]; exact q4
  have hlen : As.length = methM.sig.parameters.length := by rw [hsigM] at hp; exact (Option.some.inj hp).symm
  obtain ⟨vm₁, X₁, hstep₁⟩ := X.invokevirtual I.1.1 (vown I.1) (vts I.1 args _ hw) hnamed hmethM hstM hkP hkPi hy (a := b) (cell := cellB) (by rw [hT]; exact hcB)
    (fun z h => by rw [h] at hoB; cases hoB) hselP hmethM habM hkP hkPi (g := F0 m pc ls st0) rfl (argsL := As) (rest := st) hlen hs0.symm (by rw [I.1.2.1]; exact d)
  exact vGoF b1 b2 I hT X₁ d hnamed hok hsb hnd hV kk kx hstep₁
theorem v_callIF {h1x : vH} {idx b : Nat} {As : List Value} {st0 : List Value} (d : decode M.2.1 pc = .ok (.invokespecial idx, 3)) (h1 : M1.1.name = "<init>") (hh : M1.2.2.2.2 = []) (hr : M1.2.2.2.1 = none) (hw : Cond.methodLink M.1.cls idx M1.1 ∈ vT ∨ (Cond.methodLinkNest M.1.cls idx M1.1 "CodeShrinker" = vNest)) (hin : Cond.instanceMethod M1.1 ∈ vT) (hok : vOk M M1 fr lo fr1 lo1 (.ref b :: As) st) (hp : (parseMethodDescriptor M1.1.desc).map (fun d => d.parameters.length) = some As.length) (hs0 : As.reverse ++ .ref b :: st = st0) (hsb : ∀ a ∈ h1x.1, a ∈ h.1 ∧ h.2 a = h1x.2 a) (hnd : h1x.1.Nodup) (hV : V G M1 fr1 lo1 0 (vArgs 0 (.ref b :: As)) [] h1x mc1 ms1 Q1)
    (kk : ∀ v h1' h', Q1 (.inl v) h1' → vMg h h1x h1' h' → V G M fr lo (pc + 3) lv (v.toList ++ st) h' (mc - mc1) (ms - ms1) Q) (kx : ∀ E h1' h', Q1 (.inr E) h1' → vMg h h1x h1' h' → vXh G M fr lo pc lv h' (mc - mc1) (ms - ms1) Q E) (b1 : mc1 ≤ mc := by decide) (b2 : ms1 ≤ ms := by decide) : V G M fr lo pc lv st0 h mc ms Q := by
  intro p l e R s m args below meth c A H locs cells slots MC MS ls I T hT X
  have hcw := vts I.1 args _ hok.2.2.2.1
  have hy := hok.2.2.2.2.2.2.2.2
  have hcode : (Cond.code M1.1 M1.2.1 M1.2.2.1 none).before args s = true := by
    have h2 : vCw M1 = Cond.code M1.1 M1.2.1 M1.2.2.1 none := by
      unfold vCw
      rw [hh, hr]
    rw [← h2]
    exact hcw
  have hpl : e.platform.magicAccessors = ({} : Platform).magicAccessors := by rw [X.admits.platform]
  have hlen : ∀ sig, parseMethodDescriptor M1.1.desc = some sig → As.length = sig.parameters.length := fun sig hs => by rw [hs] at hp; exact (Option.some.inj hp).symm
  rcases hw with hw | hw
  · obtain ⟨mk, methM, cM, kP, vm₁, hnamed, hmethM, hcodeM, -, hlocalsM, -, hkP, -, hW₁, hstep₁⟩ := Steps.initColdArgs (e := e) X.here I.1.1 X.warmed hpl (vown I.1) h1 hy (vts I.1 args _ hw) (vts I.1 args _ hin) hcode (f := F0 m pc ls st0) rfl hlen hs0.symm (by rw [I.1.2.1]; exact d)
    exact vGoF b1 b2 I hT (X.noted hW₁) d hnamed hok hsb hnd hV kk kx hstep₁
  · have hlk : (Cond.methodLinkNest M.1.cls idx M1.1 "CodeShrinker").before args s = true := by
      rw [hw]
      exact va_Nw.use rfl (venv I.1).2.2.1
    obtain ⟨mk, methM, cM, kP, vm₁, hnamed, hmethM, hcodeM, -, hlocalsM, -, hkP, -, hW₁, hstep₁⟩ := Steps.initColdArgsNest (e := e) X.here I.1.1 X.warmed hpl (vown I.1) h1 hy hlk (vts I.1 args _ hin) hcode (f := F0 m pc ls st0) rfl hlen hs0.symm (by rw [I.1.2.1]; exact d)
    exact vGoF b1 b2 I hT (X.noted hW₁) d hnamed hok hsb hnd hV kk kx hstep₁
end VFr
