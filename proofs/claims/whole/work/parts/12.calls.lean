/-! The rows of V that end a method and that call one. -/
section VCl0
variable {G : vG} {M M1 : vM} {fr lo pc : Nat} {lv lv' : List (Nat × Value)} {st : List Value} {h : vH} {mc ms : Nat} {Q Q' : vQ}
theorem vW_mono {p : Program} {l : Launch} {e : Env} {R : Room} {s : State} {m : MethodId} {args : Array Value} {below : List Frame} {meth : Method} {c : Code} {H : Heap} {locs : List Loc} {cells slots : Nat} {Q1 Q2 : State → Prop} {g : JFrame} (hq : ∀ t, Q1 t → Q2 t) (k : W p l e R s m args below meth c H locs cells slots Q1 g) : W p l e R s m args below meth c H locs cells slots Q2 g := by
  intro T hT X
  obtain ⟨t, a, b⟩ := k T hT X
  exact ⟨t, a, hq t b⟩
theorem vFin_of {s : State} {below : List Frame} {args : Array Value} {A : Nat → Prop} {H : Heap} {locs : List Loc} {cells slots MC MS : Nat} {v : Option Value} (hS : va_S A s.heap H locs) (h1 : cells ≤ MC) (h2 : slots ≤ MS) (hP : va_P G.1 vCl (va_pl h.1 h.2) H) (hD : va_D A (va_pl h.1 h.2)) (hq : Q (.inl v) h) (t : State) (b : MQ below (fun _ _ o t => o = .returned v ∧ t.heap = H) args s cells slots A t) : vFin G below s A MC MS Q t := by
  obtain ⟨o, b1, b2, ⟨rfl, b4⟩, Lc, ⟨-, b6, b7⟩, b8⟩ := b
  refine ⟨_, b1, b2, b6, ⟨Lc, b7.mono h1 h2, b8⟩, hS.F b4, Or.inl ⟨v, h, rfl, hq, ?_, hD⟩⟩
  rw [b4]
  exact hP
theorem v_iret {v : Int32} {ty : FieldType} (d : decode M.2.1 pc = .ok (.ireturn, 1)) (hr : M.2.2.2.1 = some ty) (hn : narrow ty (.int v) = .int v) (hq : Q (.inl (some (.int v))) h) : V G M fr lo pc lv [.int v] h mc ms Q := by
  intro p l e R s m args below meth c A H locs cells slots MC MS ls I
  obtain ⟨I1, ⟨r1, r2, r3, r4, r5, r6⟩, I3, I4, I5, I6⟩ := I
  exact vW_mono (vFin_of I5 (by omega) (by omega) I3 I4 hq) (W.zret (Qc := fun _ _ o t => o = .returned (some (.int v)) ∧ t.heap = H) (free := A) I1.1 I1.2.1 (I1.2.2.2.1.trans hr) hn (fun t ht _ => ⟨rfl, ht⟩) I5.2.2 d (hlocks := I1.2.2.2.2.2.1))
theorem v_vret (d : decode M.2.1 pc = .ok (.return_, 1)) (hr : M.2.2.2.1 = none) (hq : Q (.inl none) h) : V G M fr lo pc lv [] h mc ms Q := by
  intro p l e R s m args below meth c A H locs cells slots MC MS ls I
  obtain ⟨I1, ⟨r1, r2, r3, r4, r5, r6⟩, I3, I4, I5, I6⟩ := I
  exact vW_mono (vFin_of I5 (by omega) (by omega) I3 I4 hq) (W.vret (Qc := fun _ _ o t => o = .returned none ∧ t.heap = H) (free := A) I1.1 I1.2.1 (I1.2.2.2.1.trans hr) (fun t ht _ => ⟨rfl, ht⟩) I5.2.2 d (hlocks := I1.2.2.2.2.2.1))
theorem v_aret {v : Value} {rt : FieldType} (d : decode M.2.1 pc = .ok (.areturn, 1)) (hr : M.2.2.2.1 = some rt) (hrt : (∃ n, rt = .object n) ∨ ∃ t, rt = .array t) (hv : vIsR v = true) (hq : Q (.inl (some v)) h) : V G M fr lo pc lv [v] h mc ms Q := by
  intro p l e R s m args below meth c A H locs cells slots MC MS ls I
  obtain ⟨I1, ⟨r1, r2, r3, r4, r5, r6⟩, I3, I4, I5, I6⟩ := I
  exact vW_mono (vFin_of I5 (by omega) (by omega) I3 I4 hq) (W.aret (Qc := fun _ _ o t => o = .returned (some v) ∧ t.heap = H) (free := A) I1.1 I1.2.1 (I1.2.2.2.1.trans hr) hrt (vIsR_or hv) (fun t ht _ => ⟨rfl, ht⟩) I5.2.2 d (hlocks := I1.2.2.2.2.2.1))
theorem v_objInit {a idx : Nat} (d : decode M.2.1 pc = .ok (.invokespecial idx, 3)) (hw : Cond.methodLink M.1.cls idx objectInit ∈ vT) (hfr : 1 ≤ fr) (hlo : (st.map fun v => v.category).sum + 12 ≤ lo) (k : V G M fr lo (pc + 3) lv st h mc ms Q) : V G M fr lo pc lv (.ref a :: st) h mc ms Q := by
  intro p l e R s m args below meth c A H locs cells slots MC MS ls I
  have I6 := I.2.2.2.2.2.1
  obtain ⟨r1, r2, r3, r4, r5, r6⟩ := I.2.1
  exact W.objInit I.1.1 I.1.2.1 (vown I.1) (vts I.1 args _ hw) (vts I.1 args _ kI_Ob_init) (vts I.1 args _ kM_Ob_init) rfl (I6.1.trans I.1.2.2.1.symm) rfl d (by omega) (by show 2 * 0 + _ + 12 ≤ R.locals; omega) (k p l e R s m args below meth c A H locs cells slots MC MS ls I)
/-- the word that says what a method's code is -/
def vCw (M : vM) : Cond := match M.2.2.2.2 with
  | [] => .code M.1 M.2.1 M.2.2.1 M.2.2.2.1
  | x :: r => .codeWith M.1 M.2.1 M.2.2.1 M.2.2.2.1 (x :: r)
theorem vCw_spec {M : vM} {s : State} {args : Array Value} {m : MethodId} (hn : s.methodNamed? M.1 = some m) (hh : (vCw M).before args s = true) : ∃ (meth : Method) (c : Code), s.vm.method? m = some meth ∧ meth.code = some c ∧ c.code = M.2.1 ∧ c.maxLocals = M.2.2.1 ∧ meth.sig.returnType = M.2.2.2.1 ∧ meth.locks = false ∧ c.exceptionTable.toList.map (fun h => (h.startPc, h.endPc, h.handlerPc, h.catchType)) = M.2.2.2.2 ∧ parseMethodDescriptor M.1.desc = some meth.sig := by
  obtain ⟨y, cc, nl, rt, hd⟩ := M
  cases hd with
  | nil =>
    obtain ⟨meth, c, h1, h2, h3, h4, h5, h6, h7, h8⟩ := Cond.code_spec hn (show (Cond.code y cc nl rt).before args s = true from hh)
    refine ⟨meth, c, h1, h2, h3, h4, h5, h6, ?_, h8⟩
    have : c.exceptionTable = #[] := by simpa using h7
    rw [this]
    rfl
  | cons x r =>
    obtain ⟨m', meth, c, h0, h1, h2, h3, h4, h5, h6, h7, h8⟩ := Cond.codeWith_spec (show (Cond.codeWith y cc nl rt (x :: r)).before args s = true from hh)
    cases hn.symm.trans h0
    exact ⟨meth, c, h1, h2, h3, h4, h6, h7, h5, h8⟩
def vRm (fr lo mc ms : Nat) : Room := { frames := fr, cells := mc, slots := ms, locals := lo }
def vArgs : Nat → List Value → List (Nat × Value)
  | _, [] => []
  | k, v :: r => (k, v) :: vArgs (k + 1) r
theorem vArgs_eq : ∀ (As : List Value) (k : Nat), (∀ v ∈ As, v.category = 1) → lv_args k As = vArgs k As
  | [], _, _ => rfl
  | v :: r, k, hc => by
    have h1 := hc v List.mem_cons_self
    unfold lv_args vArgs
    rw [if_neg (by omega), vArgs_eq r (k + 1) (fun w hw => hc w (List.mem_cons_of_mem _ hw))]
theorem vArgs_cat : ∀ (As : List Value) (k : Nat), (∀ v ∈ As, v.category = 1) → ∀ q ∈ vArgs k As, q.2.category = 1
  | [], _, _, q, hq => by cases hq
  | v :: r, k, hc, q, hq => by
    rcases List.mem_cons.mp hq with h1 | h1
    · rw [h1]; exact hc v List.mem_cons_self
    · exact vArgs_cat r (k + 1) (fun w hw => hc w (List.mem_cons_of_mem _ hw)) q h1
theorem vSl_len : ∀ (As : List Value), (∀ v ∈ As, v.category = 1) → (lg_sl As).length = As.length
  | [], _ => rfl
  | v :: r, hc => by
    have h1 := hc v List.mem_cons_self
    have h2 := vSl_len r (fun w hw => hc w (List.mem_cons_of_mem _ hw))
    simp only [lg_sl, List.flatMap_cons] at h2 ⊢
    rw [if_neg (by omega)]
    simp [h2]
/-- a method's V at its entry is a contract -/
theorem vMet {l : Launch} (hl0 : l.stackTraces = false) (hy : plainName M.1.cls = true) {As : List Value} (hcat : ∀ v ∈ As, v.category = 1) (hlen : As.length ≤ M.2.2.1) {A : Nat → Prop} {H : Heap} (hA : ∀ q, H.size ≤ q → A q) (hP : va_P G.1 vCl (va_pl h.1 h.2) H) (hD : va_D A (va_pl h.1 h.2)) (hV : V G M fr lo 0 (vArgs 0 As) [] h mc ms Q) :
    MetFree l M.1 (headSpec [vCw M] (vRm fr lo mc ms)) (fun a U => a = As.toArray ∧ U.heap = H ∧ vEnv G A U H) (fun _ _ _ _ _ => True) (fun _ st o t => vOut G st A mc ms Q o t) := by
  refine MetFree.of_bodyS (code := M.2.1) (maxLocals := M.2.2.1) (ret := M.2.2.2.1) hy ?_ ?_
  · intro args s m h1 hn
    obtain ⟨meth, c, q1, q2, q3, q4, q5, q6, -, -⟩ := vCw_spec hn (atoms_spec (ws := [vCw M]) h1 _ List.mem_cons_self)
    exact ⟨meth, c, q1, q2, q3, q4, q5, q6⟩
  · intro p e s m args below meth c s₁ B hml hp _
    obtain ⟨rfl, hH, hE⟩ := hp
    have X₀ := Stand.of_body B
    obtain ⟨meth', c', q1, q2, q3, q4, q5, q6, q7, -⟩ := vCw_spec B.named (atoms_spec (ws := [vCw M]) B.pre _ List.mem_cons_self)
    cases B.method.symm.trans q1
    cases X₀.code.symm.trans q2
    have hh0 : s₁.heap = s.heap := by rw [B.state]; rfl
    have hl := lv_entry As (n := M.2.2.1) (by rw [vSl_len As hcat]; exact hlen)
    rw [vArgs_eq As 0 hcat] at hl
    subst hH
    have K := hV p l e (headSpec [vCw M] (vRm fr lo mc ms)).room s m As.toArray below meth c A s.heap [] 0 0 mc ms _ ⟨⟨B.exec, B.bytes, hml, B.returns, q7, B.notSynchronized, (name_of_methodNamed B.named B.method).1, findClass_of_methodNamed B.named, hl0, hA, hE⟩, ⟨Nat.le_refl _, Nat.le_refl _, Nat.le_of_eq (Nat.zero_add _), Nat.le_of_eq (Nat.zero_add _), Nat.le_refl _, Nat.le_refl _⟩, hP, hD, va_S.rf, hl, vArgs_cat As 0 hcat⟩
    rw [← lg_entry_eq] at K
    obtain ⟨t, a1, o, b1, b2, b3⟩ := K s₁ hh0 X₀
    exact ⟨t, o, a1, b1, b2, b3⟩
/-- what a call comes back with, seen by its caller -/
theorem vBack {p : Program} {l : Launch} {e : Env} {R : Room} {s : State} {m : MethodId} {sargs : Array Value} {below : List Frame} {meth : Method} {c : Code} {U : State} {locs : List Loc} {cells slots : Nat} (X : Stand p l e R s m sargs below meth c U locs cells slots)
    {g : JFrame} {ig : Instr} {mk : MethodId} (hg : g.method = m) (hsize : g.locals.size = c.maxLocals) (hdg : decode c.code g.pc = .ok (ig, 3)) (hW : 2 * g.monitorRoom + (g.stack.map fun v => v.category).sum ≤ 8) (hn : U.methodNamed? M.1 = some mk)
    (hl0 : l.stackTraces = false) (hy : plainName M.1.cls = true) {As : List Value} (hcat : ∀ v ∈ As, v.category = 1) (hlen : As.length ≤ M.2.2.1) {A : Nat → Prop} {H : Heap} (hA : ∀ q, H.size ≤ q → A q) (hP : va_P G.1 vCl (va_pl h.1 h.2) H) (hD : va_D A (va_pl h.1 h.2)) (hV : V G M fr lo 0 (vArgs 0 As) [] h mc ms Q)
    (hH : U.heap = H) (hE : vEnv G A U H) (hcw : vCw M ∈ vT) (hini : Cond.initialized M.1.cls ∈ vT) (hfr : fr + 1 ≤ R.frames) (hlo : 8 + (M.2.2.1 + 11) + lo ≤ R.locals) (hc : cells + mc ≤ R.cells) (hs : slots + ms ≤ R.slots) :
    ∃ (T' : State) (L : List Loc) (h' : vH), Stand p l e R s m sargs below meth c T' (locs ++ L) (cells + mc) (slots + ms) ∧ (∀ q ∈ L, A q.base) ∧ H.size ≤ T'.heap.size ∧ (∀ q : Nat, q < H.size → ¬ A q → T'.heap[q]? = H[q]?) ∧ va_P G.1 vCl (va_pl h'.1 h'.2) T'.heap ∧ va_D A (va_pl h'.1 h'.2) ∧
      ((∃ v, Q (.inl v) h' ∧ Steps p.tables e below (doInvoke e (U.setTop g) [] mk As.toArray).1 (T'.setTop { g with pc := g.pc + 3, stack := v.toList ++ g.stack })) ∨
       (∃ (q : Addr) (E : String) (ce : Cell), Q (.inr E) h' ∧ T'.heap[q]? = some ce ∧ ce.vm = .none ∧ U.vm.findClass E = some ce.cls ∧ Steps p.tables e below (doInvoke e (U.setTop g) [] mk As.toArray).1 ((T'.setTop g).pushFrame (.throwing q)))) := by
  have hM := vMet (l := l) hl0 hy hcat hlen hA hP hD hV
  obtain ⟨methY, cY, hmY, hcY, -, hlY, -, -, -, -⟩ := vCw_spec hn (hE.1 _ hcw #[])
  obtain ⟨kY, hkY, -⟩ := className_of_methodNamed hn
  have hinitY : kY.init = .initialized := Cond.initialized_spec (findClass_of_methodNamed hn) hkY (hE.1 _ hini #[])
  have hAt : At U g.method c below := by rw [hg]; exact X.here
  have hpre : (headSpec [vCw M] (vRm fr lo mc ms)).pre.before As.toArray U = true := atoms_intro (fun w hw => by
    rw [List.mem_singleton.mp hw]
    exact hE.1 _ hcw _)
  have happ : (headSpec [vCw M] (vRm fr lo mc ms)).appliesLoose M.1 e.platform (U.calling g mk As.toArray) = true :=
    Spec.appliesLoose_calling (g := g) hAt hdg hn hkY hinitY
      (X.room_calling (g := g) (R' := (headSpec [vCw M] (vRm fr lo mc ms)).room) hsize hmY hcY hfr (by rw [hlY]; show 2 * g.monitorRoom + (g.stack.map fun v => v.category).sum + (M.2.2.1 + 11) + lo ≤ R.locals; omega) hc hs) hpre
  obtain ⟨mid, hmid⟩ := hAt.above
  have hfr0 : (U.setTop g).frames = (.java g :: mid) ++ below := by rw [State.frames_setTop' g hAt.top, hmid]; rfl
  obtain ⟨o, s₂, hsteps, -, hend, hq⟩ := Steps.callFree hM p X.admits X.cas X.clock (acts := []) hfr0 happ ⟨rfl, hH, vEnv.moved (s := U) (State.WarmedH.refl U) hE⟩ trivial
  have hq' : vOut G (U.calling g mk As.toArray) A mc ms Q o s₂ := hq
  rw [State.frames_setTop' g hAt.top] at hend
  obtain ⟨hW₂, ⟨L, ⟨e2, q2, q3, q4, q5, q6⟩, hL⟩, ⟨f1, f2⟩, hres⟩ := hq'
  have e3 : s₂ = ({ (U.calling g mk As.toArray).setFrames s₂.frames with heap := s₂.heap, slotsUsed := s₂.slotsUsed } : State).setVm s₂.vm := by
    have : s₂ = ({ s₂ with vm := (U.calling g mk As.toArray).vm } : State).setVm s₂.vm := rfl
    rw [e2] at this
    exact this
  have hW' : U.WarmedH s₂.vm := hW₂
  obtain ⟨g₀, hg0⟩ := Option.isSome_iff_exists.mp hAt.top
  obtain ⟨r, hr⟩ := State.topJava?_eq_some.mp hg0
  have hr' : (({ U with heap := s₂.heap, slotsUsed := s₂.slotsUsed } : State).setVm s₂.vm).frames = .java g₀ :: r := hr
  have hsame : U.sameButNew ({ U with heap := s₂.heap, slotsUsed := s₂.slotsUsed } : State) L mc ms := by
    refine ⟨?_, q2, q3, q4, q5, q6⟩
    obtain ⟨t, ht, -⟩ := State.frames_cons hr
    show ({ U with heap := s₂.heap, slotsUsed := s₂.slotsUsed } : State) = { U.setFrames U.frames with heap := s₂.heap, slotsUsed := s₂.slotsUsed }
    rw [State.setFrames_self ht]
  have hX' : Stand p l e R s m sargs below meth c (({ U with heap := s₂.heap, slotsUsed := s₂.slotsUsed } : State).setVm s₂.vm) (locs ++ L) (cells + mc) (slots + ms) :=
    ⟨X.admits, X.cas, X.clock, X.frames, X.room, X.hears, X.method, X.code, (X.here.setHeapUsed s₂.heap s₂.slotsUsed).setVm hW'.alike, X.tail, State.WarmedH.trans X.warmed hW', X.limits, X.bytes, X.same.trans (hsame.setVm s.vm)⟩
  have f1' : H.size ≤ s₂.heap.size := by rw [← hH]; exact f1
  have f2' : ∀ q : Nat, q < H.size → ¬ A q → s₂.heap[q]? = H[q]? := fun q z1 z2 => by rw [← hH] at z1 ⊢; exact f2 q z1 z2
  rcases hres with ⟨v, h', rfl, hqv, hP', hD'⟩ | ⟨q, E, ce, h', rfl, hqv, hP', hD', hce, hcv, hcl⟩
  · refine ⟨_, L, h', hX', hL, f1', f2', hP', hD', Or.inl ⟨v, hqv, ?_⟩⟩
    obtain ⟨c₂, i₂, len₂, hc₂, hd₂, hf₂⟩ := hend
    have hcc : c₂ = c := by
      have h1 : s₂.code? g.method = U.code? g.method := by
        rw [State.code?_eq, State.code?_eq, hW'.alike.method?]
      exact Option.some.inj (hc₂.symm.trans (h1.trans hAt.code))
    subst hcc
    have hlen3 : len₂ = 3 := by rw [hdg] at hd₂; cases hd₂; rfl
    subst hlen3
    have hs₂ : s₂ = (({ U with heap := s₂.heap, slotsUsed := s₂.slotsUsed } : State).setVm s₂.vm).setTop { g with pc := g.pc + 3, stack := v.toList ++ g.stack } := by
      refine e3.trans ?_
      rw [hf₂, State.calling_eq hAt.top, State.setFrames_setFrames, State.setTop_of_frames _ hr', hr]
      rfl
    rw [← hs₂]
    exact hsteps
  · refine ⟨_, L, h', hX', hL, f1', f2', hP', hD', Or.inr ⟨q, E, ce, hqv, hce, hcv, hcl, ?_⟩⟩
    have hf₂ : s₂.frames = .throwing q :: .java g :: U.frames.tail := hend
    have hs₂ : s₂ = ((({ U with heap := s₂.heap, slotsUsed := s₂.slotsUsed } : State).setVm s₂.vm).setTop g).pushFrame (.throwing q) := by
      refine e3.trans ?_
      rw [hf₂, State.calling_eq hAt.top, State.setFrames_setFrames, State.pushFrame, State.frames_setTop _ hr', State.setTop_of_frames _ hr', State.setFrames_setFrames, hr]
      rfl
    rw [← hs₂]
    exact hsteps
end VCl0
