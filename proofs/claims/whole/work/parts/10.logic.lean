/-! The logic of this proof: a judgement V over a pool of cells (addresses and what they hold), all of the machine's own context inside it. -/
abbrev vH : Type := List Nat × (Nat → va_E)
abbrev vR : Type := Option Value ⊕ String
abbrev vQ : Type := vR → vH → Prop
/-- what is fixed for a run: class ids and slots; classes of arrays; the empty array; the mirror of Object[]; the script -/
abbrev vG : Type := va_G × (Nat → ClassId) × Nat × Nat × Nat × Nat × (Nat → Int32)
def vTy (G : vG) : List (ClassId × FieldType) := [(G.2.1 0, .int), (G.2.1 1, .boolean), (G.2.1 2, .long), (G.2.1 3, .object "java/lang/Object")]
def vLs (C n d : String) (A : Nat → Prop) (U : State) (H : Heap) : Prop := ∃ (c : ClassId) (k : Class) (i : Nat) (f : Field) (a : Nat) (cell : Cell), U.vm.findClass C = some c ∧ U.fieldFound? C n d = some (c, k, i, f) ∧ f.isStatic = true ∧ k.statics = some a ∧ H[a]? = some cell ∧ cell.vm.isStatics = true ∧ cell.cls = c ∧ f.slot < cell.slots.size ∧ k.staticTypes[f.slot]? = some f.type ∧ ¬ A a
theorem vLs_moved {C n d : String} {A : Nat → Prop} {u U : State} {H : Heap} (hvm : u.vm.Alike U.vm) (h : vLs C n d A u H) : vLs C n d A U H := by
  obtain ⟨c, k, i, f, a, cell, h1, h2, h3, h4, h5, h6, h7, h8, h9, h10⟩ := h
  obtain ⟨k', hi', he⟩ := State.fieldFound?_setVm hvm h2
  exact ⟨c, k', i, f, a, cell, by rw [hvm.findClass]; exact h1, hi', h3, by rw [he]; exact h4, h5, h6, h7, h8, by rw [he]; exact h9, h10⟩
theorem vLs_kept {C n d : String} {A : Nat → Prop} {U : State} {H H1 : Heap} (h : vLs C n d A U H) (hq : ∀ a : Nat, a < H.size → ¬ A a → H1[a]? = H[a]?) : vLs C n d A U H1 := by
  obtain ⟨c, k, i, f, a, cell, h1, h2, h3, h4, h5, h6, h7, h8, h9, h10⟩ := h
  exact ⟨c, k, i, f, a, cell, h1, h2, h3, h4, by rw [hq a (Array.getElem?_eq_some_iff.mp h5).1 h10]; exact h5, h6, h7, h8, h9, h10⟩
theorem vLs_narrow {C n d : String} {A B : Nat → Prop} {U : State} {H : Heap} (h : vLs C n d A U H) (hAB : ∀ q, B q → A q) : vLs C n d B U H := by
  obtain ⟨c, k, i, f, a, cell, h1, h2, h3, h4, h5, h6, h7, h8, h9, h10⟩ := h
  exact ⟨c, k, i, f, a, cell, h1, h2, h3, h4, h5, h6, h7, h8, h9, fun z => h10 (hAB _ z)⟩
def vStr : List (String × Nat × String) := [("CodeShrinker", 193, "a number out of range, or a CLASS or METHOD that is not there"), ("CodeShrinker", 63, "no room for one more CLASS"), ("CodeShrinker", 94, "no room for one more METHOD, or there is one like it"), ("CodeShrinker", 112, "no room for one more ITEM"), ("CodeShrinker$Runner", 24, "too many RUNNING within one another"), ("CodeShrinker$Runner", 37, "FINDING gives none"), ("CodeShrinker$Runner", 62, "too many ITEMS in all"), ("CodeShrinker", 165, "no such ITEM"), ("CodeShrinker", 174, "the CLASS has no such METHOD")]
def vNo : List (String × String) := [("java/lang/IllegalStateException", "java/lang/IllegalArgumentException"), ("java/util/NoSuchElementException", "java/lang/IllegalArgumentException"), ("java/lang/IllegalArgumentException", "java/lang/IllegalStateException"), ("java/util/NoSuchElementException", "java/lang/IllegalStateException"), ("java/lang/IllegalArgumentException", "java/util/NoSuchElementException"), ("java/lang/IllegalStateException", "java/util/NoSuchElementException")]
abbrev vNest : Cond := .methodLinkNest "CodeShrinker" 18 ⟨"CodeShrinker$Runner", "<init>", "()V"⟩ "CodeShrinker"
def vEnv (G : vG) (A : Nat → Prop) (U : State) (H : Heap) : Prop :=
  (∀ w ∈ vT, ∀ a' : Array Value, w.before a' U = true) ∧
  va_K G.1 vCl (vTy G) U ∧
  va_Nw vNest U ∧
  (va_Z "java/util/ArrayList" "DEFAULTCAPACITY_EMPTY_ELEMENTDATA" "[Ljava/lang/Object;" (.ref G.2.2.1) A U H ∧ va_T (.object "java/lang/Object") G.2.2.1 0 (fun _ => .null) A U H) ∧
  (va_Zq Bundle.tN "UNASSIGNED_STACK" Bundle.steD A U H ∧ vLs Bundle.tN "UNASSIGNED_STACK" Bundle.steD A U H) ∧
  (va_Zq Bundle.tN "SUPPRESSED_SENTINEL" Bundle.listD A U H ∧ vLs Bundle.tN "SUPPRESSED_SENTINEL" Bundle.listD A U H) ∧
  (∀ t ∈ vStr, ∃ sa : Nat, vk_R t.1 t.2.1 t.2.2 sa U) ∧
  va_Mi "[Ljava/lang/Object;" G.2.2.2.1 U ∧ va_AO "java/lang/Object" U ∧ (∀ t ∈ vNo, va_Nc t.1 t.2 U) ∧
  (va_X G.2.2.2.2.1 G.2.2.2.2.2.1 G.2.2.2.2.2.2 U H ∧ G.2.2.2.2.1 < H.size ∧ ¬ A G.2.2.2.2.1)
theorem vT_good {w : Cond} (h : w ∈ vT) : vGood w = true := (List.mem_filter.mp h).2
theorem vWord {s U : State} (hW : s.WarmedH U.vm) {w : Cond} (hw : vGood w = true) {a a' : Array Value} (h : w.before a s = true) : w.before a' U = true := by
  simp only [vGood, Bool.or_eq_true, Bool.and_eq_true] at hw
  rcases hw with g | ⟨g1, g2⟩
  · exact word_at hW (good_of_word g) h
  · exact va_tabs g1 (rfl : (s.setVm U.vm).vm = U.vm) (Cond.before_shiftedFace (State.Shifted.of_warmed hW) w g2 h)
theorem vEnv.moved {G : vG} {A : Nat → Prop} {s U : State} {H : Heap} (hW : s.WarmedH U.vm) (h : vEnv G A s H) : vEnv G A U H := by
  obtain ⟨h1, h2, h3, ⟨h4, h4'⟩, ⟨h5, h5'⟩, ⟨h6, h6'⟩, h7, h8, h9, h10, h11, h12⟩ := h
  have hv := hW.alike
  refine ⟨fun w hw a' => vWord hW (vT_good hw) (h1 w hw #[]), va_K.moved hv h2, va_Nw.warmM hW h3, ⟨va_Z.moved hv h4, va_T.moved hv h4'⟩, ⟨va_Zq.moved hv h5, vLs_moved hv h5'⟩, ⟨va_Zq.moved hv h6, vLs_moved hv h6'⟩, ?_, va_Mi.moved hv h8, va_AO.moved hv h9, fun t ht => va_Nc.moved hv (h10 t ht), va_X.moved hv h11, h12⟩
  intro t ht
  obtain ⟨sa, q⟩ := h7 t ht
  exact ⟨sa, vk_R.warm hW q⟩
theorem vEnv.kept {G : vG} {A : Nat → Prop} {U : State} {H H1 : Heap} (h : vEnv G A U H) (hz : H.size ≤ H1.size) (hq : ∀ a : Nat, a < H.size → ¬ A a → H1[a]? = H[a]?) : vEnv G A U H1 := by
  obtain ⟨h1, h2, h3, ⟨h4, h4'⟩, ⟨h5, h5'⟩, ⟨h6, h6'⟩, h7, h8, h9, h10, h11, h12, h13⟩ := h
  exact ⟨h1, h2, h3, ⟨va_Z.kept h4 hq, va_T.kept h4' hq⟩, ⟨va_Zq.kept h5 hq, vLs_kept h5' hq⟩, ⟨va_Zq.kept h6 hq, vLs_kept h6' hq⟩, h7, h8, h9, h10, h11.kept (hq _ h12 h13), Nat.lt_of_lt_of_le h12 hz, h13⟩
theorem vEnv.narrow {G : vG} {A B : Nat → Prop} {U : State} {H : Heap} (h : vEnv G A U H) (hq : ∀ q, B q → A q) : vEnv G B U H := by
  obtain ⟨h1, h2, h3, ⟨h4, h4'⟩, ⟨h5, h5'⟩, ⟨h6, h6'⟩, h7, h8, h9, h10, h11, h12, h13⟩ := h
  exact ⟨h1, h2, h3, ⟨va_Z.narrow h4 hq, va_T.narrow h4' hq⟩, ⟨va_Zq.narrow h5 hq, vLs_narrow h5' hq⟩, ⟨va_Zq.narrow h6 hq, vLs_narrow h6' hq⟩, h7, h8, h9, h10, h11, h12, fun z => h13 (hq _ z)⟩
/-- the method's own: code, table, class; the launch without traces; the environment at its start -/
def vCx (G : vG) (M : vM) (p : Program) (l : Launch) (s : State) (m : MethodId) (meth : Method) (c : Code) (A : Nat → Prop) : Prop :=
  p.tables.exec = Jvm.exec ∧ c.code = M.2.1 ∧ c.maxLocals = M.2.2.1 ∧ meth.sig.returnType = M.2.2.2.1 ∧ c.exceptionTable.toList.map (fun h => (h.startPc, h.endPc, h.handlerPc, h.catchType)) = M.2.2.2.2 ∧ meth.locks = false ∧ meth.name = M.1.name ∧ s.vm.findClass M.1.cls = some m.cls ∧ l.stackTraces = false ∧ (∀ q, s.heap.size ≤ q → A q) ∧ vEnv G A s s.heap
/-- what has come of a call: an answer or an exception, and the pool behind it -/
def vOut (G : vG) (s : State) (A : Nat → Prop) (MC MS : Nat) (Q : vQ) (o : Outcome) (t : State) : Prop :=
  s.WarmedH t.vm ∧ (∃ Lc : List Loc, s.sameButNew ({ t with vm := s.vm } : State) Lc MC MS ∧ ∀ q ∈ Lc, A q.base) ∧ va_F A s t ∧
  ((∃ (v : Option Value) (h' : vH), o = .returned v ∧ Q (.inl v) h' ∧ va_P G.1 vCl (va_pl h'.1 h'.2) t.heap ∧ va_D A (va_pl h'.1 h'.2)) ∨
   (∃ (q : Addr) (E : String) (ce : Cell) (h' : vH), o = .threw q ∧ Q (.inr E) h' ∧ va_P G.1 vCl (va_pl h'.1 h'.2) t.heap ∧ va_D A (va_pl h'.1 h'.2) ∧ t.heap[q]? = some ce ∧ ce.vm = .none ∧ s.vm.findClass E = some ce.cls))
def vFin (G : vG) (below : List Frame) (s : State) (A : Nat → Prop) (MC MS : Nat) (Q : vQ) : State → Prop := fun t => ∃ o, t.status = .running ∧ Ended t below o ∧ vOut G s A MC MS Q o t
def vIn (G : vG) (M : vM) (fr lo : Nat) (lv : List (Nat × Value)) (h : vH) (mc ms : Nat) (p : Program) (l : Launch) (R : Room) (s : State) (m : MethodId) (meth : Method) (c : Code) (A : Nat → Prop) (H : Heap) (locs : List Loc) (cells slots MC MS : Nat) (ls : Array Slot) : Prop :=
  vCx G M p l s m meth c A ∧ (fr ≤ R.frames ∧ lo ≤ R.locals ∧ cells + mc ≤ MC ∧ slots + ms ≤ MS ∧ MC ≤ R.cells ∧ MS ≤ R.slots) ∧ va_P G.1 vCl (va_pl h.1 h.2) H ∧ va_D A (va_pl h.1 h.2) ∧ va_S A s.heap H locs ∧ lv_has ls M.2.2.1 lv ∧ (∀ q ∈ lv, q.2.category = 1)
/-- the method M at pc, with these locals, this stack and this pool, comes to an end with Q; room for fr frames, lo words, mc cells of ms slots -/
def V (G : vG) (M : vM) (fr lo : Nat) (pc : Nat) (lv : List (Nat × Value)) (st : List Value) (h : vH) (mc ms : Nat) (Q : vQ) : Prop :=
  ∀ (p : Program) (l : Launch) (e : Env) (R : Room) (s : State) (m : MethodId) (args : Array Value) (below : List Frame) (meth : Method) (c : Code) (A : Nat → Prop) (H : Heap) (locs : List Loc) (cells slots MC MS : Nat) (ls : Array Slot),
    vIn G M fr lo lv h mc ms p l R s m meth c A H locs cells slots MC MS ls → W p l e R s m args below meth c H locs cells slots (vFin G below s A MC MS Q) (F0 m pc ls st)
def vGet : List (Nat × Value) → Nat → Option Value
  | [], _ => none
  | (j, w) :: r, i => cond (Nat.beq j i) (some w) (vGet r i)
theorem vGet_mem : ∀ {lv : List (Nat × Value)} {i : Nat} {v : Value}, vGet lv i = some v → (i, v) ∈ lv
  | [], _, _, h => by cases h
  | (j, w) :: r, i, v, h => by
    unfold vGet at h
    cases hb : Nat.beq j i with
    | true =>
      rw [hb] at h
      have e1 : j = i := Nat.eq_of_beq_eq_true hb
      have e2 : w = v := Option.some.inj h
      rw [← e1, ← e2]
      exact List.mem_cons_self
    | false =>
      rw [hb] at h
      exact List.mem_cons_of_mem _ (vGet_mem h)
def vRep : List (Nat × Value) → Nat → Value → Bool → Option (List (Nat × Value))
  | [], i, v, b => cond b (some []) (some [(i, v)])
  | (j, w) :: r, i, v, b => cond (Nat.beq j i) (match vRep r i v true with | some t => some ((i, v) :: t) | none => none) (match vRep r i v b with | some t => some ((j, w) :: t) | none => none)
theorem vRep_mem : ∀ {lv : List (Nat × Value)} {i : Nat} {v : Value} {b : Bool} {lv' : List (Nat × Value)}, vRep lv i v b = some lv' → ∀ q ∈ lv', q = (i, v) ∨ (q ∈ lv ∧ q.1 ≠ i)
  | [], i, v, b, lv', h, q, hq => by
    unfold vRep at h
    cases b with
    | true => cases h; cases hq
    | false => cases h; exact Or.inl (List.mem_singleton.mp hq)
  | (j, w) :: r, i, v, b, lv', h, q, hq => by
    unfold vRep at h
    cases hb : Nat.beq j i with
    | true =>
      rw [hb] at h
      cases hr : vRep r i v true with
      | none => rw [hr] at h; cases h
      | some t =>
        rw [hr] at h
        cases h
        rcases List.mem_cons.mp hq with h1 | h1
        · exact Or.inl h1
        · rcases vRep_mem hr q h1 with h2 | ⟨h2, h3⟩
          · exact Or.inl h2
          · exact Or.inr ⟨List.mem_cons_of_mem _ h2, h3⟩
    | false =>
      rw [hb] at h
      cases hr : vRep r i v b with
      | none => rw [hr] at h; cases h
      | some t =>
        rw [hr] at h
        cases h
        rcases List.mem_cons.mp hq with h1 | h1
        · refine Or.inr ⟨by rw [h1]; exact List.mem_cons_self, fun z => ?_⟩
          rw [h1] at z
          have z2 : j = i := z
          rw [z2, Nat.beq_refl] at hb
          cases hb
        · rcases vRep_mem hr q h1 with h2 | ⟨h2, h3⟩
          · exact Or.inl h2
          · exact Or.inr ⟨List.mem_cons_of_mem _ h2, h3⟩
theorem vRep_has {ls : Array Slot} {nL i : Nat} {v : Value} {lv lv' : List (Nat × Value)} (hc : ∀ q ∈ lv, q.2.category = 1) (h : lv_has ls nL ((i, v) :: lv.filter (fun q => !(q.1 == i) && !(q.1 + 1 == i && q.2.category == 2)))) (e : vRep lv i v false = some lv') : lv_has ls nL lv' := by
  refine ⟨h.1, h.2.1, fun q hq => h.2.2 q ?_⟩
  rcases vRep_mem e q hq with h1 | ⟨h1, h2⟩
  · rw [h1]; exact List.mem_cons_self
  · refine List.mem_cons_of_mem _ (List.mem_filter.mpr ⟨h1, ?_⟩)
    have h3 := hc q h1
    simp [h2, h3]
theorem vRep_cat {i : Nat} {v : Value} {lv lv' : List (Nat × Value)} (hc : ∀ q ∈ lv, q.2.category = 1) (hv : v.category = 1) (e : vRep lv i v false = some lv') : ∀ q ∈ lv', q.2.category = 1 := by
  intro q hq
  rcases vRep_mem e q hq with h1 | ⟨h1, h2⟩
  · rw [h1]; exact hv
  · exact hc q h1
def vIsR : Value → Bool
  | .ref _ => true
  | .null => true
  | _ => false
theorem vIsR_rf (r : Option Nat) : vIsR (va_rf r) = true := by cases r <;> rfl
theorem vIsR_or {v : Value} (h : vIsR v = true) : v = .null ∨ ∃ a, v = .ref a := by
  cases v <;> first | exact Or.inl rfl | exact Or.inr ⟨_, rfl⟩ | cases h
theorem vRf_cat (r : Option Nat) : (va_rf r).category = 1 := by cases r <;> rfl
theorem vR_cat {v : Value} (h : vIsR v = true) : v.category = 1 := by
  rcases vIsR_or h with rfl | ⟨a, rfl⟩ <;> rfl
section VR
variable {G : vG} {M : vM} {fr lo pc : Nat} {lv lv' : List (Nat × Value)} {st : List Value} {h : vH} {mc ms : Nat} {Q Q' : vQ}
theorem v_iconst {n : Int} {v : Int32} (d : decode M.2.1 pc = .ok (.iconst n, 1)) (hv : Int32.ofInt n = v) (k : V G M fr lo (pc + 1) lv (.int v :: st) h mc ms Q) : V G M fr lo pc lv st h mc ms Q := fun p l e R s m args below meth c A H locs cells slots MC MS ls I => lv_iconst I.1.1 I.1.2.1 d hv (k p l e R s m args below meth c A H locs cells slots MC MS ls I)
theorem v_bipush {n : Int} {v : Int32} (d : decode M.2.1 pc = .ok (.bipush n, 2)) (hv : (Int8.ofInt n).toInt32 = v) (k : V G M fr lo (pc + 2) lv (.int v :: st) h mc ms Q) : V G M fr lo pc lv st h mc ms Q := fun p l e R s m args below meth c A H locs cells slots MC MS ls I => lv_bipush I.1.1 I.1.2.1 d hv (k p l e R s m args below meth c A H locs cells slots MC MS ls I)
theorem v_sipush {n : Int} {v : Int32} (d : decode M.2.1 pc = .ok (.sipush n, 3)) (hv : (Int16.ofInt n).toInt32 = v) (k : V G M fr lo (pc + 3) lv (.int v :: st) h mc ms Q) : V G M fr lo pc lv st h mc ms Q := fun p l e R s m args below meth c A H locs cells slots MC MS ls I => lv_sipush I.1.1 I.1.2.1 d hv (k p l e R s m args below meth c A H locs cells slots MC MS ls I)
theorem v_null  (d : decode M.2.1 pc = .ok (.aconst_null, 1)) (k : V G M fr lo (pc + 1) lv (.null :: st) h mc ms Q) : V G M fr lo pc lv st h mc ms Q := fun p l e R s m args below meth c A H locs cells slots MC MS ls I => lv_null I.1.1 I.1.2.1 d (k p l e R s m args below meth c A H locs cells slots MC MS ls I)
theorem v_iload_n {i : Fin 4} {x : Int32} (d : decode M.2.1 pc = .ok (.iload_n i, 1)) (hl : vGet lv i.val = some (.int x)) (k : V G M fr lo (pc + 1) lv (.int x :: st) h mc ms Q) : V G M fr lo pc lv st h mc ms Q := fun p l e R s m args below meth c A H locs cells slots MC MS ls I => lv_iload_n I.1.1 I.1.2.1 d rfl (I.2.2.2.2.2.1.2.2 _ (vGet_mem hl)) (k p l e R s m args below meth c A H locs cells slots MC MS ls I)
theorem v_iload {i : Nat} {x : Int32} (d : decode M.2.1 pc = .ok (.iload i, 2)) (hl : vGet lv i = some (.int x)) (k : V G M fr lo (pc + 2) lv (.int x :: st) h mc ms Q) : V G M fr lo pc lv st h mc ms Q := fun p l e R s m args below meth c A H locs cells slots MC MS ls I => lv_iload I.1.1 I.1.2.1 d (I.2.2.2.2.2.1.2.2 _ (vGet_mem hl)) (k p l e R s m args below meth c A H locs cells slots MC MS ls I)
theorem v_aload_n {i : Fin 4} {v : Value} (d : decode M.2.1 pc = .ok (.aload_n i, 1)) (hl : vGet lv i.val = some v) (hv : vIsR v = true) (k : V G M fr lo (pc + 1) lv (v :: st) h mc ms Q) : V G M fr lo pc lv st h mc ms Q := by
  intro p l e R s m args below meth c A H locs cells slots MC MS ls I
  rcases vIsR_or hv with rfl | ⟨a, rfl⟩
  · exact lv_aload_nN I.1.1 I.1.2.1 d rfl (I.2.2.2.2.2.1.2.2 _ (vGet_mem hl)) (k p l e R s m args below meth c A H locs cells slots MC MS ls I)
  · exact lv_aload_n I.1.1 I.1.2.1 d rfl (I.2.2.2.2.2.1.2.2 _ (vGet_mem hl)) (k p l e R s m args below meth c A H locs cells slots MC MS ls I)
theorem v_aload {i : Nat} {v : Value} (d : decode M.2.1 pc = .ok (.aload i, 2)) (hl : vGet lv i = some v) (hv : vIsR v = true) (k : V G M fr lo (pc + 2) lv (v :: st) h mc ms Q) : V G M fr lo pc lv st h mc ms Q := by
  intro p l e R s m args below meth c A H locs cells slots MC MS ls I
  rcases vIsR_or hv with rfl | ⟨a, rfl⟩
  · exact lv_aloadN I.1.1 I.1.2.1 d (I.2.2.2.2.2.1.2.2 _ (vGet_mem hl)) (k p l e R s m args below meth c A H locs cells slots MC MS ls I)
  · exact lv_aload I.1.1 I.1.2.1 d (I.2.2.2.2.2.1.2.2 _ (vGet_mem hl)) (k p l e R s m args below meth c A H locs cells slots MC MS ls I)
theorem v_istore_n {i : Fin 4} {x : Int32} (d : decode M.2.1 pc = .ok (.istore_n i, 1)) (hn : i.val < M.2.2.1) (hl : vRep lv i.val (.int x) false = some lv') (k : V G M fr lo (pc + 1) lv' st h mc ms Q) : V G M fr lo pc lv (.int x :: st) h mc ms Q := by
  intro p l e R s m args below meth c A H locs cells slots MC MS ls I
  obtain ⟨I1, I2, I3, I4, I5, I6, I7⟩ := I
  exact lv_istore_n I1.1 I1.2.1 d rfl I6 hn rfl (fun ls' h' => k p l e R s m args below meth c A H locs cells slots MC MS ls' ⟨I1, I2, I3, I4, I5, vRep_has I7 h' hl, vRep_cat I7 rfl hl⟩)
theorem v_istore {i : Nat} {x : Int32} (d : decode M.2.1 pc = .ok (.istore i, 2)) (hn : i < M.2.2.1) (hl : vRep lv i (.int x) false = some lv') (k : V G M fr lo (pc + 2) lv' st h mc ms Q) : V G M fr lo pc lv (.int x :: st) h mc ms Q := by
  intro p l e R s m args below meth c A H locs cells slots MC MS ls I
  obtain ⟨I1, I2, I3, I4, I5, I6, I7⟩ := I
  exact lv_istore I1.1 I1.2.1 d I6 hn rfl (fun ls' h' => k p l e R s m args below meth c A H locs cells slots MC MS ls' ⟨I1, I2, I3, I4, I5, vRep_has I7 h' hl, vRep_cat I7 rfl hl⟩)
theorem v_astore_n {i : Fin 4} {v : Value} (d : decode M.2.1 pc = .ok (.astore_n i, 1)) (hv : vIsR v = true) (hn : i.val < M.2.2.1) (hl : vRep lv i.val v false = some lv') (k : V G M fr lo (pc + 1) lv' st h mc ms Q) : V G M fr lo pc lv (v :: st) h mc ms Q := by
  intro p l e R s m args below meth c A H locs cells slots MC MS ls I
  obtain ⟨I1, I2, I3, I4, I5, I6, I7⟩ := I
  rcases vIsR_or hv with rfl | ⟨a, rfl⟩
  · exact lv_astore_nN I1.1 I1.2.1 d rfl I6 hn rfl (fun ls' h' => k p l e R s m args below meth c A H locs cells slots MC MS ls' ⟨I1, I2, I3, I4, I5, vRep_has I7 h' hl, vRep_cat I7 rfl hl⟩)
  · exact lv_astore_n I1.1 I1.2.1 d rfl I6 hn rfl (fun ls' h' => k p l e R s m args below meth c A H locs cells slots MC MS ls' ⟨I1, I2, I3, I4, I5, vRep_has I7 h' hl, vRep_cat I7 rfl hl⟩)
theorem v_astore {i : Nat} {v : Value} (d : decode M.2.1 pc = .ok (.astore i, 2)) (hv : vIsR v = true) (hn : i < M.2.2.1) (hl : vRep lv i v false = some lv') (k : V G M fr lo (pc + 2) lv' st h mc ms Q) : V G M fr lo pc lv (v :: st) h mc ms Q := by
  intro p l e R s m args below meth c A H locs cells slots MC MS ls I
  obtain ⟨I1, I2, I3, I4, I5, I6, I7⟩ := I
  rcases vIsR_or hv with rfl | ⟨a, rfl⟩
  · exact lv_astoreN I1.1 I1.2.1 d I6 hn rfl (fun ls' h' => k p l e R s m args below meth c A H locs cells slots MC MS ls' ⟨I1, I2, I3, I4, I5, vRep_has I7 h' hl, vRep_cat I7 rfl hl⟩)
  · exact lv_astore I1.1 I1.2.1 d I6 hn rfl (fun ls' h' => k p l e R s m args below meth c A H locs cells slots MC MS ls' ⟨I1, I2, I3, I4, I5, vRep_has I7 h' hl, vRep_cat I7 rfl hl⟩)
theorem v_iinc {i : Nat} {n : Int} {x v : Int32} (d : decode M.2.1 pc = .ok (.iinc i n, 3)) (hx : vGet lv i = some (.int x)) (hv : x + Int32.ofInt n = v) (hn : i < M.2.2.1) (hl : vRep lv i (.int v) false = some lv') (k : V G M fr lo (pc + 3) lv' st h mc ms Q) : V G M fr lo pc lv st h mc ms Q := by
  intro p l e R s m args below meth c A H locs cells slots MC MS ls I
  obtain ⟨I1, I2, I3, I4, I5, I6, I7⟩ := I
  obtain ⟨j, hj⟩ := List.getElem?_of_mem (vGet_mem hx)
  exact lv_iinc I1.1 I1.2.1 d I6 hj hv hn rfl (fun ls' h' => k p l e R s m args below meth c A H locs cells slots MC MS ls' ⟨I1, I2, I3, I4, I5, vRep_has I7 h' hl, vRep_cat I7 rfl hl⟩)
theorem v_iadd {x y : Int32} (d : decode M.2.1 pc = .ok (.iadd, 1)) (k : V G M fr lo (pc + 1) lv (.int (x + y) :: st) h mc ms Q) : V G M fr lo pc lv (.int y :: .int x :: st) h mc ms Q := fun p l e R s m args below meth c A H locs cells slots MC MS ls I => lv_iadd I.1.1 I.1.2.1 d (k p l e R s m args below meth c A H locs cells slots MC MS ls I)
theorem v_isub {x y : Int32} (d : decode M.2.1 pc = .ok (.isub, 1)) (k : V G M fr lo (pc + 1) lv (.int (x - y) :: st) h mc ms Q) : V G M fr lo pc lv (.int y :: .int x :: st) h mc ms Q := fun p l e R s m args below meth c A H locs cells slots MC MS ls I => lv_isub I.1.1 I.1.2.1 d (k p l e R s m args below meth c A H locs cells slots MC MS ls I)
theorem v_imul {x y : Int32} (d : decode M.2.1 pc = .ok (.imul, 1)) (k : V G M fr lo (pc + 1) lv (.int (x * y) :: st) h mc ms Q) : V G M fr lo pc lv (.int y :: .int x :: st) h mc ms Q := fun p l e R s m args below meth c A H locs cells slots MC MS ls I => lv_imul I.1.1 I.1.2.1 d (k p l e R s m args below meth c A H locs cells slots MC MS ls I)
theorem v_iand {x y : Int32} (d : decode M.2.1 pc = .ok (.iand, 1)) (k : V G M fr lo (pc + 1) lv (.int (x &&& y) :: st) h mc ms Q) : V G M fr lo pc lv (.int y :: .int x :: st) h mc ms Q := fun p l e R s m args below meth c A H locs cells slots MC MS ls I => lv_iand I.1.1 I.1.2.1 d (k p l e R s m args below meth c A H locs cells slots MC MS ls I)
theorem v_ior {x y : Int32} (d : decode M.2.1 pc = .ok (.ior, 1)) (k : V G M fr lo (pc + 1) lv (.int (x ||| y) :: st) h mc ms Q) : V G M fr lo pc lv (.int y :: .int x :: st) h mc ms Q := fun p l e R s m args below meth c A H locs cells slots MC MS ls I => lv_ior I.1.1 I.1.2.1 d (k p l e R s m args below meth c A H locs cells slots MC MS ls I)
theorem v_ishl {x y : Int32} (d : decode M.2.1 pc = .ok (.ishl, 1)) (k : V G M fr lo (pc + 1) lv (.int (x <<< (y &&& 31)) :: st) h mc ms Q) : V G M fr lo pc lv (.int y :: .int x :: st) h mc ms Q := fun p l e R s m args below meth c A H locs cells slots MC MS ls I => lv_ishl I.1.1 I.1.2.1 d (k p l e R s m args below meth c A H locs cells slots MC MS ls I)
theorem v_ishr {x y : Int32} (d : decode M.2.1 pc = .ok (.ishr, 1)) (k : V G M fr lo (pc + 1) lv (.int (x >>> (y &&& 31)) :: st) h mc ms Q) : V G M fr lo pc lv (.int y :: .int x :: st) h mc ms Q := fun p l e R s m args below meth c A H locs cells slots MC MS ls I => lv_ishr I.1.1 I.1.2.1 d (k p l e R s m args below meth c A H locs cells slots MC MS ls I)
theorem v_i2l {x : Int32} (d : decode M.2.1 pc = .ok (.i2l, 1)) (k : V G M fr lo (pc + 1) lv (.long x.toInt64 :: st) h mc ms Q) : V G M fr lo pc lv (.int x :: st) h mc ms Q := fun p l e R s m args below meth c A H locs cells slots MC MS ls I => lv_i2l I.1.1 I.1.2.1 d rfl (k p l e R s m args below meth c A H locs cells slots MC MS ls I)
theorem v_lcmp {x y : Int64} (d : decode M.2.1 pc = .ok (.lcmp, 1)) (k : V G M fr lo (pc + 1) lv (.int (lg_cmp x y) :: st) h mc ms Q) : V G M fr lo pc lv (.long y :: .long x :: st) h mc ms Q := fun p l e R s m args below meth c A H locs cells slots MC MS ls I => W.lcmp I.1.1 I.1.2.1 d (k p l e R s m args below meth c A H locs cells slots MC MS ls I)
theorem v_dup {v : Value} (d : decode M.2.1 pc = .ok (.dup, 1)) (hv : v.category = 1) (k : V G M fr lo (pc + 1) lv (v :: v :: st) h mc ms Q) : V G M fr lo pc lv (v :: st) h mc ms Q := fun p l e R s m args below meth c A H locs cells slots MC MS ls I => lv_dup I.1.1 I.1.2.1 d hv (k p l e R s m args below meth c A H locs cells slots MC MS ls I)
theorem v_pop {v : Value} (d : decode M.2.1 pc = .ok (.pop, 1)) (hv : v.category = 1) (k : V G M fr lo (pc + 1) lv st h mc ms Q) : V G M fr lo pc lv (v :: st) h mc ms Q := fun p l e R s m args below meth c A H locs cells slots MC MS ls I => lv_pop I.1.1 I.1.2.1 d hv (k p l e R s m args below meth c A H locs cells slots MC MS ls I)
theorem v_dup_x1 {v w : Value} (d : decode M.2.1 pc = .ok (.dup_x1, 1)) (hv : v.category = 1) (hw : w.category = 1) (k : V G M fr lo (pc + 1) lv (v :: w :: v :: st) h mc ms Q) : V G M fr lo pc lv (v :: w :: st) h mc ms Q := fun p l e R s m args below meth c A H locs cells slots MC MS ls I => lv_dup_x1 I.1.1 I.1.2.1 d hv hw (k p l e R s m args below meth c A H locs cells slots MC MS ls I)
theorem v_dup2 {v w : Value} (d : decode M.2.1 pc = .ok (.dup2, 1)) (hv : v.category = 1) (hw : w.category = 1) (k : V G M fr lo (pc + 1) lv (v :: w :: v :: w :: st) h mc ms Q) : V G M fr lo pc lv (v :: w :: st) h mc ms Q := fun p l e R s m args below meth c A H locs cells slots MC MS ls I => lv_dup2_11 I.1.1 I.1.2.1 d hv hw (k p l e R s m args below meth c A H locs cells slots MC MS ls I)
theorem v_if_eq {x : Int32} {off : Int} {tgt : Nat} (d : decode M.2.1 pc = .ok (.ifCond .eq off, 3)) (ht : (pc : Int) + off = (tgt : Int)) (kt : x = 0 → V G M fr lo tgt lv st h mc ms Q) (kf : ¬ x = 0 → V G M fr lo (pc + 3) lv st h mc ms Q) : V G M fr lo pc lv (.int x :: st) h mc ms Q := fun p l e R s m args below meth c A H locs cells slots MC MS ls I => lv_if_eq I.1.1 I.1.2.1 d ht (fun z => kt z p l e R s m args below meth c A H locs cells slots MC MS ls I) (fun z => kf z p l e R s m args below meth c A H locs cells slots MC MS ls I)
theorem v_icmp_eq {x y : Int32} {off : Int} {tgt : Nat} (d : decode M.2.1 pc = .ok (.if_icmp .eq off, 3)) (ht : (pc : Int) + off = (tgt : Int)) (kt : x = y → V G M fr lo tgt lv st h mc ms Q) (kf : ¬ x = y → V G M fr lo (pc + 3) lv st h mc ms Q) : V G M fr lo pc lv (.int y :: .int x :: st) h mc ms Q := fun p l e R s m args below meth c A H locs cells slots MC MS ls I => lv_icmp_eq I.1.1 I.1.2.1 d ht (fun z => kt z p l e R s m args below meth c A H locs cells slots MC MS ls I) (fun z => kf z p l e R s m args below meth c A H locs cells slots MC MS ls I)
theorem v_if_ne {x : Int32} {off : Int} {tgt : Nat} (d : decode M.2.1 pc = .ok (.ifCond .ne off, 3)) (ht : (pc : Int) + off = (tgt : Int)) (kt : ¬ x = 0 → V G M fr lo tgt lv st h mc ms Q) (kf : x = 0 → V G M fr lo (pc + 3) lv st h mc ms Q) : V G M fr lo pc lv (.int x :: st) h mc ms Q := fun p l e R s m args below meth c A H locs cells slots MC MS ls I => lv_if_ne I.1.1 I.1.2.1 d ht (fun z => kt z p l e R s m args below meth c A H locs cells slots MC MS ls I) (fun z => kf z p l e R s m args below meth c A H locs cells slots MC MS ls I)
theorem v_icmp_ne {x y : Int32} {off : Int} {tgt : Nat} (d : decode M.2.1 pc = .ok (.if_icmp .ne off, 3)) (ht : (pc : Int) + off = (tgt : Int)) (kt : ¬ x = y → V G M fr lo tgt lv st h mc ms Q) (kf : x = y → V G M fr lo (pc + 3) lv st h mc ms Q) : V G M fr lo pc lv (.int y :: .int x :: st) h mc ms Q := fun p l e R s m args below meth c A H locs cells slots MC MS ls I => lv_icmp_ne I.1.1 I.1.2.1 d ht (fun z => kt z p l e R s m args below meth c A H locs cells slots MC MS ls I) (fun z => kf z p l e R s m args below meth c A H locs cells slots MC MS ls I)
theorem v_if_lt {x : Int32} {off : Int} {tgt : Nat} (d : decode M.2.1 pc = .ok (.ifCond .lt off, 3)) (ht : (pc : Int) + off = (tgt : Int)) (kt : x < 0 → V G M fr lo tgt lv st h mc ms Q) (kf : ¬ x < 0 → V G M fr lo (pc + 3) lv st h mc ms Q) : V G M fr lo pc lv (.int x :: st) h mc ms Q := fun p l e R s m args below meth c A H locs cells slots MC MS ls I => lv_if_lt I.1.1 I.1.2.1 d ht (fun z => kt z p l e R s m args below meth c A H locs cells slots MC MS ls I) (fun z => kf z p l e R s m args below meth c A H locs cells slots MC MS ls I)
theorem v_icmp_lt {x y : Int32} {off : Int} {tgt : Nat} (d : decode M.2.1 pc = .ok (.if_icmp .lt off, 3)) (ht : (pc : Int) + off = (tgt : Int)) (kt : x < y → V G M fr lo tgt lv st h mc ms Q) (kf : ¬ x < y → V G M fr lo (pc + 3) lv st h mc ms Q) : V G M fr lo pc lv (.int y :: .int x :: st) h mc ms Q := fun p l e R s m args below meth c A H locs cells slots MC MS ls I => lv_icmp_lt I.1.1 I.1.2.1 d ht (fun z => kt z p l e R s m args below meth c A H locs cells slots MC MS ls I) (fun z => kf z p l e R s m args below meth c A H locs cells slots MC MS ls I)
theorem v_if_ge {x : Int32} {off : Int} {tgt : Nat} (d : decode M.2.1 pc = .ok (.ifCond .ge off, 3)) (ht : (pc : Int) + off = (tgt : Int)) (kt : 0 ≤ x → V G M fr lo tgt lv st h mc ms Q) (kf : ¬ 0 ≤ x → V G M fr lo (pc + 3) lv st h mc ms Q) : V G M fr lo pc lv (.int x :: st) h mc ms Q := fun p l e R s m args below meth c A H locs cells slots MC MS ls I => lv_if_ge I.1.1 I.1.2.1 d ht (fun z => kt z p l e R s m args below meth c A H locs cells slots MC MS ls I) (fun z => kf z p l e R s m args below meth c A H locs cells slots MC MS ls I)
theorem v_icmp_ge {x y : Int32} {off : Int} {tgt : Nat} (d : decode M.2.1 pc = .ok (.if_icmp .ge off, 3)) (ht : (pc : Int) + off = (tgt : Int)) (kt : y ≤ x → V G M fr lo tgt lv st h mc ms Q) (kf : ¬ y ≤ x → V G M fr lo (pc + 3) lv st h mc ms Q) : V G M fr lo pc lv (.int y :: .int x :: st) h mc ms Q := fun p l e R s m args below meth c A H locs cells slots MC MS ls I => lv_icmp_ge I.1.1 I.1.2.1 d ht (fun z => kt z p l e R s m args below meth c A H locs cells slots MC MS ls I) (fun z => kf z p l e R s m args below meth c A H locs cells slots MC MS ls I)
theorem v_if_gt {x : Int32} {off : Int} {tgt : Nat} (d : decode M.2.1 pc = .ok (.ifCond .gt off, 3)) (ht : (pc : Int) + off = (tgt : Int)) (kt : 0 < x → V G M fr lo tgt lv st h mc ms Q) (kf : ¬ 0 < x → V G M fr lo (pc + 3) lv st h mc ms Q) : V G M fr lo pc lv (.int x :: st) h mc ms Q := fun p l e R s m args below meth c A H locs cells slots MC MS ls I => lv_if_gt I.1.1 I.1.2.1 d ht (fun z => kt z p l e R s m args below meth c A H locs cells slots MC MS ls I) (fun z => kf z p l e R s m args below meth c A H locs cells slots MC MS ls I)
theorem v_icmp_gt {x y : Int32} {off : Int} {tgt : Nat} (d : decode M.2.1 pc = .ok (.if_icmp .gt off, 3)) (ht : (pc : Int) + off = (tgt : Int)) (kt : y < x → V G M fr lo tgt lv st h mc ms Q) (kf : ¬ y < x → V G M fr lo (pc + 3) lv st h mc ms Q) : V G M fr lo pc lv (.int y :: .int x :: st) h mc ms Q := fun p l e R s m args below meth c A H locs cells slots MC MS ls I => lv_icmp_gt I.1.1 I.1.2.1 d ht (fun z => kt z p l e R s m args below meth c A H locs cells slots MC MS ls I) (fun z => kf z p l e R s m args below meth c A H locs cells slots MC MS ls I)
theorem v_if_le {x : Int32} {off : Int} {tgt : Nat} (d : decode M.2.1 pc = .ok (.ifCond .le off, 3)) (ht : (pc : Int) + off = (tgt : Int)) (kt : x ≤ 0 → V G M fr lo tgt lv st h mc ms Q) (kf : ¬ x ≤ 0 → V G M fr lo (pc + 3) lv st h mc ms Q) : V G M fr lo pc lv (.int x :: st) h mc ms Q := fun p l e R s m args below meth c A H locs cells slots MC MS ls I => lv_if_le I.1.1 I.1.2.1 d ht (fun z => kt z p l e R s m args below meth c A H locs cells slots MC MS ls I) (fun z => kf z p l e R s m args below meth c A H locs cells slots MC MS ls I)
theorem v_icmp_le {x y : Int32} {off : Int} {tgt : Nat} (d : decode M.2.1 pc = .ok (.if_icmp .le off, 3)) (ht : (pc : Int) + off = (tgt : Int)) (kt : x ≤ y → V G M fr lo tgt lv st h mc ms Q) (kf : ¬ x ≤ y → V G M fr lo (pc + 3) lv st h mc ms Q) : V G M fr lo pc lv (.int y :: .int x :: st) h mc ms Q := fun p l e R s m args below meth c A H locs cells slots MC MS ls I => lv_icmp_le I.1.1 I.1.2.1 d ht (fun z => kt z p l e R s m args below meth c A H locs cells slots MC MS ls I) (fun z => kf z p l e R s m args below meth c A H locs cells slots MC MS ls I)
theorem v_acmp_eq {rx ry : Option Nat} {off : Int} {tgt : Nat} (d : decode M.2.1 pc = .ok (.if_acmp .eq off, 3)) (ht : (pc : Int) + off = (tgt : Int)) (kt : rx = ry → V G M fr lo tgt lv st h mc ms Q) (kf : ¬ rx = ry → V G M fr lo (pc + 3) lv st h mc ms Q) : V G M fr lo pc lv (va_rf ry :: va_rf rx :: st) h mc ms Q := fun p l e R s m args below meth c A H locs cells slots MC MS ls I => lv_acmp_eq I.1.1 I.1.2.1 d ht (fun z => kt z p l e R s m args below meth c A H locs cells slots MC MS ls I) (fun z => kf z p l e R s m args below meth c A H locs cells slots MC MS ls I)
theorem v_acmp_ne {rx ry : Option Nat} {off : Int} {tgt : Nat} (d : decode M.2.1 pc = .ok (.if_acmp .ne off, 3)) (ht : (pc : Int) + off = (tgt : Int)) (kt : ¬ rx = ry → V G M fr lo tgt lv st h mc ms Q) (kf : rx = ry → V G M fr lo (pc + 3) lv st h mc ms Q) : V G M fr lo pc lv (va_rf ry :: va_rf rx :: st) h mc ms Q := fun p l e R s m args below meth c A H locs cells slots MC MS ls I => lv_acmp_ne I.1.1 I.1.2.1 d ht (fun z => kt z p l e R s m args below meth c A H locs cells slots MC MS ls I) (fun z => kf z p l e R s m args below meth c A H locs cells slots MC MS ls I)
theorem v_goto {off : Int} {tgt : Nat} (d : decode M.2.1 pc = .ok (.goto off, 3)) (ht : (pc : Int) + off = (tgt : Int)) (k : V G M fr lo tgt lv st h mc ms Q) : V G M fr lo pc lv st h mc ms Q := fun p l e R s m args below meth c A H locs cells slots MC MS ls I => lv_goto I.1.1 I.1.2.1 d ht (k p l e R s m args below meth c A H locs cells slots MC MS ls I)
theorem v_ifnull {r : Option Nat} {off : Int} {tgt : Nat} (d : decode M.2.1 pc = .ok (.ifnull off, 3)) (ht : (pc : Int) + off = (tgt : Int)) (kn : r = none → V G M fr lo tgt lv st h mc ms Q) (ks : ∀ a, r = some a → V G M fr lo (pc + 3) lv st h mc ms Q) : V G M fr lo pc lv (va_rf r :: st) h mc ms Q := by
  intro p l e R s m args below meth c A H locs cells slots MC MS ls I
  cases r with
  | none => exact lv_ifnullN I.1.1 I.1.2.1 d ht (kn rfl p l e R s m args below meth c A H locs cells slots MC MS ls I)
  | some a => exact lv_ifnull I.1.1 I.1.2.1 d (ks a rfl p l e R s m args below meth c A H locs cells slots MC MS ls I)
theorem v_ifnonnull {r : Option Nat} {off : Int} {tgt : Nat} (d : decode M.2.1 pc = .ok (.ifnonnull off, 3)) (ht : (pc : Int) + off = (tgt : Int)) (kn : r = none → V G M fr lo (pc + 3) lv st h mc ms Q) (ks : ∀ a, r = some a → V G M fr lo tgt lv st h mc ms Q) : V G M fr lo pc lv (va_rf r :: st) h mc ms Q := by
  intro p l e R s m args below meth c A H locs cells slots MC MS ls I
  cases r with
  | none => exact lv_ifnonnullN I.1.1 I.1.2.1 d (kn rfl p l e R s m args below meth c A H locs cells slots MC MS ls I)
  | some a => exact lv_ifnonnull I.1.1 I.1.2.1 d ht (ks a rfl p l e R s m args below meth c A H locs cells slots MC MS ls I)
end VR
