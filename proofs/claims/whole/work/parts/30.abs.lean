/-! The pool seen from above: plain cells and lists; the lists' own arrays are hidden. -/
section VAb
variable {G : vG} {h h' : vH}
abbrev aE : Type := va_E ⊕ (Nat × List Nat)
abbrev aH : Type := Nat → Option aE
def aB (G : vG) (F : aH) (bk : Nat → Option Nat) (h : vH) : Prop :=
  (∀ a e, F a = some (.inl e) → a ∈ h.1 ∧ h.2 a = e) ∧
  (∀ a ci xs, F a = some (.inr (ci, xs)) → lsAt G h a (bk a) xs ∧ ci < 9 ∧ ∀ y ∈ xs, ∃ fs, F y = some (.inl (.inr (ci, fs)))) ∧
  (∀ a z b, F a = some (.inr z) → bk a = some b → F b = none) ∧
  (∀ a a' z z' b, F a = some (.inr z) → F a' = some (.inr z') → bk a = some b → bk a' = some b → a = a')
def aR (G : vG) (F : aH) (h : vH) : Prop := ∃ bk, aB G F bk h
def aQ (G : vG) (Q : vR → aH → Prop) : vQ := fun r h' => ∃ F', aR G F' h' ∧ Q r F'
theorem aR.o {F : aH} (hR : aR G F h) {a : Nat} {e : va_E} (hF : F a = some (.inl e)) : h.2 a = e := by
  obtain ⟨bk, h1, -⟩ := hR
  exact (h1 a e hF).2
theorem aR.m {F : aH} (hR : aR G F h) {a : Nat} {z : aE} (hF : F a = some z) : a ∈ h.1 := by
  obtain ⟨bk, h1, h2, -⟩ := hR
  cases z with
  | inl e => exact (h1 a e hF).1
  | inr z => exact (h2 a z.1 z.2 hF).1.1
theorem aR.l {F : aH} (hR : aR G F h) {a ci : Nat} {xs : List Nat} (hF : F a = some (.inr (ci, xs))) : ∃ bk, lsAt G h a bk xs := by
  obtain ⟨bk, h1, h2, -⟩ := hR
  exact ⟨_, (h2 a ci xs hF).1⟩
/-- the cell of a list object itself, as a call's receiver wants it -/
theorem aR.lr {F : aH} (hR : aR G F h) {a ci : Nat} {xs : List Nat} (hF : F a = some (.inr (ci, xs))) : ∃ fs, h.2 a = .inr (9, fs) := by
  obtain ⟨bk, hl⟩ := hR.l hF
  obtain ⟨ed, mcv, hf, -⟩ := lsAt_fields hl
  exact ⟨_, hf⟩
theorem aR.fresh {F : aH} (hR : aR G F h) {q : Nat} (hq : q ∉ h.1) : F q = none := by
  cases hF : F q with
  | none => rfl
  | some z => exact absurd (hR.m hF) hq
theorem lsAt_keep {a : Nat} {bk : Option Nat} {xs : List Nat} (hls : lsAt G h a bk xs) (hm : ∀ c ∈ h.1, c ∈ h'.1) (h1 : h'.2 a = h.2 a) (h2 : ∀ b, bk = some b → h'.2 b = h.2 b) : lsAt G h' a bk xs := by
  obtain ⟨ha, mcv, hls⟩ := hls
  refine ⟨hm a ha, mcv, ?_⟩
  cases bk with
  | none => obtain ⟨k1, k2⟩ := hls; exact ⟨h1.trans k1, k2⟩
  | some b =>
    obtain ⟨cap, g, k1, k2, k3, k4⟩ := hls
    exact ⟨cap, g, h1.trans k1, hm b k2, (h2 b rfl).trans k3, k4⟩
theorem lsAt_bk {a b : Nat} {xs : List Nat} (hls : lsAt G h a (some b) xs) : b ∈ h.1 ∧ ∃ cap g, h.2 b = vOA G cap g := by
  obtain ⟨ha, mcv, cap, g, k1, k2, k3, k4⟩ := hls
  exact ⟨k2, cap, g, k3⟩
/-- a plain cell changes (an object keeps its class) -/
theorem aR.set {F : aH} (hR : aR G F h) {a : Nat} {e e' : va_E} (hF : F a = some (.inl e)) (he : ∀ ci fs, e = .inr (ci, fs) → ∃ fs', e' = .inr (ci, fs')) : aR G (va_up F a (some (.inl e'))) (h.1, va_up h.2 a e') := by
  obtain ⟨bk, h1, h2, h3, h4⟩ := hR
  have ha : a ∈ h.1 := (h1 a e hF).1
  have nl : ∀ c z, va_up F a (some (.inl e')) c = some (.inr z) → c ≠ a ∧ F c = some (.inr z) := by
    intro c z hc
    by_cases hca : c = a
    · rw [hca, va_up_self] at hc; cases hc
    · rw [va_up_ne _ _ hca] at hc; exact ⟨hca, hc⟩
  refine ⟨bk, fun c x hc => ?_, fun c ci xs hc => ?_, fun c z b hc hb => ?_, fun c c' z z' b hc hc' => h4 c c' z z' b (nl c z hc).2 (nl c' z' hc').2⟩
  · by_cases hca : c = a
    · rw [hca, va_up_self] at hc
      cases hc
      exact ⟨hca ▸ ha, by rw [hca]; exact va_up_self _ _ _⟩
    · rw [va_up_ne _ _ hca] at hc
      exact ⟨(h1 c x hc).1, (va_up_ne _ _ hca).trans (h1 c x hc).2⟩
  · obtain ⟨hca, hc⟩ := nl c _ hc
    obtain ⟨k1, k2, k3⟩ := h2 c ci xs hc
    refine ⟨lsAt_keep (h' := (h.1, va_up h.2 a e')) k1 (fun _ z => z) (va_up_ne _ _ hca) (fun b hb => va_up_ne _ _ (fun z => ?_)), k2, fun y hy => ?_⟩
    · have := h3 c _ b hc hb
      rw [z, hF] at this
      cases this
    · obtain ⟨fs, hy2⟩ := k3 y hy
      by_cases hya : y = a
      · rw [hya] at hy2
        rw [hF] at hy2
        obtain ⟨fs', he'⟩ := he ci fs (by cases hy2; rfl)
        exact ⟨fs', by rw [hya, va_up_self, he']⟩
      · exact ⟨fs, by rw [va_up_ne _ _ hya]; exact hy2⟩
  · obtain ⟨hca, hc⟩ := nl c z hc
    have := h3 c z b hc hb
    by_cases hba : b = a
    · rw [hba, hF] at this; cases this
    · rw [va_up_ne _ _ hba]; exact this
/-- a new plain cell -/
theorem aR.new {F : aH} (hR : aR G F h) {q : Nat} (hq : q ∉ h.1) (e : va_E) : aR G (va_up F q (some (.inl e))) (h.1 ++ [q], va_up h.2 q e) := by
  have hFq := hR.fresh hq
  obtain ⟨bk, h1, h2, h3, h4⟩ := hR
  have nl : ∀ c z, va_up F q (some (.inl e)) c = some (.inr z) → c ≠ q ∧ F c = some (.inr z) := by
    intro c z hc
    by_cases hca : c = q
    · rw [hca, va_up_self] at hc; cases hc
    · rw [va_up_ne _ _ hca] at hc; exact ⟨hca, hc⟩
  have nq : ∀ c ∈ h.1, c ≠ q := fun c hc z => hq (z ▸ hc)
  refine ⟨bk, fun c x hc => ?_, fun c ci xs hc => ?_, fun c z b hc hb => ?_, fun c c' z z' b hc hc' => h4 c c' z z' b (nl c z hc).2 (nl c' z' hc').2⟩
  · by_cases hca : c = q
    · rw [hca, va_up_self] at hc
      cases hc
      exact ⟨by rw [hca]; exact List.mem_append_right _ List.mem_cons_self, by rw [hca]; exact va_up_self _ _ _⟩
    · rw [va_up_ne _ _ hca] at hc
      exact ⟨List.mem_append_left _ (h1 c x hc).1, (va_up_ne _ _ hca).trans (h1 c x hc).2⟩
  · obtain ⟨hca, hc⟩ := nl c _ hc
    obtain ⟨k1, k2, k3⟩ := h2 c ci xs hc
    refine ⟨lsAt_keep (h' := (h.1 ++ [q], va_up h.2 q e)) k1 (fun _ z => List.mem_append_left _ z) (va_up_ne _ _ hca) (fun b hb => va_up_ne _ _ (nq b ?_)), k2, fun y hy => ?_⟩
    · rw [hb] at k1
      exact (lsAt_bk k1).1
    · obtain ⟨fs, hy2⟩ := k3 y hy
      refine ⟨fs, ?_⟩
      rw [va_up_ne _ _ (fun z => by rw [z, hFq] at hy2; cases hy2)]
      exact hy2
  · obtain ⟨hca, hc⟩ := nl c z hc
    have k0 := (h2 c z.1 z.2 hc).1
    rw [hb] at k0
    rw [va_up_ne _ _ (nq b (lsAt_bk k0).1)]
    exact h3 c z b hc hb
/-- a new list object, made and begun -/
theorem aR.newL {F : aH} (hR : aR G F h) {q : Nat} (hq : q ∉ h.1) {f' : Nat → va_E} (hf : f' q = .inr (9, [.ref G.2.2.1, .int 0, .int 0])) (hk : ∀ c, c ≠ q → f' c = h.2 c) (ci : Nat) (hci : ci < 9) : aR G (va_up F q (some (.inr (ci, [])))) (h.1 ++ [q], f') := by
  have hFq := hR.fresh hq
  obtain ⟨bk, h1, h2, h3, h4⟩ := hR
  have nq : ∀ c ∈ h.1, c ≠ q := fun c hc z => hq (z ▸ hc)
  have nl : ∀ c z, c ≠ q → va_up F q (some (.inr (ci, []))) c = some (.inr z) → F c = some (.inr z) := fun c z hca hc => by rw [va_up_ne _ _ hca] at hc; exact hc
  refine ⟨va_up bk q none, fun c x hc => ?_, fun c cj xs hc => ?_, fun c z b hc hb => ?_, fun c c' z z' b hc hc' hb hb' => ?_⟩
  · by_cases hca : c = q
    · rw [hca, va_up_self] at hc; cases hc
    · rw [va_up_ne _ _ hca] at hc
      exact ⟨List.mem_append_left _ (h1 c x hc).1, (hk c hca).trans (h1 c x hc).2⟩
  · by_cases hca : c = q
    · rw [hca, va_up_self] at hc
      cases hc
      rw [hca, va_up_self]
      exact ⟨⟨List.mem_append_right _ List.mem_cons_self, 0, hf, rfl⟩, hci, fun y hy => by cases hy⟩
    · have hc := nl c _ hca hc
      obtain ⟨k1, k2, k3⟩ := h2 c cj xs hc
      rw [va_up_ne _ _ hca]
      refine ⟨lsAt_keep (h' := (h.1 ++ [q], f')) k1 (fun _ z => List.mem_append_left _ z) (hk c hca) (fun b hb => hk b (nq b ?_)), k2, fun y hy => ?_⟩
      · rw [hb] at k1
        exact (lsAt_bk k1).1
      · obtain ⟨fs, hy2⟩ := k3 y hy
        refine ⟨fs, ?_⟩
        rw [va_up_ne _ _ (fun z => by rw [z, hFq] at hy2; cases hy2)]
        exact hy2
  · by_cases hca : c = q
    · rw [hca, va_up_self] at hb; cases hb
    · rw [va_up_ne _ _ hca] at hb
      have hc := nl c _ hca hc
      have k0 := (h2 c z.1 z.2 hc).1
      rw [hb] at k0
      rw [va_up_ne _ _ (nq b (lsAt_bk k0).1)]
      exact h3 c z b hc hb
  · by_cases hca : c = q
    · rw [hca, va_up_self] at hb; cases hb
    · by_cases hca' : c' = q
      · rw [hca', va_up_self] at hb'; cases hb'
      · rw [va_up_ne _ _ hca] at hb
        rw [va_up_ne _ _ hca'] at hb'
        exact h4 c c' z z' b (nl c z hca hc) (nl c' z' hca' hc') hb hb'
/-- a list has other elements behind a call of its own methods -/
theorem aR.upL {F : aH} {bk : Nat → Option Nat} (hB : aB G F bk h) {a ci : Nat} {xs xs' : List Nat} {b' : Option Nat} (hF : F a = some (.inr (ci, xs))) (hls : lsAt G h' a b' xs') (hm : ∀ c ∈ h.1, c ∈ h'.1) (hk : ∀ c, c ≠ a → bk a ≠ some c → c ∈ h.1 → h'.2 c = h.2 c) (hb' : b' = bk a ∨ ∃ q, b' = some q ∧ q ∉ h.1) (hel : ∀ y ∈ xs', ∃ fs, F y = some (.inl (.inr (ci, fs)))) : aR G (va_up F a (some (.inr (ci, xs')))) h' := by
  have hfr : ∀ q, q ∉ h.1 → F q = none := fun q hq => aR.fresh ⟨bk, hB⟩ hq
  have hmm : ∀ c z, F c = some z → c ∈ h.1 := fun c z hc => aR.m ⟨bk, hB⟩ hc
  obtain ⟨h1, h2, h3, h4⟩ := hB
  have up : ∀ y fs, F y = some (.inl fs) → va_up F a (some (.inr (ci, xs'))) y = some (.inl fs) := fun y fs hy => by
    rw [va_up_ne _ _ (fun z => by rw [z, hF] at hy; cases hy)]
    exact hy
  refine ⟨va_up bk a b', fun c x hc => ?_, fun c cj ys hc => ?_, fun c z b hc hb => ?_, fun c c' z z' b hc hc' hb hbb => ?_⟩
  · by_cases hca : c = a
    · rw [hca, va_up_self] at hc; cases hc
    · rw [va_up_ne _ _ hca] at hc
      refine ⟨hm c (h1 c x hc).1, (hk c hca (fun z => ?_) (h1 c x hc).1).trans (h1 c x hc).2⟩
      have := h3 a _ c hF z
      rw [hc] at this
      cases this
  · by_cases hca : c = a
    · rw [hca, va_up_self] at hc
      cases hc
      rw [hca, va_up_self]
      refine ⟨hls, (h2 a ci xs hF).2.1, fun y hy => ?_⟩
      obtain ⟨fs, hy2⟩ := hel y hy
      exact ⟨fs, up y _ hy2⟩
    · rw [va_up_ne _ _ hca] at hc
      obtain ⟨k1, k2, k3⟩ := h2 c cj ys hc
      rw [va_up_ne _ _ hca]
      refine ⟨lsAt_keep k1 hm (hk c hca (fun z => ?_) k1.1) (fun b hb => ?_), k2, fun y hy => ?_⟩
      · have := h3 a _ c hF z
        rw [hc] at this
        cases this
      · rw [hb] at k1
        refine hk b (fun z => ?_) (fun z => ?_) (lsAt_bk k1).1
        · have := h3 c _ b hc hb
          rw [z, hF] at this
          cases this
        · exact hca (h4 c a _ _ b hc hF hb z)
      · obtain ⟨fs, hy2⟩ := k3 y hy
        exact ⟨fs, up y _ hy2⟩
  · have key : F b = none → va_up F a (some (.inr (ci, xs'))) b = none := fun hn => by
      rw [va_up_ne _ _ (fun z => by rw [z, hF] at hn; cases hn)]
      exact hn
    by_cases hca : c = a
    · rw [hca, va_up_self] at hb
      rcases hb' with e1 | ⟨q, e1, e2⟩
      · exact key (h3 a _ b hF (e1 ▸ hb))
      · rw [e1] at hb
        cases hb
        exact key (hfr _ e2)
    · rw [va_up_ne _ _ hca] at hb hc
      exact key (h3 c z b hc hb)
  · have other : ∀ c z, c ≠ a → F c = some (.inr z) → bk c = some b → b' = some b → False := by
      intro c z hca hc hb e0
      rcases hb' with e1 | ⟨q, e1, e2⟩
      · exact hca (h4 c a z _ b hc hF hb (e1 ▸ e0))
      · rw [e1] at e0
        cases e0
        have k0 := (h2 c z.1 z.2 hc).1
        rw [hb] at k0
        exact e2 (lsAt_bk k0).1
    by_cases hca : c = a
    · by_cases hca' : c' = a
      · rw [hca, hca']
      · rw [hca, va_up_self] at hb
        rw [va_up_ne _ _ hca'] at hbb hc'
        exact (other c' z' hca' hc' hbb hb).elim
    · by_cases hca' : c' = a
      · rw [hca', va_up_self] at hbb
        rw [va_up_ne _ _ hca] at hb hc
        exact (other c z hca hc hb hbb).elim
      · rw [va_up_ne _ _ hca] at hb hc
        rw [va_up_ne _ _ hca'] at hbb hc'
        exact h4 c c' z z' b hc hc' hb hbb
/-- the lists' methods, seen from above -/
theorem a_size {F : aH} (hR : aR G F h) {a ci : Nat} {xs : List Nat} (hF : F a = some (.inr (ci, xs))) : V G M_Al_size 0 0 0 [(0, .ref a)] [] h 0 0 (vRet (some (.int (nI xs.length))) h) := by
  obtain ⟨bk, hl⟩ := hR.l hF
  exact l_size hl
theorem a_get {F : aH} (hR : aR G F h) {a ci i : Nat} {xs : List Nat} (hF : F a = some (.inr (ci, xs))) (hi : i < xs.length) : V G M_Al_get 2 43 0 [(0, .ref a), (1, .int (nI i))] [] h 0 0 (vRet (some (.ref (xs.getD i 0))) h) := by
  obtain ⟨bk, hl⟩ := hR.l hF
  exact l_get hl hi
theorem a_add {F : aH} (hR : aR G F h) {a ci e : Nat} {vs : List Value} {xs : List Nat} {qc : vw_C} (hF : F a = some (.inr (ci, xs))) (h9 : xs.length < 40) (he : F e = some (.inl (.inr (ci, vs)))) (hc : vCl[ci]? = some qc) (hx : Cond.castable qc.1 "java/lang/Object" ∈ vT) : V G M_Al_add 6 210 0 [(0, .ref a), (1, .ref e)] [] h 1 60 (aQ G (fun r F' => r = .inl (some (.int 1)) ∧ F' = va_up F a (some (.inr (ci, xs ++ [e]))))) := by
  obtain ⟨bk, hB⟩ := hR
  obtain ⟨h1, h2, h3, h4⟩ := id hB
  obtain ⟨k1, k2, k3⟩ := h2 a ci xs hF
  refine V.mono ?_ (c_Al_add k1 h9 (fun y hy => ?_) (h1 e _ he).2 (h1 e _ he).1 hc hx (by omega))
  · intro r h2 z
    obtain ⟨z1, b', z2, z3, z4, z5, z6⟩ := z
    refine ⟨_, aR.upL hB hF z2 z3 z4 z5 (fun y hy => ?_), z1, rfl⟩
    rcases List.mem_append.mp hy with hy | hy
    · exact k3 y hy
    · rw [List.mem_singleton.mp hy]; exact ⟨vs, he⟩
  · obtain ⟨fs, hy2⟩ := k3 y hy
    exact ⟨(h1 y _ hy2).1, fs, (h1 y _ hy2).2⟩
theorem a_remove {F : aH} (hR : aR G F h) {a ci i : Nat} {xs : List Nat} {qc : vw_C} (hF : F a = some (.inr (ci, xs))) (hi : i < xs.length) (hc : vCl[ci]? = some qc) (hx : Cond.castable qc.1 "java/lang/Object" ∈ vT) : V G M_Al_remove 2 110 0 [(0, .ref a), (1, .int (nI i))] [] h 0 0 (aQ G (fun r F' => r = .inl (some (.ref (xs.getD i 0))) ∧ F' = va_up F a (some (.inr (ci, xs.eraseIdx i))))) := by
  obtain ⟨bk, hB⟩ := hR
  obtain ⟨h1, h2, h3, h4⟩ := id hB
  obtain ⟨k1, k2, k3⟩ := h2 a ci xs hF
  obtain ⟨b, hb, hV⟩ := l_remove k1 hi (fun y hy => by
    obtain ⟨fs, hy2⟩ := k3 y hy
    exact ⟨(h1 y _ hy2).1, fs, (h1 y _ hy2).2⟩) hc hx (by omega)
  refine V.mono ?_ hV
  intro r h2 z
  obtain ⟨z1, z2, z3, z4⟩ := z
  refine ⟨_, aR.upL hB hF z2 (fun c hc => by rw [z3]; exact hc) (fun c u1 u2 u3 => z4 c u1 (fun w => u2 (by rw [hb, w]))) (Or.inl hb.symm) (fun y hy => k3 y (List.mem_of_mem_eraseIdx hy)), z1, rfl⟩
end VAb
