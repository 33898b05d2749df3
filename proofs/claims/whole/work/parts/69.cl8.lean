/-! What is live and made, and the state behind a shrink. -/
section VC8
variable {G : vG} {nc nm : Nat} {ad : Nat → Nat → Nat} {X Z : Nat → Nat → Int32} {L : Nat → Nat → List Nat}
theorem findS_above {n r : Int32} (ho : ∀ m, m < nm → X 2 m = nI (oN X m) ∧ oN X m < nc) (h8 : nc ≤ 8) : ∀ {f c m : Nat}, c < nc → wP X nc → findS X nm n r f c = some m → aboveS X (oN X m) f c = true
  | 0, c, m, _, _, h => (nomatch h)
  | f + 1, c, m, hc, hw, h => by
    unfold findS at h
    unfold aboveS
    cases ho2 : ownS X nm (nI c) n r with
    | some q =>
      rw [ho2] at h
      cases h
      have h1 := ownS_lt ho2
      have h2 := (fst_some ho2).2.2
      simp only [ownB, Bool.and_eq_true, decide_eq_true_eq] at h2
      have h3 := (ho m h1).1
      rw [h2.1.1] at h3
      have := (nI_eq (by omega) (by have := (ho m h1).2; omega)).mp h3
      rw [if_pos this]
    | none =>
      rw [ho2] at h
      rcases pS_cases hw hc with e | ⟨d, e1, e2⟩
      · rw [e] at h; cases h
      · rw [e2] at h ⊢
        have := findS_above ho h8 (show d < nc by omega) hw h
        by_cases e : c = oN X m
        · rw [if_pos e]
        · rw [if_neg e]; exact this
def lvOk (X : Nat → Nat → Int32) (nc nm : Nat) (t : tT) : Prop := ∀ m, m < nm → t.2.1 m = true → ∃ d, d < nc ∧ t.1 d = true ∧ aboveS X (oN X m) 9 d = true
theorem lvOk_lv {t : tT} {o : Option Nat} (h : lvOk X nc nm t) (ho : ∀ m, o = some m → ∃ d, d < nc ∧ t.1 d = true ∧ aboveS X (oN X m) 9 d = true) : lvOk X nc nm (lvF o t) := by
  cases o with
  | none => exact h
  | some q =>
    intro m hm hl
    by_cases e : m = q
    · subst e; exact ho m rfl
    · exact h m hm (by rw [← hl]; exact (va_up_ne _ _ e).symm)
theorem lvOk_mk {t : tT} {c : Nat} (h : lvOk X nc nm t) : lvOk X nc nm (mkF c t) := by
  intro m hm hl
  obtain ⟨d, h1, h2, h3⟩ := h m hm hl
  exact ⟨d, h1, va_up_true h2, h3⟩
theorem lvOk_self {m i : Nat} (hw : wW X nc nm) : ∀ n k (t : tT), k + n ≤ nc → lvOk X nc nm t → lvOk X nc nm (selfF (fdS X nm i) (fun k => aboveS X (oN X m) 9 k) n k t)
  | 0, k, t, _, h => h
  | n + 1, k, t, hk, h => by
    refine lvOk_self hw n (k + 1) _ (by omega) ?_
    by_cases hc : (t.1 k && aboveS X (oN X m) 9 k) = true
    · rw [if_pos hc]
      rw [Bool.and_eq_true] at hc
      exact lvOk_lv h (fun q hq => ⟨k, by omega, hc.1, findS_above (fun m hm => ⟨(hw.2.2.1 m hm).2, (hw.2.2.1 m hm).1⟩) hw.1.1 (by omega) hw.1 hq⟩)
    · rw [if_neg hc]; exact h
theorem lvOk_item {m i : Nat} {t : tT} (hw : wW X nc nm) (hi : X 12 i = 1 → cN X i < nc) (h : lvOk X nc nm t) : lvOk X nc nm (itemF X nc nm m i t) := by
  unfold itemF
  by_cases h1 : X 12 i = 1
  · rw [if_pos h1]
    exact lvOk_lv (lvOk_mk h) (fun q hq => ⟨cN X i, hi h1, va_up_self _ _ _, findS_above (fun m hm => ⟨(hw.2.2.1 m hm).2, (hw.2.2.1 m hm).1⟩) hw.1.1 (hi h1) hw.1 hq⟩)
  · rw [if_neg h1]
    by_cases h2 : X 12 i = 2
    · rw [if_pos h2]; exact lvOk_self hw nc 0 t (by omega) h
    · rw [if_neg h2]; exact h
theorem lvOk_items {m : Nat} (hw : wW X nc nm) (hm : m < nm) : ∀ n j (t : tT), j + n ≤ iN X m → lvOk X nc nm t → lvOk X nc nm (itemsF X nc nm m n j t)
  | 0, j, t, _, h => h
  | n + 1, j, t, hj, h => lvOk_items hw hm n (j + 1) _ (by omega) (lvOk_item hw (fun h1 => (hw.2.2.2.2.2 m hm j (by omega) h1).1) h)
theorem lvOk_pass (hw : wW X nc nm) : ∀ n m (t : tT), m + n ≤ nm → lvOk X nc nm t → lvOk X nc nm (passF X nc nm n m t)
  | 0, m, t, _, h => h
  | n + 1, m, t, hm, h => by
    refine lvOk_pass hw n (m + 1) _ (by omega) ?_
    by_cases hl : t.2.1 m = true
    · rw [if_pos hl]; exact lvOk_items hw (by omega) _ _ _ (by omega) h
    · rw [if_neg hl]; exact h
theorem lvOk_fix (hw : wW X nc nm) : ∀ f (t : tT), lvOk X nc nm t → lvOk X nc nm (fixF X nc nm f t)
  | 0, t, h => h
  | f + 1, t, h => by
    have h1 := lvOk_pass hw nm 0 (t.1, t.2.1, false) (by omega) h
    unfold fixF
    split
    · exact lvOk_fix hw f _ h1
    · exact h1
theorem mkI_mono : ∀ n m (w : Nat → Bool) c, w c = true → mkI X n m w c = true
  | 0, m, w, c, h => h
  | n + 1, m, w, c, h => by
    refine mkI_mono n (m + 1) _ c ?_
    by_cases hk : kN X m = true
    · rw [if_pos hk]; exact va_up_true h
    · rw [if_neg hk]; exact h
theorem mkI_in : ∀ n m (w : Nat → Bool) q, m ≤ q → q < m + n → kN X q = true → mkI X n m w (oN X q) = true
  | 0, m, w, q, h1, h2, _ => by omega
  | n + 1, m, w, q, h1, h2, hk => by
    unfold mkI
    by_cases e : q = m
    · subst e
      rw [if_pos hk]
      exact mkI_mono n (q + 1) _ _ (va_up_self _ _ _)
    · exact mkI_in n (m + 1) _ q (by omega) (by omega) hk
theorem live_above (hw : wW X nc nm) : lvOk X nc nm (liveF X nc nm) := by
  refine lvOk_fix hw 33 _ (fun m hm hk => ⟨oN X m, (hw.2.2.1 m hm).1, mkI_in nm 0 _ m (by omega) (by omega) hk, aboveS_self⟩)
theorem live_st (hw : wW X nc nm) {m : Nat} (hm : m < nm) (hl : (liveF X nc nm).2.1 m = true) : shSt X nc nm (oN X m) = true := by
  obtain ⟨d, h1, h2, h3⟩ := live_above hw m hm hl
  exact anyB_t h1 (by rw [h2, h3]; rfl)
-- a pass without change
theorem lvF_no {o : Option Nat} {t : tT} (h : (lvF o t).2.2 = false) : lvF o t = t := by
  cases o with
  | none => rfl
  | some m =>
    have h2 : (t.2.2 || !t.2.1 m) = false := h
    rw [Bool.or_eq_false_iff] at h2
    have h3 : t.2.1 m = true := by have := h2.2; cases hq : t.2.1 m <;> simp_all
    show (t.1, va_up t.2.1 m true, t.2.2 || !t.2.1 m) = t
    rw [va_up_id h3, h3, Bool.not_true, Bool.or_false]
theorem mkF_no {c : Nat} {t : tT} (h : (mkF c t).2.2 = false) : mkF c t = t ∧ t.1 c = true := by
  have h2 : (t.2.2 || !t.1 c) = false := h
  rw [Bool.or_eq_false_iff] at h2
  have h3 : t.1 c = true := by have := h2.2; cases hq : t.1 c <;> simp_all
  refine ⟨?_, h3⟩
  show (va_up t.1 c true, t.2.1, t.2.2 || !t.1 c) = t
  rw [va_up_id h3, h3, Bool.not_true, Bool.or_false]
theorem fl_back {t u : tT} (h : tLe nc nm t u) (hu : u.2.2 = false) : t.2.2 = false := by
  cases ht : t.2.2 with
  | false => rfl
  | true => rw [h.2.2.1 ht] at hu; cases hu
theorem selfF_no {i : Nat} {ab : Nat → Bool} : ∀ n k (t : tT), (selfF (fdS X nm i) ab n k t).2.2 = false → selfF (fdS X nm i) ab n k t = t
  | 0, k, t, _ => rfl
  | n + 1, k, t, h => by
    have h1 : (if t.1 k && ab k then lvF (fdS X nm i k) t else t).2.2 = false := fl_back (nc := 0) (nm := nm) (selfF_le (fun k m hm => findS_lt hm) n (k + 1) _) h
    have h2 : (if t.1 k && ab k then lvF (fdS X nm i k) t else t) = t := by
      by_cases hc : (t.1 k && ab k) = true
      · rw [if_pos hc] at h1 ⊢; exact lvF_no h1
      · rw [if_neg hc]
    have h3 : selfF (fdS X nm i) ab (n + 1) k t = selfF (fdS X nm i) ab n (k + 1) (if t.1 k && ab k then lvF (fdS X nm i k) t else t) := rfl
    rw [h3, h2] at h ⊢
    exact selfF_no n (k + 1) t h
theorem itemF_no {m i : Nat} {t : tT} (h : (itemF X nc nm m i t).2.2 = false) : itemF X nc nm m i t = t ∧ (X 12 i = 1 → t.1 (cN X i) = true) := by
  unfold itemF at h ⊢
  by_cases h1 : X 12 i = 1
  · rw [if_pos h1] at h ⊢
    have a1 := lvF_no h
    rw [a1] at h ⊢
    have a2 := mkF_no h
    exact ⟨a2.1, fun _ => a2.2⟩
  · rw [if_neg h1] at h ⊢
    refine ⟨?_, fun z => absurd z h1⟩
    by_cases h2 : X 12 i = 2
    · rw [if_pos h2] at h ⊢; exact selfF_no nc 0 t h
    · rw [if_neg h2]
theorem itemsF_no {m : Nat} (hw : wW X nc nm) (hm : m < nm) : ∀ n j (t : tT), j + n ≤ iN X m → (itemsF X nc nm m n j t).2.2 = false → itemsF X nc nm m n j t = t ∧ ∀ q, j ≤ q → q < j + n → X 12 (m * 5 + q) = 1 → t.1 (cN X (m * 5 + q)) = true
  | 0, j, t, _, _ => ⟨rfl, fun q h1 h2 => by omega⟩
  | n + 1, j, t, hj, h => by
    have h0 : itemsF X nc nm m (n + 1) j t = itemsF X nc nm m n (j + 1) (itemF X nc nm m (m * 5 + j) t) := rfl
    rw [h0] at h ⊢
    have h1 : (itemF X nc nm m (m * 5 + j) t).2.2 = false := fl_back (itemsF_le n (j + 1) _ (fun i _ h2 h3 => (hw.2.2.2.2.2 m hm i (by omega) h3).1)) h
    obtain ⟨a1, a2⟩ := itemF_no h1
    rw [a1] at h ⊢
    obtain ⟨b1, b2⟩ := itemsF_no hw hm n (j + 1) t (by omega) h
    refine ⟨b1, fun q h1 h2 h3 => ?_⟩
    by_cases e : q = j
    · subst e; exact a2 h3
    · exact b2 q (by omega) (by omega) h3
theorem passF_no (hw : wW X nc nm) : ∀ n m (t : tT), m + n ≤ nm → (passF X nc nm n m t).2.2 = false → passF X nc nm n m t = t ∧ ∀ q, m ≤ q → q < m + n → t.2.1 q = true → ∀ j, j < iN X q → X 12 (q * 5 + j) = 1 → t.1 (cN X (q * 5 + j)) = true
  | 0, m, t, _, _ => ⟨rfl, fun q h1 h2 => by omega⟩
  | n + 1, m, t, hm, h => by
    have h0 : passF X nc nm (n + 1) m t = passF X nc nm n (m + 1) (if t.2.1 m then itemsF X nc nm m (iN X m) 0 t else t) := rfl
    rw [h0] at h ⊢
    have h1 : (if t.2.1 m then itemsF X nc nm m (iN X m) 0 t else t).2.2 = false := fl_back (passF_le hw n (m + 1) _ (by omega)) h
    have h2 : (if t.2.1 m then itemsF X nc nm m (iN X m) 0 t else t) = t ∧ (t.2.1 m = true → ∀ j, j < iN X m → X 12 (m * 5 + j) = 1 → t.1 (cN X (m * 5 + j)) = true) := by
      by_cases hl : t.2.1 m = true
      · rw [if_pos hl] at h1 ⊢
        obtain ⟨a1, a2⟩ := itemsF_no hw (by omega) (iN X m) 0 t (by omega) h1
        exact ⟨a1, fun _ j hj => a2 j (by omega) (by omega)⟩
      · rw [if_neg hl]; exact ⟨rfl, fun z => absurd z hl⟩
    rw [h2.1] at h ⊢
    obtain ⟨b1, b2⟩ := passF_no hw n (m + 1) t (by omega) h
    refine ⟨b1, fun q h3 h4 hl => ?_⟩
    by_cases e : q = m
    · subst e; exact h2.2 hl
    · exact b2 q (by omega) (by omega) hl
theorem fix_closed (hw : wW X nc nm) : ∀ f (t : tT), nc + nm < f + cntT nc nm t → ∀ q, q < nm → (fixF X nc nm f t).2.1 q = true → ∀ j, j < iN X q → X 12 (q * 5 + j) = 1 → (fixF X nc nm f t).1 (cN X (q * 5 + j)) = true
  | 0, t, h0 => by have := cntT_le (nc := nc) (nm := nm) (t := t); omega
  | f + 1, t, h0 => by
    cases hf : (passF X nc nm nm 0 (t.1, t.2.1, false)).2.2 with
    | true =>
      rw [show fixF X nc nm (f + 1) t = fixF X nc nm f (passF X nc nm nm 0 (t.1, t.2.1, false)) by simp [fixF, hf]]
      have := pass_cnt hw hf
      exact fix_closed hw f _ (by omega)
    | false =>
      rw [show fixF X nc nm (f + 1) t = passF X nc nm nm 0 (t.1, t.2.1, false) by simp [fixF, hf]]
      obtain ⟨a1, a2⟩ := passF_no hw nm 0 (t.1, t.2.1, false) (by omega) hf
      rw [a1]
      exact fun q hq hl => a2 q (by omega) (by omega) hl
theorem live_call (hw : wW X nc nm) {m j : Nat} (hm : m < nm) (hl : (liveF X nc nm).2.1 m = true) (hj : j < iN X m) (h1 : X 12 (m * 5 + j) = 1) : shSt X nc nm (cN X (m * 5 + j)) = true := by
  have h2 := hw.1.1
  have h3 := hw.2.1
  have h4 := fix_closed hw 33 (iniF X nm) (by omega) m hm hl j hj h1
  exact anyB_t (hw.2.2.2.2.2 m hm j hj h1).1 (by rw [show (liveF X nc nm).1 = (fixF X nc nm 33 (iniF X nm)).1 from rfl, h4, aboveS_self]; rfl)
theorem aboveS_more (hw : wP X nc) {k : Nat} : ∀ f c, c < nc → c < f → aboveS X k (f + 1) c = aboveS X k f c
  | 0, c, _, h => by omega
  | f + 1, c, hc, hf => by
    show (if c = k then true else match pS X c with | none => false | some e => aboveS X k (f + 1) e) = (if c = k then true else match pS X c with | none => false | some e => aboveS X k f e)
    rcases pS_cases hw hc with e | ⟨d, e1, e2⟩
    · rw [e]
    · rw [e2]
      show (if c = k then true else aboveS X k (f + 1) d) = if c = k then true else aboveS X k f d
      rw [aboveS_more hw f d (by omega) (by omega)]
theorem aboveS_up (hw : wP X nc) {k p : Nat} (hp : pS X k = some p) : ∀ f c, c < nc → aboveS X k f c = true → aboveS X p (f + 1) c = true
  | 0, c, _, h => (nomatch h)
  | f + 1, c, hc, h => by
    have h0 : (if c = k then true else match pS X c with | none => false | some e => aboveS X k f e) = true := h
    show (if c = p then true else match pS X c with | none => false | some e => aboveS X p (f + 1) e) = true
    by_cases hcp : c = p
    · rw [if_pos hcp]
    · rw [if_neg hcp]
      by_cases hck : c = k
      · subst hck
        rw [hp]
        show aboveS X p (f + 1) p = true
        simp [aboveS]
      · rw [if_neg hck] at h0
        rcases pS_cases hw hc with e | ⟨d, e1, e2⟩
        · rw [e] at h0; cases h0
        · rw [e2] at h0 ⊢
          exact aboveS_up hw hp f d (by omega) h0
theorem st_up (hw : wP X nc) {A : Nat → Bool} {k p : Nat} (hp : pS X k = some p) (h : stB X A nc k = true) : stB X A nc p = true := by
  have h8 := hw.1
  obtain ⟨d, h1, h2⟩ := anyB_iff.mp h
  rw [Bool.and_eq_true] at h2
  have := aboveS_up hw hp 9 d h1 h2.2
  rw [aboveS_more hw 9 d h1 (by omega)] at this
  exact anyB_t h1 (by rw [h2.1, this]; rfl)
theorem cntB_congr {f g : Nat → Bool} : ∀ {n : Nat}, (∀ i, i < n → f i = g i) → cntB f n = cntB g n
  | 0, _ => rfl
  | n + 1, h => by
    show cntB f n + _ = cntB g n + _
    rw [cntB_congr (fun i hi => h i (by omega)), h n (by omega)]
theorem gd_live (hw : wW X nc nm) {m : Nat} (hm : m < nm) : shGd X nc nm m = (liveF X nc nm).2.1 m := by
  unfold shGd
  cases hl : (liveF X nc nm).2.1 m with
  | false => rfl
  | true => rw [live_st hw hm hl]; rfl
end VC8
