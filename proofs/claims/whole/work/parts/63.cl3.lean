/-! The class: Reach. -/
section VC3
variable {G : vG} {M : vM} {fr lo pc mc ms : Nat} {lv : List (Nat × Value)} {st : List Value} {nc nm : Nat} {ad : Nat → Nat → Nat} {X Z : Nat → Nat → Int32} {L : Nat → Nat → List Nat} {Q : sQ0}
def zC (Z : Nat → Nat → Int32) (a b : Nat) : Nat → Nat → Int32 := fun k i => if k = 1 ∧ i < a then 0 else if k = 2 ∧ i < b then 0 else Z k i
theorem zC_1 {a b : Nat} : mW (zC Z a b) 1 a 0 = zC Z (a + 1) b := by
  funext k i
  by_cases hk : k = 1
  · subst hk
    by_cases hi : i = a
    · subst hi; rw [mW_at]; simp [zC]
    · rw [mW_i hi]
      by_cases h1 : i < a
      · simp [zC, h1, show i < a + 1 by omega]
      · simp [zC, h1, show ¬ i < a + 1 by omega]
  · rw [mW_k hk]; simp [zC, hk]
theorem zC_2 {a b : Nat} : mW (zC Z a b) 2 b 0 = zC Z a (b + 1) := by
  funext k i
  by_cases hk : k = 2
  · subst hk
    by_cases hi : i = b
    · subst hi; rw [mW_at]; simp [zC]
    · rw [mW_i hi]
      by_cases h1 : i < b
      · simp [zC, h1, show i < b + 1 by omega]
      · simp [zC, h1, show ¬ i < b + 1 by omega]
  · rw [mW_k hk]; simp [zC, hk]
theorem c_Re_clearMarks (hw : wW X nc nm) (hL : cR X nc nm L) : VS G M_Re_clearMarks 3 64 0 [(0, .ref (ad 5 3))] [] nc nm ad X Z L 0 0 (sRet none X (zC Z nc nm) L) := by
  have h8 := hw.1.1
  have h24 := hw.2.1
  have l2 : ∀ r m, m + r = nm → VS G M_Re_clearMarks 3 64 42 [(0, .ref (ad 5 3)), (1, .int (nI m))] [] nc nm ad X (zC Z nc m) L 0 0 (sRet none X (zC Z nc nm) L) := by
    intro r
    induction r with
    | zero =>
      intro m hm
      have hmn : m = nm := by omega
      subst hmn
      refine s_iload_n d_Re_clearMarks_42 rfl ?_
      refine s_aload_n d_Re_clearMarks_43 rfl (by first | rfl | exact vIsR_rf _) ?_
      refine s_get 5 3 d_Re_clearMarks_44 rfl rfl rfl i_Re 0 (by decide) kf_Re_9 (Or.inl rfl) rfl ?_
      refine s_get 5 1 d_Re_clearMarks_47 rfl rfl rfl i_Pr 1 (by decide) kf_Re_49 (Or.inl rfl) rfl ?_
      refine s_metSize d_Re_clearMarks_50 km_Re_34 hL ?_
      refine s_icmp_ge (tgt := 80) d_Re_clearMarks_53 (by decide) (fun _ => ?_) (fun c => absurd (nI_le (Nat.le_refl _) (by omega)) c)
      exact s_vret d_Re_clearMarks_80 rfl ⟨rfl, rfl, rfl, rfl⟩
    | succ r ih =>
      intro m hm
      have hmn : m < nm := by omega
      refine s_iload_n d_Re_clearMarks_42 rfl ?_
      refine s_aload_n d_Re_clearMarks_43 rfl (by first | rfl | exact vIsR_rf _) ?_
      refine s_get 5 3 d_Re_clearMarks_44 rfl rfl rfl i_Re 0 (by decide) kf_Re_9 (Or.inl rfl) rfl ?_
      refine s_get 5 1 d_Re_clearMarks_47 rfl rfl rfl i_Pr 1 (by decide) kf_Re_49 (Or.inl rfl) rfl ?_
      refine s_metSize d_Re_clearMarks_50 km_Re_34 hL ?_
      refine s_icmp_ge (tgt := 80) d_Re_clearMarks_53 (by decide) (fun c => absurd c (nI_ge (by omega) (by omega))) (fun _ => ?_)
      refine s_aload_n d_Re_clearMarks_56 rfl (by first | rfl | exact vIsR_rf _) ?_
      refine s_get 5 3 d_Re_clearMarks_57 rfl rfl rfl i_Re 0 (by decide) kf_Re_9 (Or.inl rfl) rfl ?_
      refine s_at 60 rfl ?_
      refine s_get 5 1 d_Re_clearMarks_60 rfl rfl rfl i_Pr 1 (by decide) kf_Re_49 (Or.inl rfl) rfl ?_
      refine s_iload_n d_Re_clearMarks_63 rfl ?_
      refine s_metGet d_Re_clearMarks_64 km_Re_40 hL (m) rfl (hmn) ?_
      refine s_cast 1 (m) d_Re_clearMarks_67 (decide_eq_true (hmn)) rfl rfl kc_Re_52 kx_Pm_Pm ?_
      refine s_iconst (v := 0) d_Re_clearMarks_70 (by decide) ?_
      refine s_put 1 (m) d_Re_clearMarks_71 (decide_eq_true (hmn)) rfl rfl i_Pm tt_Pm_ok n_Pm 7 (by decide) kf_Re_54 (Or.inl rfl) (Or.inl rfl) rfl rfl rfl cU_live ?_
      rw [zC_2]
      refine s_iincw (w := 1) d_Re_clearMarks_74 rfl (by decide) (by decide) rfl ?_
      refine s_goto (tgt := 42) d_Re_clearMarks_77 (by decide) ?_
      rw [nI_1]
      exact ih (m + 1) (by omega)
  have l1 : ∀ r c, c + r = nc → VS G M_Re_clearMarks 3 64 2 [(0, .ref (ad 5 3)), (1, .int (nI c))] [] nc nm ad X (zC Z c 0) L 0 0 (sRet none X (zC Z nc nm) L) := by
    intro r
    induction r with
    | zero =>
      intro c hc
      have hcn : c = nc := by omega
      subst hcn
      refine s_iload_n d_Re_clearMarks_2 rfl ?_
      refine s_aload_n d_Re_clearMarks_3 rfl (by first | rfl | exact vIsR_rf _) ?_
      refine s_get 5 3 d_Re_clearMarks_4 rfl rfl rfl i_Re 0 (by decide) kf_Re_9 (Or.inl rfl) rfl ?_
      refine s_get 5 1 d_Re_clearMarks_7 rfl rfl rfl i_Pr 0 (by decide) kf_Re_28 (Or.inl rfl) rfl ?_
      refine s_clsSize d_Re_clearMarks_10 km_Re_34 hL ?_
      refine s_icmp_ge (tgt := 40) d_Re_clearMarks_13 (by decide) (fun _ => ?_) (fun c => absurd (nI_le (Nat.le_refl _) (by omega)) c)
      refine s_iconst (v := 0) d_Re_clearMarks_40 (by decide) ?_
      refine s_istore_n d_Re_clearMarks_41 (by decide) rfl ?_
      exact l2 nm 0 (by omega)
    | succ r ih =>
      intro c hc
      have hcn : c < nc := by omega
      refine s_iload_n d_Re_clearMarks_2 rfl ?_
      refine s_aload_n d_Re_clearMarks_3 rfl (by first | rfl | exact vIsR_rf _) ?_
      refine s_get 5 3 d_Re_clearMarks_4 rfl rfl rfl i_Re 0 (by decide) kf_Re_9 (Or.inl rfl) rfl ?_
      refine s_get 5 1 d_Re_clearMarks_7 rfl rfl rfl i_Pr 0 (by decide) kf_Re_28 (Or.inl rfl) rfl ?_
      refine s_clsSize d_Re_clearMarks_10 km_Re_34 hL ?_
      refine s_icmp_ge (tgt := 40) d_Re_clearMarks_13 (by decide) (fun c => absurd c (nI_ge (by omega) (by omega))) (fun _ => ?_)
      refine s_aload_n d_Re_clearMarks_16 rfl (by first | rfl | exact vIsR_rf _) ?_
      refine s_get 5 3 d_Re_clearMarks_17 rfl rfl rfl i_Re 0 (by decide) kf_Re_9 (Or.inl rfl) rfl ?_
      refine s_at 20 rfl ?_
      refine s_get 5 1 d_Re_clearMarks_20 rfl rfl rfl i_Pr 0 (by decide) kf_Re_28 (Or.inl rfl) rfl ?_
      refine s_iload_n d_Re_clearMarks_23 rfl ?_
      refine s_clsGet d_Re_clearMarks_24 km_Re_40 hL (c) rfl (hcn) ?_
      refine s_cast 0 (c) d_Re_clearMarks_27 (decide_eq_true (hcn)) rfl rfl kc_Re_44 kx_Pc_Pc ?_
      refine s_iconst (v := 0) d_Re_clearMarks_30 (by decide) ?_
      refine s_put 0 (c) d_Re_clearMarks_31 (decide_eq_true (hcn)) rfl rfl i_Pc tt_Pc_ok n_Pc 4 (by decide) kf_Re_46 (Or.inl rfl) (Or.inl rfl) rfl rfl rfl cU_made ?_
      rw [zC_1]
      refine s_iincw (w := 1) d_Re_clearMarks_34 rfl (by decide) (by decide) rfl ?_
      refine s_goto (tgt := 2) d_Re_clearMarks_37 (by decide) ?_
      rw [nI_1]
      exact ih (c + 1) (by omega)
  have e0 : zC Z 0 0 = Z := by funext k i; simp [zC]
  have := l1 nc 0 (by omega)
  rw [e0] at this
  refine s_iconst (v := 0) d_Re_clearMarks_0 (by decide) ?_
  refine s_istore_n d_Re_clearMarks_1 (by decide) rfl ?_
  exact this
theorem zT_ext {t t' : tT} (h1 : ∀ i, i < nc → t.1 i = t'.1 i) (h2 : ∀ i, i < nm → t.2.1 i = t'.2.1 i) (h3 : t.2.2 = t'.2.2) : zT Z nc nm t = zT Z nc nm t' := by
  funext k i
  simp only [zT]
  by_cases a1 : k = 1 ∧ i < nc
  · rw [if_pos a1, if_pos a1, h1 i a1.2]
  · rw [if_neg a1, if_neg a1]
    by_cases a2 : k = 2 ∧ i < nm
    · rw [if_pos a2, if_pos a2, h2 i a2.2]
    · rw [if_neg a2, if_neg a2, h3]
theorem zC_zT {g : Bool} (hg : Z 3 1 = bI g) : zC Z nc nm = zT Z nc nm (fun _ => false, fun _ => false, g) := by
  funext k i
  simp only [zC, zT]
  by_cases a1 : k = 1 ∧ i < nc
  · rw [if_pos a1, if_pos a1]; rfl
  · rw [if_neg a1, if_neg a1]
    by_cases a2 : k = 2 ∧ i < nm
    · rw [if_pos a2, if_pos a2]; rfl
    · rw [if_neg a2, if_neg a2]
      by_cases a3 : k = 3 ∧ i = 1
      · rw [if_pos a3, a3.1, a3.2, hg]
      · rw [if_neg a3]
def kpF (X : Nat → Nat → Int32) : Nat → Nat → tT → tT
  | 0, _, t => t
  | n + 1, m, t => kpF X n (m + 1) (if kN X m then mkF (oN X m) (lvF (some m) t) else t)
theorem kpF_1 : ∀ n m (t : tT), (kpF X n m t).1 = mkI X n m t.1
  | 0, m, t => rfl
  | n + 1, m, t => by
    unfold kpF mkI
    rw [kpF_1]
    by_cases hk : kN X m = true
    · rw [if_pos hk, if_pos hk]; rfl
    · rw [if_neg hk, if_neg hk]
theorem kpF_2 : ∀ n m (t : tT) i, (kpF X n m t).2.1 i = (t.2.1 i || (decide (m ≤ i) && decide (i < m + n) && kN X i))
  | 0, m, t, i => by
    show t.2.1 i = _
    by_cases h1 : m ≤ i
    · rw [decide_eq_false (p := i < m + 0) (by omega), Bool.and_false, Bool.false_and, Bool.or_false]
    · rw [decide_eq_false (p := m ≤ i) h1, Bool.false_and, Bool.false_and, Bool.or_false]
  | n + 1, m, t, i => by
    unfold kpF
    rw [kpF_2]
    have e : (if kN X m then mkF (oN X m) (lvF (some m) t) else t).2.1 i = (t.2.1 i || (decide (i = m) && kN X i)) := by
      by_cases him : i = m
      · subst him
        by_cases hk : kN X i = true
        · rw [if_pos hk, hk]; show va_up t.2.1 i true i = _; rw [va_up_self]; simp
        · rw [if_neg hk]; simp [hk]
      · by_cases hk : kN X m = true
        · rw [if_pos hk]; show va_up t.2.1 m true i = _; rw [va_up_ne _ _ him]; simp [him]
        · rw [if_neg hk]; simp [him]
    rw [e, Bool.or_assoc]
    congr 1
    by_cases him : i = m
    · subst him; simp
    · by_cases h1 : m ≤ i
      · rw [decide_eq_true h1, decide_eq_true (p := m + 1 ≤ i) (by omega), decide_eq_false him]
        simp only [Bool.false_and, Bool.false_or, Bool.true_and]
        rw [show m + 1 + n = m + (n + 1) by omega]
      · rw [decide_eq_false h1, decide_eq_false (p := m + 1 ≤ i) (by omega), decide_eq_false him]; rfl
theorem c_Re_markKept {t : tT} (hw : wW X nc nm) (hL : cR X nc nm L) : VS G M_Re_markKept 3 64 0 [(0, .ref (ad 5 3))] [] nc nm ad X (zT Z nc nm t) L 0 0 (sRet none X (zT Z nc nm (kpF X nm 0 t)) L) := by
  have h24 := hw.2.1
  have loop : ∀ r m (u : tT), m + r = nm → VS G M_Re_markKept 3 64 2 [(0, .ref (ad 5 3)), (1, .int (nI m))] [] nc nm ad X (zT Z nc nm u) L 0 0 (sRet none X (zT Z nc nm (kpF X r m u)) L) := by
    intro r
    induction r with
    | zero =>
      intro m u hm
      refine s_iload_n d_Re_markKept_2 rfl ?_
      refine s_aload_n d_Re_markKept_3 rfl (by first | rfl | exact vIsR_rf _) ?_
      refine s_get 5 3 d_Re_markKept_4 rfl rfl rfl i_Re 0 (by decide) kf_Re_9 (Or.inl rfl) rfl ?_
      refine s_get 5 1 d_Re_markKept_7 rfl rfl rfl i_Pr 1 (by decide) kf_Re_49 (Or.inl rfl) rfl ?_
      refine s_metSize d_Re_markKept_10 km_Re_34 hL ?_
      refine s_icmp_ge (tgt := 57) d_Re_markKept_13 (by decide) (fun _ => ?_) (fun c => absurd (nI_le (by omega) (by omega)) c)
      exact s_vret d_Re_markKept_57 rfl ⟨rfl, rfl, rfl, rfl⟩
    | succ r ih =>
      intro m u hm
      have hmn : m < nm := by omega
      have ho := (hw.2.2.1 m hmn).1
      refine s_iload_n d_Re_markKept_2 rfl ?_
      refine s_aload_n d_Re_markKept_3 rfl (by first | rfl | exact vIsR_rf _) ?_
      refine s_get 5 3 d_Re_markKept_4 rfl rfl rfl i_Re 0 (by decide) kf_Re_9 (Or.inl rfl) rfl ?_
      refine s_get 5 1 d_Re_markKept_7 rfl rfl rfl i_Pr 1 (by decide) kf_Re_49 (Or.inl rfl) rfl ?_
      refine s_metSize d_Re_markKept_10 km_Re_34 hL ?_
      refine s_icmp_ge (tgt := 57) d_Re_markKept_13 (by decide) (fun c => absurd c (nI_ge (by omega) (by omega))) (fun _ => ?_)
      refine s_aload_n d_Re_markKept_16 rfl (by first | rfl | exact vIsR_rf _) ?_
      refine s_get 5 3 d_Re_markKept_17 rfl rfl rfl i_Re 0 (by decide) kf_Re_9 (Or.inl rfl) rfl ?_
      refine s_at 20 rfl ?_
      refine s_get 5 1 d_Re_markKept_20 rfl rfl rfl i_Pr 1 (by decide) kf_Re_49 (Or.inl rfl) rfl ?_
      refine s_iload_n d_Re_markKept_23 rfl ?_
      refine s_metGet d_Re_markKept_24 km_Re_40 hL (m) rfl (hmn) ?_
      refine s_cast 1 (m) d_Re_markKept_27 (decide_eq_true (hmn)) rfl rfl kc_Re_52 kx_Pm_Pm ?_
      refine s_astore_n d_Re_markKept_30 (by first | rfl | exact vIsR_rf _) (by decide) rfl ?_
      refine s_aload_n d_Re_markKept_31 rfl (by first | rfl | exact vIsR_rf _) ?_
      refine s_get 1 (m) d_Re_markKept_32 (decide_eq_true (hmn)) rfl rfl i_Pm 6 (by decide) kf_Re_57 (Or.inl rfl) rfl ?_
      rw [hw.2.2.2.2.1 m hmn]
      cases hk : kN X m with
      | false =>
        rw [show kpF X (r + 1) m u = kpF X r (m + 1) u by simp [kpF, hk]]
        refine s_if_eq (tgt := 51) d_Re_markKept_35 (by decide) (fun _ => ?_) (fun c => absurd (rfl) c)
        refine s_iincw (w := 1) d_Re_markKept_51 rfl (by decide) (by decide) rfl ?_
        refine s_goto (tgt := 2) d_Re_markKept_54 (by decide) ?_
        rw [nI_1]
        exact s_keep 2 rfl (ih (m + 1) u (by omega))
      | true =>
        rw [show kpF X (r + 1) m u = kpF X r (m + 1) (mkF (oN X m) (lvF (some m) u)) by simp [kpF, hk]]
        refine s_if_eq (tgt := 51) d_Re_markKept_35 (by decide) (fun c => absurd c (by decide)) (fun _ => ?_)
        refine s_aload_n d_Re_markKept_38 rfl (by first | rfl | exact vIsR_rf _) ?_
        refine s_aload_n d_Re_markKept_39 rfl (by first | rfl | exact vIsR_rf _) ?_
        refine s_callV1u (M1 := M_Re_markLive) 5 3 d_Re_markKept_40 rfl rfl rfl km_Re_60 kI_Re_markLive ks_Re_Re_markLive (by decide) (by first | rfl | exact vRf_cat _) (by decide) kM_Re_markLive ki_Re (by decide) (by decide +kernel) (c_Re_markLive (o := some m) (fun q z => by cases z; exact hmn)) ?_
        refine s_aload_n d_Re_markKept_43 rfl (by first | rfl | exact vIsR_rf _) ?_
        refine s_aload_n d_Re_markKept_44 rfl (by first | rfl | exact vIsR_rf _) ?_
        refine s_get 1 (m) d_Re_markKept_45 (decide_eq_true (hmn)) rfl rfl i_Pm 0 (by decide) kf_Re_64 (Or.inl rfl) rfl ?_
        refine s_callV1u (M1 := M_Re_markMade) 5 3 d_Re_markKept_48 rfl rfl rfl km_Re_68 kI_Re_markMade ks_Re_Re_markMade (by decide) (by first | rfl | exact vRf_cat _) (by decide) kM_Re_markMade ki_Re (by decide) (by decide +kernel) (c_Re_markMade ho) ?_
        refine s_iincw (w := 1) d_Re_markKept_51 rfl (by decide) (by decide) rfl ?_
        refine s_goto (tgt := 2) d_Re_markKept_54 (by decide) ?_
        rw [nI_1]
        exact s_keep 2 rfl (ih (m + 1) _ (by omega))
  refine s_iconst (v := 0) d_Re_markKept_0 (by decide) ?_
  refine s_istore_n d_Re_markKept_1 (by decide) rfl ?_
  exact loop nm 0 t (by omega)
theorem c_Re_spreadSelf {t : tT} {o m j : Nat} (hw : wW X nc nm) (hL : cR X nc nm L) (ho : o < nc) (hm : m < nm) (hj : j < iN X m) : VS G M_Re_spreadSelf 5 120 0 [(0, .ref (ad 5 3)), (1, .ref (ad 0 o)), (2, .ref (ad 2 (m * 5 + j)))] [] nc nm ad X (zT Z nc nm t) L 0 0 (sRet none X (zT Z nc nm (selfF (fdS X nm (m * 5 + j)) (fun k => aboveS X o 9 k) nc 0 t)) L) := by
  have h8 := hw.1.1
  have h5 : j < 5 := by have := (hw.2.2.2.1 m hm).1; omega
  have hv := cV2 (nc := nc) hm hj h5
  have loop : ∀ r k (u : tT), k + r = nc → VS G M_Re_spreadSelf 5 120 2 [(0, .ref (ad 5 3)), (1, .ref (ad 0 o)), (2, .ref (ad 2 (m * 5 + j))), (3, .int (nI k))] [] nc nm ad X (zT Z nc nm u) L 0 0 (sRet none X (zT Z nc nm (selfF (fdS X nm (m * 5 + j)) (fun k => aboveS X o 9 k) r k u)) L) := by
    intro r
    induction r with
    | zero =>
      intro k u hk
      refine s_iload_n d_Re_spreadSelf_2 rfl ?_
      refine s_aload_n d_Re_spreadSelf_3 rfl (by first | rfl | exact vIsR_rf _) ?_
      refine s_get 5 3 d_Re_spreadSelf_4 rfl rfl rfl i_Re 0 (by decide) kf_Re_9 (Or.inl rfl) rfl ?_
      refine s_get 5 1 d_Re_spreadSelf_7 rfl rfl rfl i_Pr 0 (by decide) kf_Re_28 (Or.inl rfl) rfl ?_
      refine s_clsSize d_Re_spreadSelf_10 km_Re_34 hL ?_
      refine s_icmp_ge (tgt := 72) d_Re_spreadSelf_13 (by decide) (fun _ => ?_) (fun c => absurd (nI_le (by omega) (by omega)) c)
      exact s_vret d_Re_spreadSelf_72 rfl ⟨rfl, rfl, rfl, rfl⟩
    | succ r ih =>
      intro k u hk
      have hkn : k < nc := by omega
      refine s_iload_n d_Re_spreadSelf_2 rfl ?_
      refine s_aload_n d_Re_spreadSelf_3 rfl (by first | rfl | exact vIsR_rf _) ?_
      refine s_get 5 3 d_Re_spreadSelf_4 rfl rfl rfl i_Re 0 (by decide) kf_Re_9 (Or.inl rfl) rfl ?_
      refine s_get 5 1 d_Re_spreadSelf_7 rfl rfl rfl i_Pr 0 (by decide) kf_Re_28 (Or.inl rfl) rfl ?_
      refine s_clsSize d_Re_spreadSelf_10 km_Re_34 hL ?_
      refine s_icmp_ge (tgt := 72) d_Re_spreadSelf_13 (by decide) (fun c => absurd c (nI_ge (by omega) (by omega))) (fun _ => ?_)
      refine s_aload_n d_Re_spreadSelf_16 rfl (by first | rfl | exact vIsR_rf _) ?_
      refine s_get 5 3 d_Re_spreadSelf_17 rfl rfl rfl i_Re 0 (by decide) kf_Re_9 (Or.inl rfl) rfl ?_
      refine s_at 20 rfl ?_
      refine s_get 5 1 d_Re_spreadSelf_20 rfl rfl rfl i_Pr 0 (by decide) kf_Re_28 (Or.inl rfl) rfl ?_
      refine s_iload_n d_Re_spreadSelf_23 rfl ?_
      refine s_clsGet d_Re_spreadSelf_24 km_Re_40 hL (k) rfl (hkn) ?_
      refine s_cast 0 (k) d_Re_spreadSelf_27 (decide_eq_true (hkn)) rfl rfl kc_Re_44 kx_Pc_Pc ?_
      refine s_astore d_Re_spreadSelf_30 (by first | rfl | exact vIsR_rf _) (by decide) rfl ?_
      refine s_aload d_Re_spreadSelf_32 rfl (by first | rfl | exact vIsR_rf _) ?_
      refine s_get 0 (k) d_Re_spreadSelf_34 (decide_eq_true (hkn)) rfl rfl i_Pc 4 (by decide) kf_Re_46 (Or.inl rfl) rfl ?_
      rw [zT_1 hkn]
      have nx : ∀ u' : tT, u' = (if u.1 k && aboveS X o 9 k then lvF (fdS X nm (m * 5 + j) k) u else u) → VS G M_Re_spreadSelf 5 120 66 [(0, .ref (ad 5 3)), (1, .ref (ad 0 o)), (2, .ref (ad 2 (m * 5 + j))), (3, .int (nI k)), (4, .ref (ad 0 k))] [] nc nm ad X (zT Z nc nm u') L 0 0 (sRet none X (zT Z nc nm (selfF (fdS X nm (m * 5 + j)) (fun k => aboveS X o 9 k) (r + 1) k u)) L) := by
        intro u' hu
        rw [show selfF (fdS X nm (m * 5 + j)) (fun k => aboveS X o 9 k) (r + 1) k u = selfF (fdS X nm (m * 5 + j)) (fun k => aboveS X o 9 k) r (k + 1) u' by rw [hu]; rfl]
        refine s_iincw (w := 1) d_Re_spreadSelf_66 rfl (by decide) (by decide) rfl ?_
        refine s_goto (tgt := 2) d_Re_spreadSelf_69 (by decide) ?_
        rw [nI_1]
        exact s_keep 4 rfl (ih (k + 1) u' (by omega))
      cases h1 : u.1 k with
      | false =>
        refine s_if_eq (tgt := 66) d_Re_spreadSelf_37 (by decide) (fun _ => ?_) (fun c => absurd (rfl) c)
        exact nx u (by rw [h1]; rfl)
      | true =>
        refine s_if_eq (tgt := 66) d_Re_spreadSelf_37 (by decide) (fun c => absurd c (by decide)) (fun _ => ?_)
        refine s_aload d_Re_spreadSelf_40 rfl (by first | rfl | exact vIsR_rf _) ?_
        refine s_aload_n d_Re_spreadSelf_42 rfl (by first | rfl | exact vIsR_rf _) ?_
        refine s_callV1r (M1 := M_Pc_isOrIsBelow) 0 (k) d_Re_spreadSelf_43 (decide_eq_true (hkn)) rfl rfl km_Re_101 kI_Pc_isOrIsBelow ks_Pc_Pc_isOrIsBelow (by decide) (by first | rfl | exact vRf_cat _) (by decide) kM_Pc_isOrIsBelow ki_Pc (by decide) (by decide +kernel) (c_Pc_isOrIsBelow hw.1 hkn ho) ?_
        cases h2 : aboveS X o 9 k with
        | false =>
          refine s_if_eq (tgt := 66) d_Re_spreadSelf_46 (by decide) (fun _ => ?_) (fun c => absurd (rfl) c)
          exact nx u (by rw [h1, h2]; rfl)
        | true =>
          refine s_if_eq (tgt := 66) d_Re_spreadSelf_46 (by decide) (fun c => absurd c (by decide)) (fun _ => ?_)
          refine s_aload_n d_Re_spreadSelf_49 rfl (by first | rfl | exact vIsR_rf _) ?_
          refine s_aload d_Re_spreadSelf_50 rfl (by first | rfl | exact vIsR_rf _) ?_
          refine s_aload_n d_Re_spreadSelf_52 rfl (by first | rfl | exact vIsR_rf _) ?_
          refine s_get 2 (m * 5 + j) d_Re_spreadSelf_53 (hv) rfl rfl i_It 4 (by decide) kf_Re_83 (Or.inl rfl) rfl ?_
          refine s_aload_n d_Re_spreadSelf_56 rfl (by first | rfl | exact vIsR_rf _) ?_
          refine s_get 2 (m * 5 + j) d_Re_spreadSelf_57 (hv) rfl rfl i_It 3 (by decide) kf_Re_87 (Or.inl rfl) rfl ?_
          refine s_callV2r (M1 := M_Pc_find) 0 (k) d_Re_spreadSelf_60 (decide_eq_true (hkn)) rfl rfl km_Re_90 kI_Pc_find ks_Pc_Pc_find (by decide) (by first | rfl | exact vRf_cat _) (by first | rfl | exact vRf_cat _) (by decide) kM_Pc_find ki_Pc (by decide) (by decide +kernel) (c_Pc_find hw hL hkn) ?_
          refine s_at 63 rfl ?_
          refine s_callV1u (M1 := M_Re_markLive) 5 3 d_Re_spreadSelf_63 rfl rfl rfl km_Re_60 kI_Re_markLive ks_Re_Re_markLive (by decide) (by first | rfl | exact vRf_cat _) (by decide) kM_Re_markLive ki_Re (by decide) (by decide +kernel) (c_Re_markLive (fun q z => findS_lt z)) ?_
          exact nx _ (by rw [h1, h2]; rfl)
  refine s_iconst (v := 0) d_Re_spreadSelf_0 (by decide) ?_
  refine s_istore_n d_Re_spreadSelf_1 (by decide) rfl ?_
  exact loop nc 0 t (by omega)
theorem c_Re_spread {t : tT} {m : Nat} (hw : wW X nc nm) (hL : cR X nc nm L) (hm : m < nm) : VS G M_Re_spread 6 150 0 [(0, .ref (ad 5 3)), (1, .ref (ad 1 m))] [] nc nm ad X (zT Z nc nm t) L 0 0 (sRet none X (zT Z nc nm (itemsF X nc nm m (iN X m) 0 t)) L) := by
  have ho := (hw.2.2.1 m hm).1
  have hi5 := (hw.2.2.2.1 m hm).1
  have loop : ∀ r j (u : tT), j + r = iN X m → VS G M_Re_spread 6 150 2 [(0, .ref (ad 5 3)), (1, .ref (ad 1 m)), (2, .int (nI j))] [] nc nm ad X (zT Z nc nm u) L 0 0 (sRet none X (zT Z nc nm (itemsF X nc nm m r j u)) L) := by
    intro r
    induction r with
    | zero =>
      intro j u hj
      refine s_iload_n d_Re_spread_2 rfl ?_
      refine s_aload_n d_Re_spread_3 rfl (by first | rfl | exact vIsR_rf _) ?_
      refine s_get 1 (m) d_Re_spread_4 (decide_eq_true (hm)) rfl rfl i_Pm 4 (by decide) kf_Re_75 (Or.inl rfl) rfl ?_
      refine s_itSize (m) d_Re_spread_7 km_Re_34 (hm) ?_
      refine s_icmp_ge (tgt := 85) d_Re_spread_10 (by decide) (fun _ => ?_) (fun c => absurd (nI_le (by omega) (by omega)) c)
      exact s_vret d_Re_spread_85 rfl ⟨rfl, rfl, rfl, rfl⟩
    | succ r ih =>
      intro j u hj
      have hji : j < iN X m := by omega
      have hv := cV2 (nc := nc) hm hji (by omega)
      have nx : ∀ u' : tT, u' = itemF X nc nm m (m * 5 + j) u → VS G M_Re_spread 6 150 79 [(0, .ref (ad 5 3)), (1, .ref (ad 1 m)), (2, .int (nI j)), (3, .ref (ad 2 (m * 5 + j)))] [] nc nm ad X (zT Z nc nm u') L 0 0 (sRet none X (zT Z nc nm (itemsF X nc nm m (r + 1) j u)) L) := by
        intro u' hu
        rw [show itemsF X nc nm m (r + 1) j u = itemsF X nc nm m r (j + 1) u' by rw [hu]; rfl]
        refine s_iincw (w := 1) d_Re_spread_79 rfl (by decide) (by decide) rfl ?_
        refine s_goto (tgt := 2) d_Re_spread_82 (by decide) ?_
        rw [nI_1]
        exact s_keep 3 rfl (ih (j + 1) u' (by omega))
      refine s_iload_n d_Re_spread_2 rfl ?_
      refine s_aload_n d_Re_spread_3 rfl (by first | rfl | exact vIsR_rf _) ?_
      refine s_get 1 (m) d_Re_spread_4 (decide_eq_true (hm)) rfl rfl i_Pm 4 (by decide) kf_Re_75 (Or.inl rfl) rfl ?_
      refine s_itSize (m) d_Re_spread_7 km_Re_34 (hm) ?_
      refine s_icmp_ge (tgt := 85) d_Re_spread_10 (by decide) (fun c => absurd c (nI_ge (by omega) (by omega))) (fun _ => ?_)
      refine s_aload_n d_Re_spread_13 rfl (by first | rfl | exact vIsR_rf _) ?_
      refine s_get 1 (m) d_Re_spread_14 (decide_eq_true (hm)) rfl rfl i_Pm 4 (by decide) kf_Re_75 (Or.inl rfl) rfl ?_
      refine s_iload_n d_Re_spread_17 rfl ?_
      refine s_at 18 rfl ?_
      refine s_itGet (m) d_Re_spread_18 km_Re_40 (hm) (j) rfl (hji) ?_
      refine s_cast 2 (m * 5 + j) d_Re_spread_21 (hv) rfl rfl kc_Re_78 kx_It_It ?_
      refine s_astore_n d_Re_spread_24 (by first | rfl | exact vIsR_rf _) (by decide) rfl ?_
      refine s_aload_n d_Re_spread_25 rfl (by first | rfl | exact vIsR_rf _) ?_
      refine s_get 2 (m * 5 + j) d_Re_spread_26 (hv) rfl rfl i_It 2 (by decide) kf_Re_80 (Or.inl rfl) rfl ?_
      by_cases h1 : X 12 (m * 5 + j) = 1
      · have hc := (hw.2.2.2.2.2 m hm j hji h1).1
        rw [if_pos h1]
        refine s_ifnull (r := some (ad 0 (cN X (m * 5 + j)))) (tgt := 62) d_Re_spread_29 (by decide) (fun z => nomatch z) (fun _ _ => ?_)
        refine s_aload_n d_Re_spread_32 rfl (by first | rfl | exact vIsR_rf _) ?_
        refine s_aload_n d_Re_spread_33 rfl (by first | rfl | exact vIsR_rf _) ?_
        refine s_get 2 (m * 5 + j) d_Re_spread_34 (hv) rfl rfl i_It 2 (by decide) kf_Re_80 (Or.inl rfl) rfl ?_
        rw [if_pos h1]
        refine s_callV1u (M1 := M_Re_markMade) 5 3 d_Re_spread_37 rfl rfl rfl km_Re_68 kI_Re_markMade ks_Re_Re_markMade (by decide) (by first | rfl | exact vRf_cat _) (by decide) kM_Re_markMade ki_Re (by decide) (by decide +kernel) (c_Re_markMade hc) ?_
        refine s_aload_n d_Re_spread_40 rfl (by first | rfl | exact vIsR_rf _) ?_
        refine s_aload_n d_Re_spread_41 rfl (by first | rfl | exact vIsR_rf _) ?_
        refine s_get 2 (m * 5 + j) d_Re_spread_42 (hv) rfl rfl i_It 2 (by decide) kf_Re_80 (Or.inl rfl) rfl ?_
        rw [if_pos h1]
        refine s_aload_n d_Re_spread_45 rfl (by first | rfl | exact vIsR_rf _) ?_
        refine s_get 2 (m * 5 + j) d_Re_spread_46 (hv) rfl rfl i_It 4 (by decide) kf_Re_83 (Or.inl rfl) rfl ?_
        refine s_aload_n d_Re_spread_49 rfl (by first | rfl | exact vIsR_rf _) ?_
        refine s_get 2 (m * 5 + j) d_Re_spread_50 (hv) rfl rfl i_It 3 (by decide) kf_Re_87 (Or.inl rfl) rfl ?_
        refine s_callV2r (M1 := M_Pc_find) 0 (cN X (m * 5 + j)) d_Re_spread_53 (decide_eq_true (hc)) rfl rfl km_Re_90 kI_Pc_find ks_Pc_Pc_find (by decide) (by first | rfl | exact vRf_cat _) (by first | rfl | exact vRf_cat _) (by decide) kM_Pc_find ki_Pc (by decide) (by decide +kernel) (c_Pc_find hw hL hc) ?_
        refine s_callV1u (M1 := M_Re_markLive) 5 3 d_Re_spread_56 rfl rfl rfl km_Re_60 kI_Re_markLive ks_Re_Re_markLive (by decide) (by first | rfl | exact vRf_cat _) (by decide) kM_Re_markLive ki_Re (by decide) (by decide +kernel) (c_Re_markLive (fun q z => findS_lt z)) ?_
        refine s_goto (tgt := 79) d_Re_spread_59 (by decide) ?_
        exact nx _ (by simp only [itemF, h1, if_true]; rfl)
      · rw [if_neg h1]
        refine s_ifnull (r := none) (tgt := 62) d_Re_spread_29 (by decide) (fun _ => ?_) (fun _ z => nomatch z)
        refine s_aload_n d_Re_spread_62 rfl (by first | rfl | exact vIsR_rf _) ?_
        refine s_get 2 (m * 5 + j) d_Re_spread_63 (hv) rfl rfl i_It 0 (by decide) kf_Re_94 (Or.inl rfl) rfl ?_
        refine s_iconst (v := 2) d_Re_spread_66 (by decide) ?_
        refine s_icmp_ne (tgt := 79) d_Re_spread_67 (by decide) (fun c_67 => ?_) (fun c_67 => ?_)
        · exact nx _ (by simp only [itemF, h1, c_67, if_false])
        · refine s_aload_n d_Re_spread_70 rfl (by first | rfl | exact vIsR_rf _) ?_
          refine s_aload_n d_Re_spread_71 rfl (by first | rfl | exact vIsR_rf _) ?_
          refine s_get 1 (m) d_Re_spread_72 (decide_eq_true (hm)) rfl rfl i_Pm 0 (by decide) kf_Re_64 (Or.inl rfl) rfl ?_
          refine s_aload_n d_Re_spread_75 rfl (by first | rfl | exact vIsR_rf _) ?_
          refine s_callV2u (M1 := M_Re_spreadSelf) 5 3 d_Re_spread_76 rfl rfl rfl km_Re_97 kI_Re_spreadSelf ks_Re_Re_spreadSelf (by decide) (by first | rfl | exact vRf_cat _) (by first | rfl | exact vRf_cat _) (by decide) kM_Re_spreadSelf ki_Re (by decide) (by decide +kernel) (c_Re_spreadSelf hw hL ho hm hji) ?_
          exact nx _ (by simp only [itemF, h1, if_false]; rw [if_pos c_67])
  refine s_iconst (v := 0) d_Re_spread_0 (by decide) ?_
  refine s_istore_n d_Re_spread_1 (by decide) rfl ?_
  exact loop (iN X m) 0 t (by omega)
theorem c_Re_spreadFromLive {t : tT} (hw : wW X nc nm) (hL : cR X nc nm L) : VS G M_Re_spreadFromLive 7 180 0 [(0, .ref (ad 5 3))] [] nc nm ad X (zT Z nc nm t) L 0 0 (sRet none X (zT Z nc nm (passF X nc nm nm 0 t)) L) := by
  have h24 := hw.2.1
  have loop : ∀ r m (u : tT), m + r = nm → VS G M_Re_spreadFromLive 7 180 2 [(0, .ref (ad 5 3)), (1, .int (nI m))] [] nc nm ad X (zT Z nc nm u) L 0 0 (sRet none X (zT Z nc nm (passF X nc nm r m u)) L) := by
    intro r
    induction r with
    | zero =>
      intro m u hm
      refine s_iload_n d_Re_spreadFromLive_2 rfl ?_
      refine s_aload_n d_Re_spreadFromLive_3 rfl (by first | rfl | exact vIsR_rf _) ?_
      refine s_get 5 3 d_Re_spreadFromLive_4 rfl rfl rfl i_Re 0 (by decide) kf_Re_9 (Or.inl rfl) rfl ?_
      refine s_get 5 1 d_Re_spreadFromLive_7 rfl rfl rfl i_Pr 1 (by decide) kf_Re_49 (Or.inl rfl) rfl ?_
      refine s_metSize d_Re_spreadFromLive_10 km_Re_34 hL ?_
      refine s_icmp_ge (tgt := 49) d_Re_spreadFromLive_13 (by decide) (fun _ => ?_) (fun c => absurd (nI_le (by omega) (by omega)) c)
      exact s_vret d_Re_spreadFromLive_49 rfl ⟨rfl, rfl, rfl, rfl⟩
    | succ r ih =>
      intro m u hm
      have hmn : m < nm := by omega
      refine s_iload_n d_Re_spreadFromLive_2 rfl ?_
      refine s_aload_n d_Re_spreadFromLive_3 rfl (by first | rfl | exact vIsR_rf _) ?_
      refine s_get 5 3 d_Re_spreadFromLive_4 rfl rfl rfl i_Re 0 (by decide) kf_Re_9 (Or.inl rfl) rfl ?_
      refine s_get 5 1 d_Re_spreadFromLive_7 rfl rfl rfl i_Pr 1 (by decide) kf_Re_49 (Or.inl rfl) rfl ?_
      refine s_metSize d_Re_spreadFromLive_10 km_Re_34 hL ?_
      refine s_icmp_ge (tgt := 49) d_Re_spreadFromLive_13 (by decide) (fun c => absurd c (nI_ge (by omega) (by omega))) (fun _ => ?_)
      refine s_aload_n d_Re_spreadFromLive_16 rfl (by first | rfl | exact vIsR_rf _) ?_
      refine s_get 5 3 d_Re_spreadFromLive_17 rfl rfl rfl i_Re 0 (by decide) kf_Re_9 (Or.inl rfl) rfl ?_
      refine s_at 20 rfl ?_
      refine s_get 5 1 d_Re_spreadFromLive_20 rfl rfl rfl i_Pr 1 (by decide) kf_Re_49 (Or.inl rfl) rfl ?_
      refine s_iload_n d_Re_spreadFromLive_23 rfl ?_
      refine s_metGet d_Re_spreadFromLive_24 km_Re_40 hL (m) rfl (hmn) ?_
      refine s_cast 1 (m) d_Re_spreadFromLive_27 (decide_eq_true (hmn)) rfl rfl kc_Re_52 kx_Pm_Pm ?_
      refine s_astore_n d_Re_spreadFromLive_30 (by first | rfl | exact vIsR_rf _) (by decide) rfl ?_
      refine s_aload_n d_Re_spreadFromLive_31 rfl (by first | rfl | exact vIsR_rf _) ?_
      refine s_get 1 (m) d_Re_spreadFromLive_32 (decide_eq_true (hmn)) rfl rfl i_Pm 7 (by decide) kf_Re_54 (Or.inl rfl) rfl ?_
      rw [zT_2 hmn]
      have e : passF X nc nm (r + 1) m u = passF X nc nm r (m + 1) (if u.2.1 m then itemsF X nc nm m (iN X m) 0 u else u) := rfl
      rw [e]
      cases hl : u.2.1 m with
      | false =>
        refine s_if_eq (tgt := 43) d_Re_spreadFromLive_35 (by decide) (fun _ => ?_) (fun c => absurd (rfl) c)
        refine s_iincw (w := 1) d_Re_spreadFromLive_43 rfl (by decide) (by decide) rfl ?_
        refine s_goto (tgt := 2) d_Re_spreadFromLive_46 (by decide) ?_
        rw [nI_1]
        exact s_keep 2 rfl (ih (m + 1) u (by omega))
      | true =>
        refine s_if_eq (tgt := 43) d_Re_spreadFromLive_35 (by decide) (fun c => absurd c (by decide)) (fun _ => ?_)
        refine s_aload_n d_Re_spreadFromLive_38 rfl (by first | rfl | exact vIsR_rf _) ?_
        refine s_aload_n d_Re_spreadFromLive_39 rfl (by first | rfl | exact vIsR_rf _) ?_
        refine s_callV1u (M1 := M_Re_spread) 5 3 d_Re_spreadFromLive_40 rfl rfl rfl km_Re_72 kI_Re_spread ks_Re_Re_spread (by decide) (by first | rfl | exact vRf_cat _) (by decide) kM_Re_spread ki_Re (by decide) (by decide +kernel) (c_Re_spread hw hL hmn) ?_
        refine s_iincw (w := 1) d_Re_spreadFromLive_43 rfl (by decide) (by decide) rfl ?_
        refine s_goto (tgt := 2) d_Re_spreadFromLive_46 (by decide) ?_
        rw [nI_1]
        exact s_keep 2 rfl (ih (m + 1) _ (by omega))
  refine s_iconst (v := 0) d_Re_spreadFromLive_0 (by decide) ?_
  refine s_istore_n d_Re_spreadFromLive_1 (by decide) rfl ?_
  exact loop nm 0 t (by omega)
theorem c_Re_mark {g : Bool} (hw : wW X nc nm) (hL : cR X nc nm L) (hg : Z 3 1 = bI g) : VS G M_Re_mark 8 210 0 [(0, .ref (ad 5 3))] [] nc nm ad X Z L 0 0 (sRet none X (zT Z nc nm (liveF X nc nm)) L) := by
  have out : ∀ (u : tT) (x : Int32), u.2.2 = false → VS G M_Re_mark 8 210 15 [(0, .ref (ad 5 3)), (1, .int x)] [] nc nm ad X (zT Z nc nm u) L 0 0 (sRet none X (zT Z nc nm u) L) := by
    intro u x hu
    refine s_aload_n d_Re_mark_15 rfl (by first | rfl | exact vIsR_rf _) ?_
    refine s_get 5 3 d_Re_mark_16 rfl rfl rfl i_Re 1 (by decide) kf_Re_15 (Or.inl rfl) rfl ?_
    rw [zT_3, hu]
    refine s_if_eq (tgt := 43) d_Re_mark_19 (by decide) (fun _ => ?_) (fun c => absurd (rfl) c)
    exact s_vret d_Re_mark_43 rfl ⟨rfl, rfl, rfl, rfl⟩
  have loop : ∀ f p (u : tT), p + f = 33 → u.2.2 = true → VS G M_Re_mark 8 210 15 [(0, .ref (ad 5 3)), (1, .int (nI p))] [] nc nm ad X (zT Z nc nm u) L 0 0 (sRet none X (zT Z nc nm (fixF X nc nm f u)) L) := by
    intro f
    induction f with
    | zero =>
      intro p u hp hu
      refine s_aload_n d_Re_mark_15 rfl (by first | rfl | exact vIsR_rf _) ?_
      refine s_get 5 3 d_Re_mark_16 rfl rfl rfl i_Re 1 (by decide) kf_Re_15 (Or.inl rfl) rfl ?_
      rw [zT_3, hu]
      refine s_if_eq (tgt := 43) d_Re_mark_19 (by decide) (fun c => absurd c (by decide)) (fun _ => ?_)
      refine s_iload_n d_Re_mark_22 rfl ?_
      refine s_bipush (v := 32) d_Re_mark_23 (by decide) ?_
      refine s_icmp_gt (tgt := 43) d_Re_mark_25 (by decide) (fun _ => ?_) (fun c => absurd ((nI_lt (a := 32) (by omega) (by omega))) c)
      exact s_vret d_Re_mark_43 rfl ⟨rfl, rfl, rfl, rfl⟩
    | succ f ih =>
      intro p u hp hu
      refine s_aload_n d_Re_mark_15 rfl (by first | rfl | exact vIsR_rf _) ?_
      refine s_get 5 3 d_Re_mark_16 rfl rfl rfl i_Re 1 (by decide) kf_Re_15 (Or.inl rfl) rfl ?_
      rw [zT_3, hu]
      refine s_if_eq (tgt := 43) d_Re_mark_19 (by decide) (fun c => absurd c (by decide)) (fun _ => ?_)
      refine s_iload_n d_Re_mark_22 rfl ?_
      refine s_bipush (v := 32) d_Re_mark_23 (by decide) ?_
      refine s_icmp_gt (tgt := 43) d_Re_mark_25 (by decide) (fun c => absurd c ((nI_nlt (b := p) (a := 32) (by omega) (by omega)))) (fun _ => ?_)
      refine s_aload_n d_Re_mark_28 rfl (by first | rfl | exact vIsR_rf _) ?_
      refine s_iconst (v := 0) d_Re_mark_29 (by decide) ?_
      refine s_put 5 3 d_Re_mark_30 rfl rfl rfl i_Re tt_Re_ok n_Re 1 (by decide) kf_Re_15 (Or.inl rfl) (Or.inl rfl) rfl rfl rfl cU_grew ?_
      rw [show (0 : Int32) = bI false from rfl, zT_w3]
      refine s_aload_n d_Re_mark_33 rfl (by first | rfl | exact vIsR_rf _) ?_
      refine s_callV0u (M1 := M_Re_spreadFromLive) 5 3 d_Re_mark_34 rfl rfl rfl km_Re_25 kI_Re_spreadFromLive ks_Re_Re_spreadFromLive (by decide) (by decide) kM_Re_spreadFromLive ki_Re (by decide) (by decide +kernel) (c_Re_spreadFromLive hw hL) ?_
      refine s_iincw (w := 1) d_Re_mark_37 rfl (by decide) (by decide) rfl ?_
      refine s_goto (tgt := 15) d_Re_mark_40 (by decide) ?_
      rw [nI_1]
      cases hf : (passF X nc nm nm 0 (u.1, u.2.1, false)).2.2 with
      | true =>
        rw [show fixF X nc nm (f + 1) u = fixF X nc nm f (passF X nc nm nm 0 (u.1, u.2.1, false)) by simp [fixF, hf]]
        exact ih (p + 1) _ (by omega) hf
      | false =>
        rw [show fixF X nc nm (f + 1) u = passF X nc nm nm 0 (u.1, u.2.1, false) by simp [fixF, hf]]
        exact out _ _ hf
  refine s_aload_n d_Re_mark_0 rfl (by first | rfl | exact vIsR_rf _) ?_
  refine s_callV0u (M1 := M_Re_clearMarks) 5 3 d_Re_mark_1 rfl rfl rfl km_Re_19 kI_Re_clearMarks ks_Re_Re_clearMarks (by decide) (by decide) kM_Re_clearMarks ki_Re (by decide) (by decide +kernel) (c_Re_clearMarks hw hL) ?_
  rw [zC_zT hg]
  refine s_aload_n d_Re_mark_4 rfl (by first | rfl | exact vIsR_rf _) ?_
  refine s_callV0u (M1 := M_Re_markKept) 5 3 d_Re_mark_5 rfl rfl rfl km_Re_22 kI_Re_markKept ks_Re_Re_markKept (by decide) (by decide) kM_Re_markKept ki_Re (by decide) (by decide +kernel) (c_Re_markKept hw hL) ?_
  refine s_aload_n d_Re_mark_8 rfl (by first | rfl | exact vIsR_rf _) ?_
  refine s_iconst (v := 1) d_Re_mark_9 (by decide) ?_
  refine s_put 5 3 d_Re_mark_10 rfl rfl rfl i_Re tt_Re_ok n_Re 1 (by decide) kf_Re_15 (Or.inl rfl) (Or.inl rfl) rfl rfl rfl cU_grew ?_
  rw [show (1 : Int32) = bI true from rfl, zT_w3]
  refine s_iconst (v := 0) d_Re_mark_13 (by decide) ?_
  refine s_istore_n d_Re_mark_14 (by decide) rfl ?_
  rw [zT_ext (t := ((kpF X nm 0 (fun _ => false, fun _ => false, g)).1, (kpF X nm 0 (fun _ => false, fun _ => false, g)).2.1, true)) (t' := iniF X nm) (fun i _ => by rw [show (iniF X nm).1 = mkI X nm 0 (fun _ => false) from rfl, ← kpF_1 nm 0 (fun _ => false, fun _ => false, g)]) (fun i hi => by show (kpF X nm 0 _).2.1 i = kN X i; rw [kpF_2, decide_eq_true (Nat.zero_le i), decide_eq_true (p := i < 0 + nm) (by omega)]; rfl) rfl]
  exact loop 33 0 (iniF X nm) (by omega) rfl
end VC3
