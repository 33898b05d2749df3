/-! The reference: findLive. -/
section VM6
variable {G : vG} {am : Nat} {ad : Nat → Nat} {X : Nat → Nat → Int32} {Y : Nat → Int32}
/-- arrays 11 and 10 as they are while findLive begins: the first c of 11 are set by a, the first m of 10 by b -/
theorem xLM_step11 {a b : Nat → Bool} {c nm : Nat} : mW (xLM X a b c nm) 11 c (bI (a c)) = xLM X a b (c + 1) nm := by
  funext k i
  by_cases hk : k = 11
  · subst hk
    by_cases hi : i = c
    · subst hi; rw [mW_at, xLM_11 (by omega)]
    · rw [mW_i hi]
      by_cases h1 : i < c
      · rw [xLM_11 h1, xLM_11 (by omega)]
      · simp [xLM, h1, show ¬ i < c + 1 by omega]
  · rw [mW_k hk]; simp [xLM, hk]
theorem xLM_step10 {a b : Nat → Bool} {nc m : Nat} : mW (xLM X a b nc m) 10 m (bI (b m)) = xLM X a b nc (m + 1) := by
  funext k i
  by_cases hk : k = 10
  · subst hk
    by_cases hi : i = m
    · subst hi; rw [mW_at, xLM_10 (by omega)]
    · rw [mW_i hi]
      by_cases h1 : i < m
      · rw [xLM_10 h1, xLM_10 (by omega)]
      · simp [xLM, h1, show ¬ i < m + 1 by omega]
  · rw [mW_k hk]; simp [xLM, hk]
theorem xLM_00 {a b : Nat → Bool} : xLM X a b 0 0 = X := by funext k i; simp [xLM]
theorem m_fl_inner {nc nm m : Nat} {Q : vR → (Nat → Nat → Int32) → (Nat → Int32) → Prop} (hw : wW X nc nm) (hy : Y 17 = nI nm) (hyc : Y 16 = nI nc) (hm : m < nm) : ∀ n j (u : tT), j + n = iN X m → u.2.1 m = true → (∀ x : Int32, VM G M_Mo_findLive 4 160 148 [(0, .ref am), (1, .int (bI (itemsF X nc nm m n j u).2.2)), (2, .int (nI m)), (3, .int x)] [] am ad (xLM X (itemsF X nc nm m n j u).1 (itemsF X nc nm m n j u).2.1 nc nm) Y Q) → VM G M_Mo_findLive 4 160 108 [(0, .ref am), (1, .int (bI u.2.2)), (2, .int (nI m)), (3, .int (nI j))] [] am ad (xLM X u.1 u.2.1 nc nm) Y Q := by
  have hm24 := hw.2.1
  have hit := hw.2.2.2.1 m hm
  intro n
  induction n with
  | zero =>
    intro j u hj hl k
    refine m_iload_n d_Mo_findLive_108 rfl ?_
    refine m_aload_n d_Mo_findLive_109 rfl (by first | rfl | exact vIsR_rf _) ?_
    refine m_get d_Mo_findLive_110 5 (by decide) kf_Mo_25 rfl ?_
    refine m_iload_n d_Mo_findLive_113 rfl ?_
    refine m_ald d_Mo_findLive_114 m (by decide) (by exact rfl) (by exact (show m < 24 by omega)) ?_
    rw [xLM_o (by decide) (by decide), hit.2]
    refine m_icmp_ge (tgt := 148) d_Mo_findLive_115 (by decide) (fun _ => ?_) (fun c => absurd (nI_le (by omega) (by omega)) c)
    exact k _
  | succ n ih =>
    intro j u hj hl k
    have hix : m * 5 + j < 120 := by omega
    refine m_iload_n d_Mo_findLive_108 rfl ?_
    refine m_aload_n d_Mo_findLive_109 rfl (by first | rfl | exact vIsR_rf _) ?_
    refine m_get d_Mo_findLive_110 5 (by decide) kf_Mo_25 rfl ?_
    refine m_iload_n d_Mo_findLive_113 rfl ?_
    refine m_ald d_Mo_findLive_114 m (by decide) (by exact rfl) (by exact (show m < 24 by omega)) ?_
    rw [xLM_o (by decide) (by decide), hit.2]
    refine m_icmp_ge (tgt := 148) d_Mo_findLive_115 (by decide) (fun c => absurd c (nI_ge (by omega) (by omega))) (fun _ => ?_)
    refine m_aload_n d_Mo_findLive_118 rfl (by first | rfl | exact vIsR_rf _) ?_
    refine m_get d_Mo_findLive_119 10 (by decide) kf_Mo_41 rfl ?_
    refine m_iload_n d_Mo_findLive_122 rfl ?_
    refine m_zald d_Mo_findLive_123 m (by decide) (by exact rfl) (by exact (show m < 24 by omega)) ?_
    rw [xLM_10 hm, hl]
    refine m_if_eq (tgt := 148) d_Mo_findLive_124 (by decide) (fun c => absurd c (by decide)) (fun _ => ?_)
    refine m_aload_n d_Mo_findLive_127 rfl (by first | rfl | exact vIsR_rf _) ?_
    refine m_iload_n d_Mo_findLive_128 rfl ?_
    refine m_iload_n d_Mo_findLive_129 rfl ?_
    refine m_iconst (v := 5) d_Mo_findLive_130 (by decide) ?_
    refine m_imul d_Mo_findLive_131 ?_
    refine m_iload_n d_Mo_findLive_132 rfl ?_
    refine m_iadd d_Mo_findLive_133 ?_
    rw [show nI m * 5 + nI j = nI (m * 5 + j) by rw [show (5 : Int32) = nI 5 from rfl, pk_mul, nI_add]]
    refine m_callV2r (M1 := M_Mo_need) d_Mo_findLive_134 km_Mo_135 kI_Mo_need ks_Mo_Mo_need (by decide) (by first | rfl | exact vRf_cat _) (by first | rfl | exact vRf_cat _) (by decide) kM_Mo_need ki_Mo (by decide) (by decide +kernel) (c_Mo_need hw hm hix (hw.2.2.2.2.2 m hm j (by omega)) hy hyc) ?_
    have e1 := itemF_fl (X := X) (nc := nc) (nm := nm) (m := m) (i := m * 5 + j) (t := u)
    have hl2 : (itemF X nc nm m (m * 5 + j) u).2.1 m = true := (itemF_le (fun h1 => (hw.2.2.2.2.2 m hm j (by omega) h1).1)).2.1 m hl
    have next : ∀ w : Int32, w = bI (itemF X nc nm m (m * 5 + j) u).2.2 → VM G M_Mo_findLive 4 160 142 [(0, .ref am), (1, .int w), (2, .int (nI m)), (3, .int (nI j))] [] am ad (xLM X (itemF X nc nm m (m * 5 + j) (u.1, u.2.1, false)).1 (itemF X nc nm m (m * 5 + j) (u.1, u.2.1, false)).2.1 nc nm) Y Q := by
      intro w hw2
      subst hw2
      refine m_iincw (w := 1) d_Mo_findLive_142 rfl (by decide) (by decide) rfl ?_
      refine m_goto (tgt := 108) d_Mo_findLive_145 (by decide) ?_
      rw [nI_1]
      have := ih (j + 1) (itemF X nc nm m (m * 5 + j) u) (by omega) hl2 k
      rw [e1] at this ⊢
      exact this
    refine m_if_eq (tgt := 142) d_Mo_findLive_137 (by decide) (fun c_137 => ?_) (fun c_137 => ?_)
    · exact next _ (by rw [e1, (bI_0 _).mp c_137, Bool.or_false])
    · refine m_iconst (v := 1) d_Mo_findLive_140 (by decide) ?_
      refine m_istore_n d_Mo_findLive_141 (by decide) rfl ?_
      exact next _ (by rw [e1, nbI c_137, Bool.or_true]; rfl)
theorem m_fl_outer {nc nm : Nat} {Q : vR → (Nat → Nat → Int32) → (Nat → Int32) → Prop} (hw : wW X nc nm) (hy : Y 17 = nI nm) (hyc : Y 16 = nI nc) : ∀ n m (u : tT) (lv3 : List (Nat × Value)), m + n = nm → (lv3 = [] ∨ ∃ y, lv3 = [(3, .int y)]) → (∀ lv3 : List (Nat × Value), (lv3 = [] ∨ ∃ y, lv3 = [(3, .int y)]) → VM G M_Mo_findLive 4 160 154 ([(0, .ref am), (1, .int (bI (passF X nc nm n m u).2.2)), (2, .int (nI nm))] ++ lv3) [] am ad (xLM X (passF X nc nm n m u).1 (passF X nc nm n m u).2.1 nc nm) Y Q) → VM G M_Mo_findLive 4 160 98 ([(0, .ref am), (1, .int (bI u.2.2)), (2, .int (nI m))] ++ lv3) [] am ad (xLM X u.1 u.2.1 nc nm) Y Q := by
  have hm24 := hw.2.1
  intro n
  induction n with
  | zero =>
    intro m u lv3 hm hl3 k
    have hmn : m = nm := by omega
    subst hmn
    rcases hl3 with rfl | ⟨y, rfl⟩
    · refine m_iload_n d_Mo_findLive_98 rfl ?_
      refine m_aload_n d_Mo_findLive_99 rfl (by first | rfl | exact vIsR_rf _) ?_
      refine m_get d_Mo_findLive_100 17 (by decide) kf_Mo_103 rfl ?_
      refine m_icmp_ge (tgt := 154) d_Mo_findLive_103 (by decide) (fun _ => ?_) (fun c => absurd ((by rw [hy]; exact nI_le (Nat.le_refl _) (by omega))) c)
      exact k [] (Or.inl rfl)
    · refine m_iload_n d_Mo_findLive_98 rfl ?_
      refine m_aload_n d_Mo_findLive_99 rfl (by first | rfl | exact vIsR_rf _) ?_
      refine m_get d_Mo_findLive_100 17 (by decide) kf_Mo_103 rfl ?_
      refine m_icmp_ge (tgt := 154) d_Mo_findLive_103 (by decide) (fun _ => ?_) (fun c => absurd ((by rw [hy]; exact nI_le (Nat.le_refl _) (by omega))) c)
      exact k [(3, .int y)] (Or.inr ⟨y, rfl⟩)
  | succ n ih =>
    intro m u lv3 hm hl3 k
    have hmn : m < nm := by omega
    have hit := hw.2.2.2.1 m hmn
    have go : VM G M_Mo_findLive 4 160 108 [(0, .ref am), (1, .int (bI u.2.2)), (2, .int (nI m)), (3, .int 0)] [] am ad (xLM X u.1 u.2.1 nc nm) Y Q := by
      have next : ∀ (u' : tT) (x : Int32), u' = (if u.2.1 m then itemsF X nc nm m (iN X m) 0 u else u) → VM G M_Mo_findLive 4 160 148 [(0, .ref am), (1, .int (bI u'.2.2)), (2, .int (nI m)), (3, .int x)] [] am ad (xLM X u'.1 u'.2.1 nc nm) Y Q := by
        intro u' x hu
        refine m_iincw (w := 1) d_Mo_findLive_148 rfl (by decide) (by decide) rfl ?_
        refine m_goto (tgt := 98) d_Mo_findLive_151 (by decide) ?_
        rw [nI_1]
        have := ih (m + 1) u' [(3, .int x)] (by omega) (Or.inr ⟨x, rfl⟩)
        rw [hu] at this ⊢
        exact this k
      cases hl : u.2.1 m with
      | true => exact m_fl_inner hw hy hyc hmn (iN X m) 0 u (by omega) hl (fun x => next _ x (by rw [hl]; rfl))
      | false =>
        by_cases h0 : iN X m = 0
        · refine m_iload_n d_Mo_findLive_108 rfl ?_
          refine m_aload_n d_Mo_findLive_109 rfl (by first | rfl | exact vIsR_rf _) ?_
          refine m_get d_Mo_findLive_110 5 (by decide) kf_Mo_25 rfl ?_
          refine m_iload_n d_Mo_findLive_113 rfl ?_
          refine m_ald d_Mo_findLive_114 m (by decide) (by exact rfl) (by exact (show m < 24 by omega)) ?_
          rw [xLM_o (by decide) (by decide), hit.2, h0]
          refine m_icmp_ge (tgt := 148) d_Mo_findLive_115 (by decide) (fun _ => ?_) (fun c => absurd (by decide) c)
          exact next u 0 (by rw [hl]; rfl)
        · refine m_iload_n d_Mo_findLive_108 rfl ?_
          refine m_aload_n d_Mo_findLive_109 rfl (by first | rfl | exact vIsR_rf _) ?_
          refine m_get d_Mo_findLive_110 5 (by decide) kf_Mo_25 rfl ?_
          refine m_iload_n d_Mo_findLive_113 rfl ?_
          refine m_ald d_Mo_findLive_114 m (by decide) (by exact rfl) (by exact (show m < 24 by omega)) ?_
          rw [xLM_o (by decide) (by decide), hit.2]
          refine m_icmp_ge (tgt := 148) d_Mo_findLive_115 (by decide) (fun c => absurd c (nI_nle (by omega) (by omega))) (fun _ => ?_)
          refine m_aload_n d_Mo_findLive_118 rfl (by first | rfl | exact vIsR_rf _) ?_
          refine m_get d_Mo_findLive_119 10 (by decide) kf_Mo_41 rfl ?_
          refine m_iload_n d_Mo_findLive_122 rfl ?_
          refine m_zald d_Mo_findLive_123 m (by decide) (by exact rfl) (by exact (show m < 24 by omega)) ?_
          rw [xLM_10 hmn, hl]
          refine m_if_eq (tgt := 148) d_Mo_findLive_124 (by decide) (fun _ => ?_) (fun c => absurd (rfl) c)
          exact next u 0 (by rw [hl]; rfl)
    rcases hl3 with rfl | ⟨y, rfl⟩
    · refine m_iload_n d_Mo_findLive_98 rfl ?_
      refine m_aload_n d_Mo_findLive_99 rfl (by first | rfl | exact vIsR_rf _) ?_
      refine m_get d_Mo_findLive_100 17 (by decide) kf_Mo_103 rfl ?_
      refine m_icmp_ge (tgt := 154) d_Mo_findLive_103 (by decide) (fun c => absurd c ((by rw [hy]; exact nI_ge (by omega) (by omega)))) (fun _ => ?_)
      refine m_iconst (v := 0) d_Mo_findLive_106 (by decide) ?_
      refine m_istore_n d_Mo_findLive_107 (by decide) rfl ?_
      exact go
    · refine m_iload_n d_Mo_findLive_98 rfl ?_
      refine m_aload_n d_Mo_findLive_99 rfl (by first | rfl | exact vIsR_rf _) ?_
      refine m_get d_Mo_findLive_100 17 (by decide) kf_Mo_103 rfl ?_
      refine m_icmp_ge (tgt := 154) d_Mo_findLive_103 (by decide) (fun c => absurd c ((by rw [hy]; exact nI_ge (by omega) (by omega)))) (fun _ => ?_)
      refine m_iconst (v := 0) d_Mo_findLive_106 (by decide) ?_
      refine m_istore_n d_Mo_findLive_107 (by decide) rfl ?_
      exact go
theorem m_fl_pass {nc nm : Nat} (hw : wW X nc nm) (hy : Y 17 = nI nm) (hyc : Y 16 = nI nc) : ∀ f (t : tT), nc + nm < f + cntT nc nm t → ∀ lv2 : List (Nat × Value), (lv2 = [] ∨ (∃ x, lv2 = [(2, .int x)]) ∨ ∃ x y, lv2 = [(2, .int x), (3, .int y)]) → VM G M_Mo_findLive 4 160 90 ([(0, .ref am), (1, .int 1)] ++ lv2) [] am ad (xLM X t.1 t.2.1 nc nm) Y (mRet none (xLM X (fixF X nc nm f t).1 (fixF X nc nm f t).2.1 nc nm) Y) := by
  intro f
  induction f with
  | zero => intro t h0; have := cntT_le (nc := nc) (nm := nm) (t := t); omega
  | succ f ih =>
    intro t h0 lv2 hl2
    have tail : ∀ lv3 : List (Nat × Value), (lv3 = [] ∨ ∃ y, lv3 = [(3, .int y)]) → VM G M_Mo_findLive 4 160 154 ([(0, .ref am), (1, .int (bI (passF X nc nm nm 0 (t.1, t.2.1, false)).2.2)), (2, .int (nI nm))] ++ lv3) [] am ad (xLM X (passF X nc nm nm 0 (t.1, t.2.1, false)).1 (passF X nc nm nm 0 (t.1, t.2.1, false)).2.1 nc nm) Y (mRet none (xLM X (fixF X nc nm (f + 1) t).1 (fixF X nc nm (f + 1) t).2.1 nc nm) Y) := by
      intro lv3 hl3
      cases hf : (passF X nc nm nm 0 (t.1, t.2.1, false)).2.2 with
      | true =>
        rw [show fixF X nc nm (f + 1) t = fixF X nc nm f (passF X nc nm nm 0 (t.1, t.2.1, false)) by simp [fixF, hf]]
        have hc := pass_cnt hw hf
        have := fun lv2 => ih (passF X nc nm nm 0 (t.1, t.2.1, false)) (by omega) lv2
        rcases hl3 with rfl | ⟨y, rfl⟩
        · refine m_goto (tgt := 90) d_Mo_findLive_154 (by decide) ?_
          exact this [(2, .int (nI nm))] (Or.inr (Or.inl ⟨_, rfl⟩))
        · refine m_goto (tgt := 90) d_Mo_findLive_154 (by decide) ?_
          exact this [(2, .int (nI nm)), (3, .int y)] (Or.inr (Or.inr ⟨_, _, rfl⟩))
      | false =>
        rw [show fixF X nc nm (f + 1) t = passF X nc nm nm 0 (t.1, t.2.1, false) by simp [fixF, hf]]
        rcases hl3 with rfl | ⟨y, rfl⟩
        · refine m_goto (tgt := 90) d_Mo_findLive_154 (by decide) ?_
          refine m_iload_n d_Mo_findLive_90 rfl ?_
          refine m_if_eq (tgt := 157) d_Mo_findLive_91 (by decide) (fun _ => ?_) (fun c => absurd (rfl) c)
          exact m_vret d_Mo_findLive_157 rfl ⟨rfl, rfl, rfl⟩
        · refine m_goto (tgt := 90) d_Mo_findLive_154 (by decide) ?_
          refine m_iload_n d_Mo_findLive_90 rfl ?_
          refine m_if_eq (tgt := 157) d_Mo_findLive_91 (by decide) (fun _ => ?_) (fun c => absurd (rfl) c)
          exact m_vret d_Mo_findLive_157 rfl ⟨rfl, rfl, rfl⟩
    have out := m_fl_outer (G := G) (am := am) (ad := ad) (Q := mRet none (xLM X (fixF X nc nm (f + 1) t).1 (fixF X nc nm (f + 1) t).2.1 nc nm) Y) hw hy hyc nm 0 (t.1, t.2.1, false)
    rcases hl2 with rfl | ⟨x, rfl⟩ | ⟨x, y, rfl⟩
    · refine m_iload_n d_Mo_findLive_90 rfl ?_
      refine m_if_eq (tgt := 157) d_Mo_findLive_91 (by decide) (fun c => absurd c (by decide)) (fun _ => ?_)
      refine m_iconst (v := 0) d_Mo_findLive_94 (by decide) ?_
      refine m_istore_n d_Mo_findLive_95 (by decide) rfl ?_
      refine m_iconst (v := 0) d_Mo_findLive_96 (by decide) ?_
      refine m_istore_n d_Mo_findLive_97 (by decide) rfl ?_
      exact out [] (by omega) (Or.inl rfl) tail
    · refine m_iload_n d_Mo_findLive_90 rfl ?_
      refine m_if_eq (tgt := 157) d_Mo_findLive_91 (by decide) (fun c => absurd c (by decide)) (fun _ => ?_)
      refine m_iconst (v := 0) d_Mo_findLive_94 (by decide) ?_
      refine m_istore_n d_Mo_findLive_95 (by decide) rfl ?_
      refine m_iconst (v := 0) d_Mo_findLive_96 (by decide) ?_
      refine m_istore_n d_Mo_findLive_97 (by decide) rfl ?_
      exact out [] (by omega) (Or.inl rfl) tail
    · refine m_iload_n d_Mo_findLive_90 rfl ?_
      refine m_if_eq (tgt := 157) d_Mo_findLive_91 (by decide) (fun c => absurd c (by decide)) (fun _ => ?_)
      refine m_iconst (v := 0) d_Mo_findLive_94 (by decide) ?_
      refine m_istore_n d_Mo_findLive_95 (by decide) rfl ?_
      refine m_iconst (v := 0) d_Mo_findLive_96 (by decide) ?_
      refine m_istore_n d_Mo_findLive_97 (by decide) rfl ?_
      exact out [(3, .int y)] (by omega) (Or.inr ⟨y, rfl⟩) tail
theorem c_Mo_findLive {nc nm : Nat} (hw : wW X nc nm) (hy : Y 17 = nI nm) (hyc : Y 16 = nI nc) : VM G M_Mo_findLive 4 160 0 [(0, .ref am)] [] am ad X Y (mRet none (xLM X (liveF X nc nm).1 (liveF X nc nm).2.1 nc nm) Y) := by
  have h8 := hw.1.1
  have hm24 := hw.2.1
  have hof := hw.2.2.1
  have hkp := hw.2.2.2.2.1
  -- third loop: classes of kept ones
  have l3 : ∀ n m (a : Nat → Bool), m + n = nm → VM G M_Mo_findLive 4 160 53 [(0, .ref am), (1, .int (nI m))] [] am ad (xLM X a (kN X) nc nm) Y (mRet none (xLM X (fixF X nc nm 33 (mkI X n m a, kN X, true)).1 (fixF X nc nm 33 (mkI X n m a, kN X, true)).2.1 nc nm) Y) := by
    intro n
    induction n with
    | zero =>
      intro m a hm
      refine m_iload_n d_Mo_findLive_53 rfl ?_
      refine m_aload_n d_Mo_findLive_54 rfl (by first | rfl | exact vIsR_rf _) ?_
      refine m_get d_Mo_findLive_55 17 (by decide) kf_Mo_103 rfl ?_
      refine m_icmp_ge (tgt := 88) d_Mo_findLive_58 (by decide) (fun _ => ?_) (fun c => absurd ((by rw [hy]; exact nI_le (by omega) (by omega))) c)
      refine m_iconst (v := 1) d_Mo_findLive_88 (by decide) ?_
      refine m_istore_n d_Mo_findLive_89 (by decide) rfl ?_
      exact m_fl_pass hw hy hyc 33 (a, kN X, true) (by omega) [] (Or.inl rfl)
    | succ n ih =>
      intro m a hm
      have hmn : m < nm := by omega
      refine m_iload_n d_Mo_findLive_53 rfl ?_
      refine m_aload_n d_Mo_findLive_54 rfl (by first | rfl | exact vIsR_rf _) ?_
      refine m_get d_Mo_findLive_55 17 (by decide) kf_Mo_103 rfl ?_
      refine m_icmp_ge (tgt := 88) d_Mo_findLive_58 (by decide) (fun c => absurd c ((by rw [hy]; exact nI_ge (by omega) (by omega)))) (fun _ => ?_)
      refine m_aload_n d_Mo_findLive_61 rfl (by first | rfl | exact vIsR_rf _) ?_
      refine m_get d_Mo_findLive_62 9 (by decide) kf_Mo_37 rfl ?_
      refine m_iload_n d_Mo_findLive_65 rfl ?_
      refine m_zald d_Mo_findLive_66 m (by decide) (by exact rfl) (by exact (show m < 24 by omega)) ?_
      rw [xLM_o (by decide) (by decide), hkp m hmn]
      have nx := ih (m + 1) (if kN X m then va_up a (oN X m) true else a) (by omega)
      cases hk : kN X m with
      | false =>
        rw [hk, if_neg (by decide)] at nx
        refine m_if_eq (tgt := 82) d_Mo_findLive_67 (by decide) (fun _ => ?_) (fun c => absurd (rfl) c)
        refine m_iincw (w := 1) d_Mo_findLive_82 rfl (by decide) (by decide) rfl ?_
        refine m_goto (tgt := 53) d_Mo_findLive_85 (by decide) ?_
        rw [nI_1, show mkI X (n + 1) m a = mkI X n (m + 1) a by simp [mkI, hk]]
        exact nx
      | true =>
        rw [hk, if_pos rfl] at nx
        refine m_if_eq (tgt := 82) d_Mo_findLive_67 (by decide) (fun c => absurd c (by decide)) (fun _ => ?_)
        refine m_aload_n d_Mo_findLive_70 rfl (by first | rfl | exact vIsR_rf _) ?_
        refine m_get d_Mo_findLive_71 11 (by decide) kf_Mo_44 rfl ?_
        refine m_aload_n d_Mo_findLive_74 rfl (by first | rfl | exact vIsR_rf _) ?_
        refine m_get d_Mo_findLive_75 2 (by decide) kf_Mo_16 rfl ?_
        refine m_iload_n d_Mo_findLive_78 rfl ?_
        refine m_ald d_Mo_findLive_79 m (by decide) (by exact rfl) (by exact (show m < 24 by omega)) ?_
        rw [xLM_o (by decide) (by decide), (hof m hmn).2]
        refine m_iconst (v := 1) d_Mo_findLive_80 (by decide) ?_
        refine m_zast d_Mo_findLive_81 (oN X m) (by decide) (by exact rfl) (by exact (show oN X m < 8 by have := (hof m hmn).1; omega)) (by exact rfl) ?_
        rw [xLM_w11 (hof m hmn).1]
        refine m_iincw (w := 1) d_Mo_findLive_82 rfl (by decide) (by decide) rfl ?_
        refine m_goto (tgt := 53) d_Mo_findLive_85 (by decide) ?_
        rw [nI_1, show mkI X (n + 1) m a = mkI X n (m + 1) (va_up a (oN X m) true) by simp [mkI, hk]]
        exact nx
  -- second loop: what is kept is live
  have l2 : ∀ n m, m + n = nm → VM G M_Mo_findLive 4 160 25 [(0, .ref am), (1, .int (nI m))] [] am ad (xLM X (fun _ => false) (kN X) nc m) Y (mRet none (xLM X (liveF X nc nm).1 (liveF X nc nm).2.1 nc nm) Y) := by
    intro n
    induction n with
    | zero =>
      intro m hm
      have hmn : m = nm := by omega
      subst hmn
      refine m_iload_n d_Mo_findLive_25 rfl ?_
      refine m_aload_n d_Mo_findLive_26 rfl (by first | rfl | exact vIsR_rf _) ?_
      refine m_get d_Mo_findLive_27 17 (by decide) kf_Mo_103 rfl ?_
      refine m_icmp_ge (tgt := 51) d_Mo_findLive_30 (by decide) (fun _ => ?_) (fun c => absurd ((by rw [hy]; exact nI_le (by omega) (by omega))) c)
      refine m_iconst (v := 0) d_Mo_findLive_51 (by decide) ?_
      refine m_istore_n d_Mo_findLive_52 (by decide) rfl ?_
      exact l3 m 0 (fun _ => false) (by omega)
    | succ n ih =>
      intro m hm
      have hmn : m < nm := by omega
      refine m_iload_n d_Mo_findLive_25 rfl ?_
      refine m_aload_n d_Mo_findLive_26 rfl (by first | rfl | exact vIsR_rf _) ?_
      refine m_get d_Mo_findLive_27 17 (by decide) kf_Mo_103 rfl ?_
      refine m_icmp_ge (tgt := 51) d_Mo_findLive_30 (by decide) (fun c => absurd c ((by rw [hy]; exact nI_ge (by omega) (by omega)))) (fun _ => ?_)
      refine m_aload_n d_Mo_findLive_33 rfl (by first | rfl | exact vIsR_rf _) ?_
      refine m_get d_Mo_findLive_34 10 (by decide) kf_Mo_41 rfl ?_
      refine m_iload_n d_Mo_findLive_37 rfl ?_
      refine m_aload_n d_Mo_findLive_38 rfl (by first | rfl | exact vIsR_rf _) ?_
      refine m_get d_Mo_findLive_39 9 (by decide) kf_Mo_37 rfl ?_
      refine m_iload_n d_Mo_findLive_42 rfl ?_
      refine m_zald d_Mo_findLive_43 m (by decide) (by exact rfl) (by exact (show m < 24 by omega)) ?_
      rw [xLM_o (by decide) (by decide), hkp m hmn]
      refine m_zast d_Mo_findLive_44 m (by decide) (by exact rfl) (by exact (show m < 24 by omega)) (by exact (bI_np _)) ?_
      rw [xLM_step10]
      refine m_iincw (w := 1) d_Mo_findLive_45 rfl (by decide) (by decide) rfl ?_
      refine m_goto (tgt := 25) d_Mo_findLive_48 (by decide) ?_
      rw [nI_1]
      exact ih (m + 1) (by omega)
  -- first loop: nothing is made
  have l1 : ∀ n c, c + n = nc → VM G M_Mo_findLive 4 160 2 [(0, .ref am), (1, .int (nI c))] [] am ad (xLM X (fun _ => false) (kN X) c 0) Y (mRet none (xLM X (liveF X nc nm).1 (liveF X nc nm).2.1 nc nm) Y) := by
    intro n
    induction n with
    | zero =>
      intro c hc
      have hcn : c = nc := by omega
      subst hcn
      refine m_iload_n d_Mo_findLive_2 rfl ?_
      refine m_aload_n d_Mo_findLive_3 rfl (by first | rfl | exact vIsR_rf _) ?_
      refine m_get d_Mo_findLive_4 16 (by decide) kf_Mo_96 rfl ?_
      refine m_icmp_ge (tgt := 23) d_Mo_findLive_7 (by decide) (fun _ => ?_) (fun c => absurd ((by rw [hyc]; exact nI_le (by omega) (by omega))) c)
      refine m_iconst (v := 0) d_Mo_findLive_23 (by decide) ?_
      refine m_istore_n d_Mo_findLive_24 (by decide) rfl ?_
      exact l2 nm 0 (by omega)
    | succ n ih =>
      intro c hc
      refine m_iload_n d_Mo_findLive_2 rfl ?_
      refine m_aload_n d_Mo_findLive_3 rfl (by first | rfl | exact vIsR_rf _) ?_
      refine m_get d_Mo_findLive_4 16 (by decide) kf_Mo_96 rfl ?_
      refine m_icmp_ge (tgt := 23) d_Mo_findLive_7 (by decide) (fun c => absurd c ((by rw [hyc]; exact nI_ge (by omega) (by omega)))) (fun _ => ?_)
      refine m_aload_n d_Mo_findLive_10 rfl (by first | rfl | exact vIsR_rf _) ?_
      refine m_get d_Mo_findLive_11 11 (by decide) kf_Mo_44 rfl ?_
      refine m_iload_n d_Mo_findLive_14 rfl ?_
      refine m_iconst (v := 0) d_Mo_findLive_15 (by decide) ?_
      refine m_zast d_Mo_findLive_16 c (by decide) (by exact rfl) (by exact (show c < 8 by omega)) (by exact rfl) ?_
      rw [show (0 : Int32) = bI ((fun _ => false : Nat → Bool) c) from rfl, xLM_step11]
      refine m_iincw (w := 1) d_Mo_findLive_17 rfl (by decide) (by decide) rfl ?_
      refine m_goto (tgt := 2) d_Mo_findLive_20 (by decide) ?_
      rw [nI_1]
      exact ih (c + 1) (by omega)
  have := l1 nc 0 (by omega)
  rw [xLM_00] at this
  refine m_iconst (v := 0) d_Mo_findLive_0 (by decide) ?_
  refine m_istore_n d_Mo_findLive_1 (by decide) rfl ?_
  exact this
end VM6
