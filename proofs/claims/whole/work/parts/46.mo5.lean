/-! The reference: enliven, need, findLive. -/
section VM5
variable {G : vG} {am : Nat} {ad : Nat → Nat} {X : Nat → Nat → Int32} {Y : Nat → Int32}
def xLM (X : Nat → Nat → Int32) (a b : Nat → Bool) (nc nm : Nat) : Nat → Nat → Int32 := fun k i => if k = 11 ∧ i < nc then bI (a i) else if k = 10 ∧ i < nm then bI (b i) else X k i
theorem xLM_o {a b : Nat → Bool} {nc nm k i : Nat} (h1 : k ≠ 10) (h2 : k ≠ 11) : xLM X a b nc nm k i = X k i := by simp [xLM, h1, h2]
theorem xLM_11 {a b : Nat → Bool} {nc nm i : Nat} (h : i < nc) : xLM X a b nc nm 11 i = bI (a i) := by simp [xLM, h]
theorem xLM_10 {a b : Nat → Bool} {nc nm i : Nat} (h : i < nm) : xLM X a b nc nm 10 i = bI (b i) := by simp [xLM, h]
theorem xLM_w10 {a b : Nat → Bool} {nc nm m : Nat} (h : m < nm) : mW (xLM X a b nc nm) 10 m 1 = xLM X a (va_up b m true) nc nm := by
  funext k i
  by_cases hk : k = 10
  · subst hk
    by_cases hi : i = m
    · subst hi; rw [mW_at, xLM_10 h, va_up_self]; rfl
    · rw [mW_i hi]; simp [xLM, va_up_ne _ _ hi]
  · rw [mW_k hk]; simp [xLM, hk]
theorem xLM_w11 {a b : Nat → Bool} {nc nm c : Nat} (h : c < nc) : mW (xLM X a b nc nm) 11 c 1 = xLM X (va_up a c true) b nc nm := by
  funext k i
  by_cases hk : k = 11
  · subst hk
    by_cases hi : i = c
    · subst hi; rw [mW_at, xLM_11 h, va_up_self]; rfl
    · rw [mW_i hi]; simp [xLM, va_up_ne _ _ hi]
  · rw [mW_k hk]; simp [xLM, hk]
/-- what finding and being above look at is the same -/
def sameS (X' X : Nat → Nat → Int32) : Prop := ∀ i, X' 0 i = X 0 i ∧ X' 2 i = X 2 i ∧ X' 3 i = X 3 i ∧ X' 4 i = X 4 i
theorem xLM_same {a b : Nat → Bool} {nc nm : Nat} : sameS (xLM X a b nc nm) X := fun i => ⟨xLM_o (by decide) (by decide), xLM_o (by decide) (by decide), xLM_o (by decide) (by decide), xLM_o (by decide) (by decide)⟩
theorem sameS_own {X' : Nat → Nat → Int32} (h : sameS X' X) {nm : Nat} {k n r : Int32} : ownS X' nm k n r = ownS X nm k n r := by
  have : ownB X' k n r = ownB X k n r := by
    funext m
    obtain ⟨h1, h2, h3, h4⟩ := h m
    simp [ownB, h2, h3, h4]
  unfold ownS
  rw [this]
theorem sameS_p {X' : Nat → Nat → Int32} (h : sameS X' X) {c : Nat} : pS X' c = pS X c := by
  unfold pS
  rw [(h c).1]
theorem sameS_find {X' : Nat → Nat → Int32} (h : sameS X' X) {nm : Nat} {n r : Int32} : ∀ f c, findS X' nm n r f c = findS X nm n r f c
  | 0, _ => rfl
  | f + 1, c => by
    unfold findS
    rw [sameS_own h, sameS_p h]
    cases ownS X nm (nI c) n r with
    | some m => rfl
    | none => cases pS X c with
      | none => rfl
      | some d => exact sameS_find h f d
theorem sameS_above {X' : Nat → Nat → Int32} (h : sameS X' X) {k : Nat} : ∀ f c, aboveS X' k f c = aboveS X k f c
  | 0, _ => rfl
  | f + 1, c => by
    unfold aboveS
    rw [sameS_p h]
    by_cases hc : c = k
    · rw [if_pos hc, if_pos hc]
    · rw [if_neg hc, if_neg hc]
      cases pS X c with
      | none => rfl
      | some d => exact sameS_above h f d
theorem sameS_wP {X' : Nat → Nat → Int32} (h : sameS X' X) {nc : Nat} (hw : wP X nc) : wP X' nc := ⟨hw.1, fun c hc => by rw [(h c).1]; exact hw.2 c hc⟩
theorem c_Mo_enliven {nc nm k i : Nat} {a b : Nat → Bool} (hw : wP X nc) (hk : k < nc) (hi : i < 120) (hy : Y 17 = nI nm) (hm : nm ≤ 24) : VM G M_Mo_enliven 2 80 0 [(0, .ref am), (1, .int (nI k)), (2, .int (nI i))] [] am ad (xLM X a b nc nm) Y (mRet (some (.int (bI (lvF (fdS X nm i k) (a, b, false)).2.2))) (xLM X a (lvF (fdS X nm i k) (a, b, false)).2.1 nc nm) Y) := by
  have hs := xLM_same (X := X) (a := a) (b := b) (nc := nc) (nm := nm)
  refine m_aload_n d_Mo_enliven_0 rfl (by first | rfl | exact vIsR_rf _) ?_
  refine m_iload_n d_Mo_enliven_1 rfl ?_
  refine m_aload_n d_Mo_enliven_2 rfl (by first | rfl | exact vIsR_rf _) ?_
  refine m_get d_Mo_enliven_3 14 (by decide) kf_Mo_53 rfl ?_
  refine m_iload_n d_Mo_enliven_6 rfl ?_
  refine m_ald d_Mo_enliven_7 i (by decide) (by exact rfl) (by exact hi) ?_
  refine m_aload_n d_Mo_enliven_8 rfl (by first | rfl | exact vIsR_rf _) ?_
  refine m_get d_Mo_enliven_9 15 (by decide) kf_Mo_56 rfl ?_
  refine m_at 12 rfl ?_
  refine m_iload_n d_Mo_enliven_12 rfl ?_
  refine m_ald d_Mo_enliven_13 i (by decide) (by exact rfl) (by exact hi) ?_
  rw [xLM_o (by decide) (by decide), xLM_o (by decide) (by decide)]
  refine m_callV3r (M1 := M_Mo_find) d_Mo_enliven_14 km_Mo_125 kI_Mo_find ks_Mo_Mo_find (by decide) (by first | rfl | exact vRf_cat _) (by first | rfl | exact vRf_cat _) (by first | rfl | exact vRf_cat _) (by decide) kM_Mo_find ki_Mo (by decide) (by decide +kernel) (c_Mo_find (sameS_wP hs hw) hk hy hm) ?_
  rw [sameS_find hs]
  show VM G M_Mo_enliven 2 80 17 _ [.int (oI (fdS X nm i k))] am ad _ Y _
  cases hf : fdS X nm i k with
  | none =>
    refine m_istore_n d_Mo_enliven_17 (by decide) rfl ?_
    refine m_iload_n d_Mo_enliven_18 rfl ?_
    refine m_if_lt (tgt := 31) d_Mo_enliven_19 (by decide) (fun _ => ?_) (fun c => absurd (by decide) c)
    refine m_iconst (v := 0) d_Mo_enliven_31 (by decide) ?_
    exact m_iret d_Mo_enliven_32 rfl rfl ⟨rfl, rfl, rfl⟩
  | some m =>
    have hml : m < nm := findS_lt hf
    refine m_istore_n d_Mo_enliven_17 (by decide) rfl ?_
    refine m_iload_n d_Mo_enliven_18 rfl ?_
    refine m_if_lt (tgt := 31) d_Mo_enliven_19 (by decide) (fun c => absurd c (nI_pos (by omega))) (fun _ => ?_)
    refine m_aload_n d_Mo_enliven_22 rfl (by first | rfl | exact vIsR_rf _) ?_
    refine m_get d_Mo_enliven_23 10 (by decide) kf_Mo_41 rfl ?_
    refine m_iload_n d_Mo_enliven_26 rfl ?_
    refine m_zald d_Mo_enliven_27 m (by decide) (by exact rfl) (by exact (show m < 24 by omega)) ?_
    rw [xLM_10 hml]
    cases hb : b m with
    | true =>
      refine m_if_eq (tgt := 33) d_Mo_enliven_28 (by decide) (fun c => absurd c (by decide)) (fun _ => ?_)
      refine m_iconst (v := 0) d_Mo_enliven_31 (by decide) ?_
      refine m_iret d_Mo_enliven_32 rfl rfl ?_
      refine ⟨by simp [lvF, hb, bI], ?_, rfl⟩
      have e1 : va_up b m true = b := by
        funext j
        by_cases hj : j = m
        · rw [hj, va_up_self, hb]
        · rw [va_up_ne _ _ hj]
      simp [lvF, e1]
    | false =>
      refine m_if_eq (tgt := 33) d_Mo_enliven_28 (by decide) (fun _ => ?_) (fun c => absurd (rfl) c)
      refine m_aload_n d_Mo_enliven_33 rfl (by first | rfl | exact vIsR_rf _) ?_
      refine m_get d_Mo_enliven_34 10 (by decide) kf_Mo_41 rfl ?_
      refine m_iload_n d_Mo_enliven_37 rfl ?_
      refine m_iconst (v := 1) d_Mo_enliven_38 (by decide) ?_
      refine m_zast d_Mo_enliven_39 m (by decide) (by exact rfl) (by exact (show m < 24 by omega)) (by exact rfl) ?_
      rw [xLM_w10 hml]
      refine m_iconst (v := 1) d_Mo_enliven_40 (by decide) ?_
      exact m_iret d_Mo_enliven_41 rfl rfl ⟨by simp [lvF, hb, bI], rfl, rfl⟩
theorem bI_or_ne {x y : Bool} : bI (x || y) = if x then 1 else bI y := by cases x <;> rfl
theorem c_Mo_need {nc nm m i : Nat} {a b : Nat → Bool} (hw : wW X nc nm) (hm : m < nm) (hi : i < 120) (hc1 : X 12 i = 1 → cN X i < nc ∧ X 13 i = nI (cN X i)) (hy : Y 17 = nI nm) (hyc : Y 16 = nI nc) : VM G M_Mo_need 3 120 0 [(0, .ref am), (1, .int (nI m)), (2, .int (nI i))] [] am ad (xLM X a b nc nm) Y (mRet (some (.int (bI (itemF X nc nm m i (a, b, false)).2.2))) (xLM X (itemF X nc nm m i (a, b, false)).1 (itemF X nc nm m i (a, b, false)).2.1 nc nm) Y) := by
  have hwp := hw.1
  have h8 := hw.1.1
  have hm24 := hw.2.1
  have hof := hw.2.2.1 m hm
  refine m_iconst (v := 0) d_Mo_need_0 (by decide) ?_
  refine m_istore_n d_Mo_need_1 (by decide) rfl ?_
  refine m_aload_n d_Mo_need_2 rfl (by first | rfl | exact vIsR_rf _) ?_
  refine m_get d_Mo_need_3 12 (by decide) kf_Mo_47 rfl ?_
  refine m_iload_n d_Mo_need_6 rfl ?_
  refine m_ald d_Mo_need_7 i (by decide) (by exact rfl) (by exact hi) ?_
  rw [xLM_o (by decide) (by decide)]
  refine m_iconst (v := 1) d_Mo_need_8 (by decide) ?_
  refine m_icmp_ne (tgt := 68) d_Mo_need_9 (by decide) (fun c_9 => ?_) (fun c_9 => ?_)
  · -- not a call
    have loop : ∀ n k (t : tT), k + n = nc → VM G M_Mo_need 3 120 71 [(0, .ref am), (1, .int (nI m)), (2, .int (nI i)), (3, .int (bI t.2.2)), (4, .int (nI k))] [] am ad (xLM X t.1 t.2.1 nc nm) Y (mRet (some (.int (bI (if X 12 i = 2 then selfF (fdS X nm i) (fun k => aboveS X (oN X m) 9 k) n k t else t).2.2))) (xLM X (if X 12 i = 2 then selfF (fdS X nm i) (fun k => aboveS X (oN X m) 9 k) n k t else t).1 (if X 12 i = 2 then selfF (fdS X nm i) (fun k => aboveS X (oN X m) 9 k) n k t else t).2.1 nc nm) Y) := by
      intro n
      induction n with
      | zero =>
        intro k t hk
        refine m_iload d_Mo_need_71 rfl ?_
        refine m_aload_n d_Mo_need_73 rfl (by first | rfl | exact vIsR_rf _) ?_
        refine m_get d_Mo_need_74 16 (by decide) kf_Mo_96 rfl ?_
        refine m_icmp_ge (tgt := 133) d_Mo_need_77 (by decide) (fun _ => ?_) (fun c => absurd ((by rw [hyc]; exact nI_le (by omega) (by omega))) c)
        refine m_iload_n d_Mo_need_133 rfl ?_
        refine m_iret d_Mo_need_134 rfl (bI_nar _) ?_
        by_cases h2 : X 12 i = 2
        · rw [if_pos h2]; exact ⟨rfl, rfl, rfl⟩
        · rw [if_neg h2]; exact ⟨rfl, rfl, rfl⟩
      | succ n ih =>
        intro k t hk
        have hs := xLM_same (X := X) (a := t.1) (b := t.2.1) (nc := nc) (nm := nm)
        refine m_iload d_Mo_need_71 rfl ?_
        refine m_aload_n d_Mo_need_73 rfl (by first | rfl | exact vIsR_rf _) ?_
        refine m_get d_Mo_need_74 16 (by decide) kf_Mo_96 rfl ?_
        refine m_icmp_ge (tgt := 133) d_Mo_need_77 (by decide) (fun c => absurd c ((by rw [hyc]; exact nI_ge (by omega) (by omega)))) (fun _ => ?_)
        refine m_aload_n d_Mo_need_80 rfl (by first | rfl | exact vIsR_rf _) ?_
        refine m_get d_Mo_need_81 12 (by decide) kf_Mo_47 rfl ?_
        refine m_iload_n d_Mo_need_84 rfl ?_
        refine m_ald d_Mo_need_85 i (by decide) (by exact rfl) (by exact hi) ?_
        rw [xLM_o (by decide) (by decide)]
        refine m_iconst (v := 2) d_Mo_need_86 (by decide) ?_
        refine m_icmp_ne (tgt := 133) d_Mo_need_87 (by decide) (fun c_87 => ?_) (fun c_87 => ?_)
        · rw [if_neg c_87]
          refine m_iload_n d_Mo_need_133 rfl ?_
          exact m_iret d_Mo_need_134 rfl (bI_nar _) ⟨rfl, rfl, rfl⟩
        · have c2 : X 12 i = 2 := c_87
          rw [if_pos c2]
          have ih2 := fun t' => ih (k + 1) t' (by omega)
          simp only [if_pos c2] at ih2
          have next : ∀ t' : tT, t' = (if t.1 k && aboveS X (oN X m) 9 k then lvF (fdS X nm i k) t else t) → VM G M_Mo_need 3 120 127 [(0, .ref am), (1, .int (nI m)), (2, .int (nI i)), (3, .int (bI t'.2.2)), (4, .int (nI k))] [] am ad (xLM X t'.1 t'.2.1 nc nm) Y (mRet (some (.int (bI (selfF (fdS X nm i) (fun k => aboveS X (oN X m) 9 k) (n + 1) k t).2.2))) (xLM X (selfF (fdS X nm i) (fun k => aboveS X (oN X m) 9 k) (n + 1) k t).1 (selfF (fdS X nm i) (fun k => aboveS X (oN X m) 9 k) (n + 1) k t).2.1 nc nm) Y) := by
            intro t' ht
            refine m_iincw (w := 1) d_Mo_need_127 rfl (by decide) (by decide) rfl ?_
            refine m_goto (tgt := 71) d_Mo_need_130 (by decide) ?_
            rw [nI_1]
            have := ih2 t'
            rw [ht] at this ⊢
            exact this
          refine m_aload_n d_Mo_need_90 rfl (by first | rfl | exact vIsR_rf _) ?_
          refine m_get d_Mo_need_91 11 (by decide) kf_Mo_44 rfl ?_
          refine m_iload d_Mo_need_94 rfl ?_
          refine m_zald d_Mo_need_96 k (by decide) (by exact rfl) (by exact (show k < 8 by omega)) ?_
          rw [xLM_11 (by omega)]
          refine m_if_eq (tgt := 127) d_Mo_need_97 (by decide) (fun c_97 => ?_) (fun c_97 => ?_)
          · exact next t (by simp [(bI_0 _).mp c_97])
          · have hk1 := nbI c_97
            refine m_aload_n d_Mo_need_100 rfl (by first | rfl | exact vIsR_rf _) ?_
            refine m_aload_n d_Mo_need_101 rfl (by first | rfl | exact vIsR_rf _) ?_
            refine m_get d_Mo_need_102 2 (by decide) kf_Mo_16 rfl ?_
            refine m_iload_n d_Mo_need_105 rfl ?_
            refine m_ald d_Mo_need_106 m (by decide) (by exact rfl) (by exact (show m < 24 by omega)) ?_
            refine m_iload d_Mo_need_107 rfl ?_
            rw [xLM_o (by decide) (by decide), hof.2]
            refine m_callV2r (M1 := M_Mo_above) d_Mo_need_109 km_Mo_128 kI_Mo_above ks_Mo_Mo_above (by decide) (by first | rfl | exact vRf_cat _) (by first | rfl | exact vRf_cat _) (by decide) kM_Mo_above ki_Mo (by decide) (by decide +kernel) (c_Mo_above (sameS_wP hs hwp) hof.1 (by omega)) ?_
            rw [sameS_above hs]
            refine m_if_eq (tgt := 127) d_Mo_need_112 (by decide) (fun c_112 => ?_) (fun c_112 => ?_)
            · exact next t (by simp [(bI_0 _).mp c_112])
            · have hab := nbI c_112
              have e1 : (if t.1 k && aboveS X (oN X m) 9 k then lvF (fdS X nm i k) t else t) = lvF (fdS X nm i k) t := by simp [hk1, hab]
              have e2 := lvF_fl (o := fdS X nm i k) (t := t)
              have e3 : (lvF (fdS X nm i k) (t.1, t.2.1, false)).1 = t.1 := by cases fdS X nm i k <;> rfl
              refine m_aload_n d_Mo_need_115 rfl (by first | rfl | exact vIsR_rf _) ?_
              refine m_iload d_Mo_need_116 rfl ?_
              refine m_iload_n d_Mo_need_118 rfl ?_
              refine m_callV2r (M1 := M_Mo_enliven) d_Mo_need_119 km_Mo_132 kI_Mo_enliven ks_Mo_Mo_enliven (by decide) (by first | rfl | exact vRf_cat _) (by first | rfl | exact vRf_cat _) (by decide) kM_Mo_enliven ki_Mo (by decide) (by decide +kernel) (c_Mo_enliven hwp (by omega) hi hy hm24) ?_
              refine m_if_eq (tgt := 127) d_Mo_need_122 (by decide) (fun c_122 => ?_) (fun c_122 => ?_)
              · have f0 := (bI_0 _).mp c_122
                have := next (lvF (fdS X nm i k) t) e1.symm
                rw [e2, e3, f0, Bool.or_false] at this
                exact this
              · have f0 := nbI c_122
                have := next (lvF (fdS X nm i k) t) e1.symm
                rw [e2, e3, f0, Bool.or_true] at this
                refine m_iconst (v := 1) d_Mo_need_125 (by decide) ?_
                refine m_istore_n d_Mo_need_126 (by decide) rfl ?_
                exact this
    have hn1 : ¬ X 12 i = 1 := c_9
    have := loop nc 0 (a, b, false) (by omega)
    refine m_iconst (v := 0) d_Mo_need_68 (by decide) ?_
    refine m_istore d_Mo_need_69 (by decide) rfl ?_
    rw [show itemF X nc nm m i (a, b, false) = (if X 12 i = 2 then selfF (fdS X nm i) (fun k => aboveS X (oN X m) 9 k) nc 0 (a, b, false) else (a, b, false)) by simp [itemF, hn1]]
    exact this
  · -- a call
    have hk1 : X 12 i = 1 := c_9
    obtain ⟨hc, hce⟩ := hc1 hk1
    rw [show itemF X nc nm m i (a, b, false) = lvF (fdS X nm i (cN X i)) (mkF (cN X i) (a, b, false)) by simp [itemF, hk1]]
    have e2 := lvF_fl (o := fdS X nm i (cN X i)) (t := mkF (cN X i) (a, b, false))
    have e3 : (lvF (fdS X nm i (cN X i)) ((mkF (cN X i) (a, b, false)).1, (mkF (cN X i) (a, b, false)).2.1, false)).1 = va_up a (cN X i) true := by cases fdS X nm i (cN X i) <;> rfl
    have t31 : VM G M_Mo_need 3 120 31 [(0, .ref am), (1, .int (nI m)), (2, .int (nI i)), (3, .int 0)] [.int (bI (!a (cN X i)))] am ad (xLM X a b nc nm) Y (mRet (some (.int (bI (lvF (fdS X nm i (cN X i)) (mkF (cN X i) (a, b, false))).2.2))) (xLM X (lvF (fdS X nm i (cN X i)) (mkF (cN X i) (a, b, false))).1 (lvF (fdS X nm i (cN X i)) (mkF (cN X i) (a, b, false))).2.1 nc nm) Y) := by
      refine m_istore_n d_Mo_need_31 (by decide) rfl ?_
      refine m_aload_n d_Mo_need_32 rfl (by first | rfl | exact vIsR_rf _) ?_
      refine m_get d_Mo_need_33 11 (by decide) kf_Mo_44 rfl ?_
      refine m_aload_n d_Mo_need_36 rfl (by first | rfl | exact vIsR_rf _) ?_
      refine m_get d_Mo_need_37 13 (by decide) kf_Mo_50 rfl ?_
      refine m_iload_n d_Mo_need_40 rfl ?_
      refine m_ald d_Mo_need_41 i (by decide) (by exact rfl) (by exact hi) ?_
      rw [xLM_o (by decide) (by decide), hce]
      refine m_iconst (v := 1) d_Mo_need_42 (by decide) ?_
      refine m_zast d_Mo_need_43 (cN X i) (by decide) (by exact rfl) (by exact (show cN X i < 8 by omega)) (by exact rfl) ?_
      rw [xLM_w11 hc]
      refine m_aload_n d_Mo_need_44 rfl (by first | rfl | exact vIsR_rf _) ?_
      refine m_aload_n d_Mo_need_45 rfl (by first | rfl | exact vIsR_rf _) ?_
      refine m_get d_Mo_need_46 13 (by decide) kf_Mo_50 rfl ?_
      refine m_iload_n d_Mo_need_49 rfl ?_
      refine m_ald d_Mo_need_50 i (by decide) (by exact rfl) (by exact hi) ?_
      rw [xLM_o (by decide) (by decide), hce]
      refine m_iload_n d_Mo_need_51 rfl ?_
      refine m_callV2r (M1 := M_Mo_enliven) d_Mo_need_52 km_Mo_132 kI_Mo_enliven ks_Mo_Mo_enliven (by decide) (by first | rfl | exact vRf_cat _) (by first | rfl | exact vRf_cat _) (by decide) kM_Mo_enliven ki_Mo (by decide) (by decide +kernel) (c_Mo_enliven hwp hc hi hy hm24) ?_
      rw [e2, e3]
      refine m_if_ne (tgt := 62) d_Mo_need_55 (by decide) (fun c_55 => ?_) (fun c_55 => ?_)
      · have f0 := nbI c_55
        refine m_iconst (v := 1) d_Mo_need_62 (by decide) ?_
        refine m_goto (tgt := 67) d_Mo_need_63 (by decide) ?_
        exact m_iret d_Mo_need_67 rfl rfl ⟨by rw [show (lvF (fdS X nm i (cN X i)) ((mkF (cN X i) (a, b, false)).1, (mkF (cN X i) (a, b, false)).2.1, false)).2.2 = true from f0, Bool.or_true]; rfl, rfl, rfl⟩
      · have f0 := (bI_0 _).mp c_55
        refine m_iload_n d_Mo_need_58 rfl ?_
        refine m_if_eq (tgt := 66) d_Mo_need_59 (by decide) (fun c_59 => ?_) (fun c_59 => ?_)
        · have f1 := (bI_0 _).mp c_59
          refine m_iconst (v := 0) d_Mo_need_66 (by decide) ?_
          exact m_iret d_Mo_need_67 rfl rfl ⟨by rw [show (lvF (fdS X nm i (cN X i)) ((mkF (cN X i) (a, b, false)).1, (mkF (cN X i) (a, b, false)).2.1, false)).2.2 = false from f0, Bool.or_false]; simp [mkF, f1, bI], rfl, rfl⟩
        · have f1 := nbI c_59
          refine m_iconst (v := 1) d_Mo_need_62 (by decide) ?_
          refine m_goto (tgt := 67) d_Mo_need_63 (by decide) ?_
          exact m_iret d_Mo_need_67 rfl rfl ⟨by rw [show (lvF (fdS X nm i (cN X i)) ((mkF (cN X i) (a, b, false)).1, (mkF (cN X i) (a, b, false)).2.1, false)).2.2 = false from f0, Bool.or_false]; simp [mkF, f1, bI], rfl, rfl⟩
    refine m_aload_n d_Mo_need_12 rfl (by first | rfl | exact vIsR_rf _) ?_
    refine m_get d_Mo_need_13 11 (by decide) kf_Mo_44 rfl ?_
    refine m_aload_n d_Mo_need_16 rfl (by first | rfl | exact vIsR_rf _) ?_
    refine m_get d_Mo_need_17 13 (by decide) kf_Mo_50 rfl ?_
    refine m_iload_n d_Mo_need_20 rfl ?_
    refine m_ald d_Mo_need_21 i (by decide) (by exact rfl) (by exact hi) ?_
    rw [xLM_o (by decide) (by decide), hce]
    refine m_zald d_Mo_need_22 (cN X i) (by decide) (by exact rfl) (by exact (show cN X i < 8 by omega)) ?_
    rw [xLM_11 hc]
    refine m_if_ne (tgt := 30) d_Mo_need_23 (by decide) (fun c_23 => ?_) (fun c_23 => ?_)
    · rw [nbI c_23] at t31
      refine m_iconst (v := 0) d_Mo_need_30 (by decide) ?_
      exact t31
    · rw [(bI_0 _).mp c_23] at t31
      refine m_iconst (v := 1) d_Mo_need_26 (by decide) ?_
      refine m_goto (tgt := 31) d_Mo_need_27 (by decide) ?_
      exact t31
end VM5
