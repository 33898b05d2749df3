/-! The reference: count. -/
section VM7
variable {G : vG} {am : Nat} {ad : Nat → Nat} {X : Nat → Nat → Int32} {Y : Nat → Int32}
theorem nI_lt10 {w : Int32} (h : ¬ w < 10) : ∃ c : Nat, w - 10 = nI c ∧ w = nI (10 + c) ∧ 10 + c < 2 ^ 31 := by
  have h0 : ¬ w < 0 := fun z => h (Int32.lt_trans z (by decide))
  obtain ⟨j, hj, rfl⟩ := nI_of h0
  have h1 : 10 ≤ j := by
    rcases Nat.lt_or_ge j 10 with q | q
    · exact absurd (nI_lt (a := j) (b := 10) q (by decide)) h
    · exact q
  refine ⟨j - 10, ?_, by rw [show 10 + (j - 10) = j by omega], by omega⟩
  exact pk_sub (a := j) (b := 10) h1
theorem m_count_out {w : Int32} {nc : Nat} {Q : vR → (Nat → Nat → Int32) → (Nat → Int32) → Prop} (hyc : Y 16 = nI nc) (hc8 : nc ≤ 8) (hno : ∀ c, c < nc → w ≠ nI (10 + c)) (k : VM G M_Mo_count 5 200 32 [(0, .ref am), (1, .int w)] [] am ad X (va_up Y 19 0) Q) : VM G M_Mo_count 5 200 0 [(0, .ref am), (1, .int w)] [] am ad X Y Q := by
  refine m_aload_n d_Mo_count_0 rfl (by first | rfl | exact vIsR_rf _) ?_
  refine m_iconst (v := 0) d_Mo_count_1 (by decide) ?_
  refine m_putI d_Mo_count_2 19 (by decide) kf_Mo_92 ?_
  refine m_iload_n d_Mo_count_5 rfl ?_
  refine m_bipush (v := 10) d_Mo_count_6 (by decide) ?_
  refine m_icmp_lt (tgt := 32) d_Mo_count_8 (by decide) (fun c_8 => ?_) (fun c_8 => ?_)
  · exact k
  · obtain ⟨c, e1, e2, e3⟩ := nI_lt10 c_8
    refine m_aload_n d_Mo_count_11 rfl (by first | rfl | exact vIsR_rf _) ?_
    refine m_iload_n d_Mo_count_12 rfl ?_
    refine m_bipush (v := 10) d_Mo_count_13 (by decide) ?_
    refine m_isub d_Mo_count_15 ?_
    refine m_callV1r (M1 := M_Mo_isClass) d_Mo_count_16 km_Mo_106 kI_Mo_isClass ks_Mo_Mo_isClass (by decide) (by first | rfl | exact vRf_cat _) (by decide) kM_Mo_isClass ki_Mo (by decide) (by decide +kernel) c_Mo_isClass ?_
    rw [show inB (w - 10) 0 (va_up Y 19 0 16 - 1) = false by
      rw [show va_up Y 19 0 16 = nI nc from hyc]
      cases hb : inB (w - 10) 0 (nI nc - 1) with
      | false => rfl
      | true =>
        obtain ⟨c', h1, h2⟩ := (inB_iff (by omega)).mp hb
        rw [e1] at h2
        have := (nI_eq (by omega) (by omega)).mp h2
        subst this
        exact absurd e2 (hno c h1)]
    refine m_if_eq (tgt := 32) d_Mo_count_19 (by decide) (fun _ => ?_) (fun c => absurd (rfl) c)
    exact k
theorem c_Mo_count_par {nc c : Nat} (hyc : Y 16 = nI nc) (hc8 : nc ≤ 8) (hc : c < nc) : VM G M_Mo_count 5 200 0 [(0, .ref am), (1, .int (nI (10 + c)))] [] am ad X Y (mRet (some (.int (X 0 c))) X (va_up Y 19 0)) := by
  have e1 : nI (10 + c) - 10 = nI c := by
    have := pk_sub (a := 10 + c) (b := 10) (by omega)
    rw [show 10 + c - 10 = c by omega] at this
    exact this
  refine m_aload_n d_Mo_count_0 rfl (by first | rfl | exact vIsR_rf _) ?_
  refine m_iconst (v := 0) d_Mo_count_1 (by decide) ?_
  refine m_putI d_Mo_count_2 19 (by decide) kf_Mo_92 ?_
  refine m_iload_n d_Mo_count_5 rfl ?_
  refine m_bipush (v := 10) d_Mo_count_6 (by decide) ?_
  refine m_icmp_lt (tgt := 32) d_Mo_count_8 (by decide) (fun c => absurd c (nI_nlt (b := 10) (by omega) (by omega))) (fun _ => ?_)
  refine m_aload_n d_Mo_count_11 rfl (by first | rfl | exact vIsR_rf _) ?_
  refine m_iload_n d_Mo_count_12 rfl ?_
  refine m_bipush (v := 10) d_Mo_count_13 (by decide) ?_
  refine m_isub d_Mo_count_15 ?_
  refine m_callV1r (M1 := M_Mo_isClass) d_Mo_count_16 km_Mo_106 kI_Mo_isClass ks_Mo_Mo_isClass (by decide) (by first | rfl | exact vRf_cat _) (by decide) kM_Mo_isClass ki_Mo (by decide) (by decide +kernel) c_Mo_isClass ?_
  rw [show inB (nI (10 + c) - 10) 0 (va_up Y 19 0 16 - 1) = true by rw [show va_up Y 19 0 16 = nI nc from hyc, e1]; exact (inB_iff (by omega)).mpr ⟨c, hc, rfl⟩]
  refine m_if_eq (tgt := 32) d_Mo_count_19 (by decide) (fun c => absurd c (by decide)) (fun _ => ?_)
  refine m_aload_n d_Mo_count_22 rfl (by first | rfl | exact vIsR_rf _) ?_
  refine m_get d_Mo_count_23 0 (by decide) kf_Mo_7 rfl ?_
  refine m_iload_n d_Mo_count_26 rfl ?_
  refine m_bipush (v := 10) d_Mo_count_27 (by decide) ?_
  refine m_isub d_Mo_count_29 ?_
  rw [e1]
  refine m_ald d_Mo_count_30 c (by decide) (by exact rfl) (by exact (show c < 8 by omega)) ?_
  exact m_iret d_Mo_count_31 rfl rfl ⟨rfl, rfl, rfl⟩
theorem c_Mo_count_out {w : Int32} {nc : Nat} (hyc : Y 16 = nI nc) (hc8 : nc ≤ 8) (hno : ∀ c, c < nc → w ≠ nI (10 + c)) (hw : inB w 0 4 = false) : VM G M_Mo_count 5 200 0 [(0, .ref am), (1, .int w)] [] am ad X Y (mRet (some (.int (-2))) X (va_up Y 19 0)) := by
  refine m_count_out hyc hc8 hno ?_
  refine m_iload_n d_Mo_count_32 rfl ?_
  refine m_iconst (v := 0) d_Mo_count_33 (by decide) ?_
  refine m_iconst (v := 4) d_Mo_count_34 (by decide) ?_
  refine m_callS3r (M1 := M_Mo_in) d_Mo_count_35 km_Mo_99 kS_Mo_in (by decide) (by first | rfl | exact vRf_cat _) (by first | rfl | exact vRf_cat _) (by first | rfl | exact vRf_cat _) (by decide) kM_Mo_in ki_Mo (by decide) (by decide +kernel) c_Mo_in ?_
  rw [show (decide (0 ≤ w) && decide (w ≤ 4)) = false from hw]
  refine m_if_ne (tgt := 44) d_Mo_count_38 (by decide) (fun c => absurd (rfl) c) (fun _ => ?_)
  refine m_bipush (v := (-2)) d_Mo_count_41 (by decide) ?_
  exact m_iret d_Mo_count_43 rfl rfl ⟨rfl, rfl, rfl⟩
theorem c_Mo_count_in {nc nm w : Nat} (hW : wW X nc nm) (hy : Y 17 = nI nm) (hyc : Y 16 = nI nc) (hw : w < 5) : VM G M_Mo_count 5 200 0 [(0, .ref am), (1, .int (nI w))] [] am ad X Y (mRet (some (.int (if w = 0 then nI nc else if w = 1 then nI nm else if w = 4 then Y 18 else if w = 2 then nI (cntB (liveF X nc nm).2.1 nm) else nI (cntB (liveF X nc nm).1 nc)))) (xLM X (liveF X nc nm).1 (liveF X nc nm).2.1 nc nm) (va_up Y 19 0)) := by
  have h8 := hW.1.1
  have h24 := hW.2.1
  have hy2 : va_up Y 19 0 17 = nI nm := hy
  have hyc2 : va_up Y 19 0 16 = nI nc := hyc
  refine m_count_out hyc h8 (fun c hc z => by have := (nI_eq (by omega) (by omega)).mp z; omega) ?_
  refine m_iload_n d_Mo_count_32 rfl ?_
  refine m_iconst (v := 0) d_Mo_count_33 (by decide) ?_
  refine m_iconst (v := 4) d_Mo_count_34 (by decide) ?_
  refine m_callS3r (M1 := M_Mo_in) d_Mo_count_35 km_Mo_99 kS_Mo_in (by decide) (by first | rfl | exact vRf_cat _) (by first | rfl | exact vRf_cat _) (by first | rfl | exact vRf_cat _) (by decide) kM_Mo_in ki_Mo (by decide) (by decide +kernel) c_Mo_in ?_
  rw [show (decide (0 ≤ nI w) && decide (nI w ≤ 4)) = true from (inB_of 4 (n := 4) rfl (by decide)).mpr ⟨w, by omega, rfl⟩]
  refine m_if_ne (tgt := 44) d_Mo_count_38 (by decide) (fun _ => ?_) (fun c => absurd c (by decide))
  refine m_aload_n d_Mo_count_44 rfl (by first | rfl | exact vIsR_rf _) ?_
  refine m_callV0u (M1 := M_Mo_findLive) d_Mo_count_45 km_Mo_138 kI_Mo_findLive ks_Mo_Mo_findLive (by decide) (by decide) kM_Mo_findLive ki_Mo (by decide) (by decide +kernel) (c_Mo_findLive hW hy2 hyc2) ?_
  refine m_iconst (v := 0) d_Mo_count_48 (by decide) ?_
  refine m_istore_n d_Mo_count_49 (by decide) rfl ?_
  have b1 : cntB (liveF X nc nm).2.1 nm ≤ nm := cntB_le _ _
  have b2 : cntB (liveF X nc nm).1 nc ≤ nc := cntB_le _ _
  -- the end: which number
  have fin : ∀ x y : Int32, (w = 2 → x = nI (cntB (liveF X nc nm).2.1 nm)) → (w = 3 → x = nI (cntB (liveF X nc nm).1 nc)) → VM G M_Mo_count 5 200 116 [(0, .ref am), (1, .int (nI w)), (2, .int x), (3, .int y)] [] am ad (xLM X (liveF X nc nm).1 (liveF X nc nm).2.1 nc nm) (va_up Y 19 0) (mRet (some (.int (if w = 0 then nI nc else if w = 1 then nI nm else if w = 4 then Y 18 else if w = 2 then nI (cntB (liveF X nc nm).2.1 nm) else nI (cntB (liveF X nc nm).1 nc)))) (xLM X (liveF X nc nm).1 (liveF X nc nm).2.1 nc nm) (va_up Y 19 0)) := by
    intro x y h2 h3
    rcases (show w = 0 ∨ w = 1 ∨ w = 2 ∨ w = 3 ∨ w = 4 by omega) with rfl | rfl | rfl | rfl | rfl
    · refine m_iload_n d_Mo_count_116 rfl ?_
      refine m_if_ne (tgt := 127) d_Mo_count_117 (by decide) (fun c => absurd (rfl) c) (fun _ => ?_)
      refine m_aload_n d_Mo_count_120 rfl (by first | rfl | exact vIsR_rf _) ?_
      refine m_get d_Mo_count_121 16 (by decide) kf_Mo_96 rfl ?_
      refine m_goto (tgt := 152) d_Mo_count_124 (by decide) ?_
      exact m_iret d_Mo_count_152 rfl rfl ⟨by rw [if_pos rfl]; exact congrArg (fun z => (Sum.inl (some (Value.int z)) : vR)) hyc2, rfl, rfl⟩
    · refine m_iload_n d_Mo_count_116 rfl ?_
      refine m_if_ne (tgt := 127) d_Mo_count_117 (by decide) (fun _ => ?_) (fun c => absurd c (by decide))
      refine m_iload_n d_Mo_count_127 rfl ?_
      refine m_iconst (v := 1) d_Mo_count_128 (by decide) ?_
      refine m_icmp_ne (tgt := 139) d_Mo_count_129 (by decide) (fun c => absurd (rfl) c) (fun _ => ?_)
      refine m_aload_n d_Mo_count_132 rfl (by first | rfl | exact vIsR_rf _) ?_
      refine m_get d_Mo_count_133 17 (by decide) kf_Mo_103 rfl ?_
      refine m_goto (tgt := 152) d_Mo_count_136 (by decide) ?_
      exact m_iret d_Mo_count_152 rfl rfl ⟨by rw [if_neg (by decide), if_pos rfl]; exact congrArg (fun z => (Sum.inl (some (Value.int z)) : vR)) hy2, rfl, rfl⟩
    · refine m_iload_n d_Mo_count_116 rfl ?_
      refine m_if_ne (tgt := 127) d_Mo_count_117 (by decide) (fun _ => ?_) (fun c => absurd c (by decide))
      refine m_iload_n d_Mo_count_127 rfl ?_
      refine m_iconst (v := 1) d_Mo_count_128 (by decide) ?_
      refine m_icmp_ne (tgt := 139) d_Mo_count_129 (by decide) (fun _ => ?_) (fun c => absurd c (by decide))
      refine m_iload_n d_Mo_count_139 rfl ?_
      refine m_iconst (v := 4) d_Mo_count_140 (by decide) ?_
      refine m_icmp_ne (tgt := 151) d_Mo_count_141 (by decide) (fun _ => ?_) (fun c => absurd c (by decide))
      refine m_iload_n d_Mo_count_151 rfl ?_
      exact m_iret d_Mo_count_152 rfl rfl ⟨by rw [h2 rfl]; rfl, rfl, rfl⟩
    · refine m_iload_n d_Mo_count_116 rfl ?_
      refine m_if_ne (tgt := 127) d_Mo_count_117 (by decide) (fun _ => ?_) (fun c => absurd c (by decide))
      refine m_iload_n d_Mo_count_127 rfl ?_
      refine m_iconst (v := 1) d_Mo_count_128 (by decide) ?_
      refine m_icmp_ne (tgt := 139) d_Mo_count_129 (by decide) (fun _ => ?_) (fun c => absurd c (by decide))
      refine m_iload_n d_Mo_count_139 rfl ?_
      refine m_iconst (v := 4) d_Mo_count_140 (by decide) ?_
      refine m_icmp_ne (tgt := 151) d_Mo_count_141 (by decide) (fun _ => ?_) (fun c => absurd c (by decide))
      refine m_iload_n d_Mo_count_151 rfl ?_
      exact m_iret d_Mo_count_152 rfl rfl ⟨by rw [h3 rfl]; rfl, rfl, rfl⟩
    · refine m_iload_n d_Mo_count_116 rfl ?_
      refine m_if_ne (tgt := 127) d_Mo_count_117 (by decide) (fun _ => ?_) (fun c => absurd c (by decide))
      refine m_iload_n d_Mo_count_127 rfl ?_
      refine m_iconst (v := 1) d_Mo_count_128 (by decide) ?_
      refine m_icmp_ne (tgt := 139) d_Mo_count_129 (by decide) (fun _ => ?_) (fun c => absurd c (by decide))
      refine m_iload_n d_Mo_count_139 rfl ?_
      refine m_iconst (v := 4) d_Mo_count_140 (by decide) ?_
      refine m_icmp_ne (tgt := 151) d_Mo_count_141 (by decide) (fun c => absurd (rfl) c) (fun _ => ?_)
      refine m_aload_n d_Mo_count_144 rfl (by first | rfl | exact vIsR_rf _) ?_
      refine m_get d_Mo_count_145 18 (by decide) kf_Mo_145 rfl ?_
      refine m_goto (tgt := 152) d_Mo_count_148 (by decide) ?_
      exact m_iret d_Mo_count_152 rfl rfl ⟨rfl, rfl, rfl⟩
  -- the second loop
  have l2 : ∀ n c (x : Int32), c + n = nc → (w = 3 → x = nI (cntB (liveF X nc nm).1 c)) → (w = 2 → x = nI (cntB (liveF X nc nm).2.1 nm)) → VM G M_Mo_count 5 200 85 [(0, .ref am), (1, .int (nI w)), (2, .int x), (3, .int (nI c))] [] am ad (xLM X (liveF X nc nm).1 (liveF X nc nm).2.1 nc nm) (va_up Y 19 0) (mRet (some (.int (if w = 0 then nI nc else if w = 1 then nI nm else if w = 4 then Y 18 else if w = 2 then nI (cntB (liveF X nc nm).2.1 nm) else nI (cntB (liveF X nc nm).1 nc)))) (xLM X (liveF X nc nm).1 (liveF X nc nm).2.1 nc nm) (va_up Y 19 0)) := by
    intro n
    induction n with
    | zero =>
      intro c x hc h3 h2
      have : c = nc := by omega
      subst this
      refine m_iload_n d_Mo_count_85 rfl ?_
      refine m_aload_n d_Mo_count_86 rfl (by first | rfl | exact vIsR_rf _) ?_
      refine m_get d_Mo_count_87 16 (by decide) kf_Mo_96 rfl ?_
      refine m_icmp_ge (tgt := 116) d_Mo_count_90 (by decide) (fun _ => ?_) (fun c => absurd ((by rw [hyc2]; exact nI_le (by omega) (by omega))) c)
      exact fin x _ h2 h3
    | succ n ih =>
      intro c x hc h3 h2
      refine m_iload_n d_Mo_count_85 rfl ?_
      refine m_aload_n d_Mo_count_86 rfl (by first | rfl | exact vIsR_rf _) ?_
      refine m_get d_Mo_count_87 16 (by decide) kf_Mo_96 rfl ?_
      refine m_icmp_ge (tgt := 116) d_Mo_count_90 (by decide) (fun c => absurd c ((by rw [hyc2]; exact nI_ge (by omega) (by omega)))) (fun _ => ?_)
      by_cases hw3 : w = 3
      · subst hw3
        have hcl := cntB_le (liveF X nc nm).1 c
        refine m_iload_n d_Mo_count_93 rfl ?_
        refine m_iconst (v := 3) d_Mo_count_94 (by decide) ?_
        refine m_icmp_ne (tgt := 116) d_Mo_count_95 (by decide) (fun c => absurd (rfl) c) (fun _ => ?_)
        refine m_aload_n d_Mo_count_98 rfl (by first | rfl | exact vIsR_rf _) ?_
        refine m_get d_Mo_count_99 11 (by decide) kf_Mo_44 rfl ?_
        refine m_iload_n d_Mo_count_102 rfl ?_
        refine m_zald d_Mo_count_103 c (by decide) (by exact rfl) (by exact (show c < 8 by omega)) ?_
        rw [xLM_11 (by omega)]
        refine m_if_eq (tgt := 110) d_Mo_count_104 (by decide) (fun c_104 => ?_) (fun c_104 => ?_)
        · refine m_iincw (w := 1) d_Mo_count_110 rfl (by decide) (by decide) rfl ?_
          refine m_goto (tgt := 85) d_Mo_count_113 (by decide) ?_
          rw [nI_1]
          exact ih (c + 1) x (by omega) (fun z => by rw [h3 z]; simp [cntB, (bI_0 _).mp c_104]) h2
        · refine m_iincw (w := 1) d_Mo_count_107 rfl (by decide) (by decide) rfl ?_
          refine m_iincw (w := 1) d_Mo_count_110 rfl (by decide) (by decide) rfl ?_
          refine m_goto (tgt := 85) d_Mo_count_113 (by decide) ?_
          rw [nI_1]
          exact ih (c + 1) (x + 1) (by omega) (fun z => by rw [h3 z, nI_1]; simp [cntB, nbI c_104]) (fun z => by cases z)
      · refine m_iload_n d_Mo_count_93 rfl ?_
        refine m_iconst (v := 3) d_Mo_count_94 (by decide) ?_
        refine m_icmp_ne (tgt := 116) d_Mo_count_95 (by decide) (fun _ => ?_) (fun c => absurd c ((fun z => hw3 ((nI_eq (b := 3) (by omega) (by omega)).mp z))))
        exact fin x _ h2 (fun z => absurd z hw3)
  -- the first loop
  have l1 : ∀ n m (x : Int32), m + n = nm → (w = 2 → x = nI (cntB (liveF X nc nm).2.1 m)) → (w = 3 → x = 0) → VM G M_Mo_count 5 200 52 [(0, .ref am), (1, .int (nI w)), (2, .int x), (3, .int (nI m))] [] am ad (xLM X (liveF X nc nm).1 (liveF X nc nm).2.1 nc nm) (va_up Y 19 0) (mRet (some (.int (if w = 0 then nI nc else if w = 1 then nI nm else if w = 4 then Y 18 else if w = 2 then nI (cntB (liveF X nc nm).2.1 nm) else nI (cntB (liveF X nc nm).1 nc)))) (xLM X (liveF X nc nm).1 (liveF X nc nm).2.1 nc nm) (va_up Y 19 0)) := by
    intro n
    induction n with
    | zero =>
      intro m x hm h2 h3
      have : m = nm := by omega
      subst this
      refine m_iload_n d_Mo_count_52 rfl ?_
      refine m_aload_n d_Mo_count_53 rfl (by first | rfl | exact vIsR_rf _) ?_
      refine m_get d_Mo_count_54 17 (by decide) kf_Mo_103 rfl ?_
      refine m_icmp_ge (tgt := 83) d_Mo_count_57 (by decide) (fun _ => ?_) (fun c => absurd ((by rw [hy2]; exact nI_le (by omega) (by omega))) c)
      refine m_iconst (v := 0) d_Mo_count_83 (by decide) ?_
      refine m_istore_n d_Mo_count_84 (by decide) rfl ?_
      exact l2 nc 0 x (by omega) (fun z => by rw [h3 z]; rfl) h2
    | succ n ih =>
      intro m x hm h2 h3
      refine m_iload_n d_Mo_count_52 rfl ?_
      refine m_aload_n d_Mo_count_53 rfl (by first | rfl | exact vIsR_rf _) ?_
      refine m_get d_Mo_count_54 17 (by decide) kf_Mo_103 rfl ?_
      refine m_icmp_ge (tgt := 83) d_Mo_count_57 (by decide) (fun c => absurd c ((by rw [hy2]; exact nI_ge (by omega) (by omega)))) (fun _ => ?_)
      by_cases hw2 : w = 2
      · subst hw2
        have hcl := cntB_le (liveF X nc nm).2.1 m
        refine m_iload_n d_Mo_count_60 rfl ?_
        refine m_iconst (v := 2) d_Mo_count_61 (by decide) ?_
        refine m_icmp_ne (tgt := 83) d_Mo_count_62 (by decide) (fun c => absurd (rfl) c) (fun _ => ?_)
        refine m_aload_n d_Mo_count_65 rfl (by first | rfl | exact vIsR_rf _) ?_
        refine m_get d_Mo_count_66 10 (by decide) kf_Mo_41 rfl ?_
        refine m_iload_n d_Mo_count_69 rfl ?_
        refine m_zald d_Mo_count_70 m (by decide) (by exact rfl) (by exact (show m < 24 by omega)) ?_
        rw [xLM_10 (by omega)]
        refine m_if_eq (tgt := 77) d_Mo_count_71 (by decide) (fun c_71 => ?_) (fun c_71 => ?_)
        · refine m_iincw (w := 1) d_Mo_count_77 rfl (by decide) (by decide) rfl ?_
          refine m_goto (tgt := 52) d_Mo_count_80 (by decide) ?_
          rw [nI_1]
          exact ih (m + 1) x (by omega) (fun z => by rw [h2 z]; simp [cntB, (bI_0 _).mp c_71]) h3
        · refine m_iincw (w := 1) d_Mo_count_74 rfl (by decide) (by decide) rfl ?_
          refine m_iincw (w := 1) d_Mo_count_77 rfl (by decide) (by decide) rfl ?_
          refine m_goto (tgt := 52) d_Mo_count_80 (by decide) ?_
          rw [nI_1]
          exact ih (m + 1) (x + 1) (by omega) (fun z => by rw [h2 z, nI_1]; simp [cntB, nbI c_71]) (fun z => by cases z)
      · refine m_iload_n d_Mo_count_60 rfl ?_
        refine m_iconst (v := 2) d_Mo_count_61 (by decide) ?_
        refine m_icmp_ne (tgt := 83) d_Mo_count_62 (by decide) (fun _ => ?_) (fun c => absurd c ((fun z => hw2 ((nI_eq (b := 2) (by omega) (by omega)).mp z))))
        refine m_iconst (v := 0) d_Mo_count_83 (by decide) ?_
        refine m_istore_n d_Mo_count_84 (by decide) rfl ?_
        exact l2 nc 0 x (by omega) (fun z => by rw [h3 z]; rfl) (fun z => absurd z hw2)
  refine m_iconst (v := 0) d_Mo_count_50 (by decide) ?_
  refine m_istore_n d_Mo_count_51 (by decide) rfl ?_
  exact l1 nm 0 0 (by omega) (fun _ => rfl) (fun _ => rfl)
end VM7
