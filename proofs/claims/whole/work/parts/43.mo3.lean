/-! The reference: item, told, inside, trace. -/
section VM3
variable {G : vG} {am : Nat} {ad : Nat → Nat} {X : Nat → Nat → Int32} {Y : Nat → Int32}
theorem nbI {b : Bool} (h : ¬ bI b = 0) : b = true := by cases b <;> simp_all [bI]
def itB (Y : Nat → Int32) (m k a b c : Int32) : Bool := (inB m 0 (Y 17 - 1) && inB k 0 2) && !((decide (k = 1) && !inB a 0 (Y 16 - 1)) || (decide (0 < k) && (!inB b 0 25 || !inB c 0 2)))
abbrev itL (am : Nat) (m k a b c : Int32) : List (Nat × Value) := [(0, .ref am), (1, .int m), (2, .int k), (3, .int a), (4, .int b), (5, .int c)]
theorem m_item_go {m k a b c : Int32} {Q : vR → (Nat → Nat → Int32) → (Nat → Int32) → Prop} (kk : VM G M_Mo_item 2 60 71 (itL am m k a b c ++ [(6, .int (bI (itB Y m k a b c)))]) [.int (bI (!itB Y m k a b c))] am ad X (va_up Y 19 (bI (!itB Y m k a b c))) Q) : VM G M_Mo_item 2 60 0 (itL am m k a b c) [] am ad X Y Q := by
  have t65 : VM G M_Mo_item 2 60 65 (itL am m k a b c ++ [(6, .int (bI (itB Y m k a b c)))]) [] am ad X Y Q := by
    refine m_aload_n d_Mo_item_65 rfl (by first | rfl | exact vIsR_rf _) ?_
    refine m_iload d_Mo_item_66 rfl ?_
    refine m_callV1r (M1 := M_Mo_bad) d_Mo_item_68 km_Mo_110 kI_Mo_bad ks_Mo_Mo_bad (by decide) (by first | rfl | exact vRf_cat _) (by decide) kM_Mo_bad ki_Mo (by decide) (by decide +kernel) c_Mo_bad ?_
    exact kk
  have t62 : itB Y m k a b c = false → ∀ w : Int32, VM G M_Mo_item 2 60 62 (itL am m k a b c ++ [(6, .int w)]) [] am ad X Y Q := by
    intro hf w
    rw [hf] at t65
    refine m_iconst (v := 0) d_Mo_item_62 (by decide) ?_
    refine m_istore d_Mo_item_63 (by decide) rfl ?_
    exact t65
  have t24 : ∀ f0 : Bool, f0 = (inB m 0 (Y 17 - 1) && inB k 0 2) → VM G M_Mo_item 2 60 24 (itL am m k a b c ++ [(6, .int (bI f0))]) [] am ad X Y Q := by
    intro f0 hf0
    have t37 : ¬ (k = 1 ∧ inB a 0 (Y 16 - 1) = false) → VM G M_Mo_item 2 60 37 (itL am m k a b c ++ [(6, .int (bI f0))]) [] am ad X Y Q := by
      intro hk
      have hk2 : (decide (k = 1) && !inB a 0 (Y 16 - 1)) = false := by
        by_cases h1 : k = 1
        · have : inB a 0 (Y 16 - 1) = true := (Bool.not_eq_false _).mp (fun z => hk ⟨h1, z⟩)
          simp [this]
        · simp [h1]
      refine m_iload_n d_Mo_item_37 rfl ?_
      refine m_if_le (tgt := 65) d_Mo_item_38 (by decide) (fun c_38 => ?_) (fun c_38 => ?_)
      · have e1 : itB Y m k a b c = f0 := by simp [itB, hk2, Int32.not_lt.mpr c_38, hf0]
        rw [e1] at t65
        exact t65
      · have hk0 : 0 < k := Int32.not_le.mp c_38
        refine m_iload d_Mo_item_41 rfl ?_
        refine m_iconst (v := 0) d_Mo_item_43 (by decide) ?_
        refine m_bipush (v := 25) d_Mo_item_44 (by decide) ?_
        refine m_callS3r (M1 := M_Mo_in) d_Mo_item_46 km_Mo_99 kS_Mo_in (by decide) (by first | rfl | exact vRf_cat _) (by first | rfl | exact vRf_cat _) (by first | rfl | exact vRf_cat _) (by decide) kM_Mo_in ki_Mo (by decide) (by decide +kernel) c_Mo_in ?_
        refine m_if_eq (tgt := 62) d_Mo_item_49 (by decide) (fun c_49 => ?_) (fun c_49 => ?_)
        · exact t62 (by simp [itB, hk0, show inB b 0 25 = false from (bI_0 _).mp c_49]) _
        · refine m_iload d_Mo_item_52 rfl ?_
          refine m_iconst (v := 0) d_Mo_item_54 (by decide) ?_
          refine m_iconst (v := 2) d_Mo_item_55 (by decide) ?_
          refine m_callS3r (M1 := M_Mo_in) d_Mo_item_56 km_Mo_99 kS_Mo_in (by decide) (by first | rfl | exact vRf_cat _) (by first | rfl | exact vRf_cat _) (by first | rfl | exact vRf_cat _) (by decide) kM_Mo_in ki_Mo (by decide) (by decide +kernel) c_Mo_in ?_
          refine m_if_ne (tgt := 65) d_Mo_item_59 (by decide) (fun c_59 => ?_) (fun c_59 => ?_)
          · have e1 : itB Y m k a b c = f0 := by simp [itB, hk2, hf0, show inB b 0 25 = true from nbI c_49, show inB c 0 2 = true from nbI c_59]
            rw [e1] at t65
            exact t65
          · exact t62 (by simp [itB, hk0, show inB c 0 2 = false from (bI_0 _).mp c_59]) _
    refine m_iload_n d_Mo_item_24 rfl ?_
    refine m_iconst (v := 1) d_Mo_item_25 (by decide) ?_
    refine m_icmp_ne (tgt := 37) d_Mo_item_26 (by decide) (fun c_26 => ?_) (fun c_26 => ?_)
    · exact t37 (fun z => c_26 z.1)
    · refine m_aload_n d_Mo_item_29 rfl (by first | rfl | exact vIsR_rf _) ?_
      refine m_iload_n d_Mo_item_30 rfl ?_
      refine m_callV1r (M1 := M_Mo_isClass) d_Mo_item_31 km_Mo_106 kI_Mo_isClass ks_Mo_Mo_isClass (by decide) (by first | rfl | exact vRf_cat _) (by decide) kM_Mo_isClass ki_Mo (by decide) (by decide +kernel) c_Mo_isClass ?_
      refine m_if_eq (tgt := 62) d_Mo_item_34 (by decide) (fun c_34 => ?_) (fun c_34 => ?_)
      · exact t62 (by simp [itB, c_26, (bI_0 _).mp c_34]) _
      · exact t37 (fun z => by rw [nbI c_34] at z; cases z.2)
  refine m_aload_n d_Mo_item_0 rfl (by first | rfl | exact vIsR_rf _) ?_
  refine m_iload_n d_Mo_item_1 rfl ?_
  refine m_callV1r (M1 := M_Mo_isMethod) d_Mo_item_2 km_Mo_122 kI_Mo_isMethod ks_Mo_Mo_isMethod (by decide) (by first | rfl | exact vRf_cat _) (by decide) kM_Mo_isMethod ki_Mo (by decide) (by decide +kernel) c_Mo_isMethod ?_
  refine m_if_eq (tgt := 21) d_Mo_item_5 (by decide) (fun c_5 => ?_) (fun c_5 => ?_)
  · refine m_iconst (v := 0) d_Mo_item_21 (by decide) ?_
    refine m_istore d_Mo_item_22 (by decide) rfl ?_
    exact t24 false (by simp [(bI_0 _).mp c_5])
  · refine m_iload_n d_Mo_item_8 rfl ?_
    refine m_iconst (v := 0) d_Mo_item_9 (by decide) ?_
    refine m_iconst (v := 2) d_Mo_item_10 (by decide) ?_
    refine m_callS3r (M1 := M_Mo_in) d_Mo_item_11 km_Mo_99 kS_Mo_in (by decide) (by first | rfl | exact vRf_cat _) (by first | rfl | exact vRf_cat _) (by first | rfl | exact vRf_cat _) (by decide) kM_Mo_in ki_Mo (by decide) (by decide +kernel) c_Mo_in ?_
    refine m_if_eq (tgt := 21) d_Mo_item_14 (by decide) (fun c_14 => ?_) (fun c_14 => ?_)
    · refine m_iconst (v := 0) d_Mo_item_21 (by decide) ?_
      refine m_istore d_Mo_item_22 (by decide) rfl ?_
      exact t24 false (by simp [show inB k 0 2 = false from (bI_0 _).mp c_14])
    · refine m_iconst (v := 1) d_Mo_item_17 (by decide) ?_
      refine m_goto (tgt := 22) d_Mo_item_18 (by decide) ?_
      refine m_istore d_Mo_item_22 (by decide) rfl ?_
      exact t24 true (by simp [nbI c_5, show inB k 0 2 = true from nbI c_14])
theorem c_Mo_item_bad {m k a b c : Int32} (hb : itB Y m k a b c = false) : VM G M_Mo_item 2 60 0 (itL am m k a b c) [] am ad X Y (mRet (some (.int 0)) X (va_up Y 19 1)) := by
  refine m_item_go ?_
  rw [hb]
  refine m_if_eq (tgt := 76) d_Mo_item_71 (by decide) (fun c => absurd c (by decide)) (fun _ => ?_)
  refine m_iconst (v := 0) d_Mo_item_74 (by decide) ?_
  exact m_iret d_Mo_item_75 rfl rfl ⟨rfl, rfl, rfl⟩
theorem c_Mo_item_full {k a b c : Int32} {m : Nat} (hb : itB Y (nI m) k a b c = true) (hm : m < 24) (hi : X 5 m = nI 5) : VM G M_Mo_item 2 60 0 (itL am (nI m) k a b c) [] am ad X Y (mRet (some (.int 0)) X (va_up (va_up Y 19 0) 19 2)) := by
  refine m_item_go ?_
  rw [hb]
  refine m_if_eq (tgt := 76) d_Mo_item_71 (by decide) (fun _ => ?_) (fun c => absurd (rfl) c)
  refine m_aload_n d_Mo_item_76 rfl (by first | rfl | exact vIsR_rf _) ?_
  refine m_get d_Mo_item_77 5 (by decide) kf_Mo_25 rfl ?_
  refine m_iload_n d_Mo_item_80 rfl ?_
  refine m_ald d_Mo_item_81 m (by decide) (by exact rfl) (by exact hm) ?_
  refine m_iconst (v := 5) d_Mo_item_82 (by decide) ?_
  refine m_icmp_ne (tgt := 92) d_Mo_item_83 (by decide) (fun c => absurd (hi) c) (fun _ => ?_)
  refine m_aload_n d_Mo_item_86 rfl (by first | rfl | exact vIsR_rf _) ?_
  refine m_iconst (v := 2) d_Mo_item_87 (by decide) ?_
  refine m_callV1r (M1 := M_Mo_fail) d_Mo_item_88 km_Mo_114 kI_Mo_fail ks_Mo_Mo_fail (by decide) (by first | rfl | exact vRf_cat _) (by decide) kM_Mo_fail ki_Mo (by decide) (by decide +kernel) c_Mo_fail ?_
  exact m_iret d_Mo_item_91 rfl rfl ⟨rfl, rfl, rfl⟩
def itX (X : Nat → Nat → Int32) (m j : Nat) (k a b c : Int32) : Nat → Nat → Int32 := mW (mW (mW (mW (mW X 12 (m * 5 + j) k) 13 (m * 5 + j) (if k = 2 then -1 else a)) 14 (m * 5 + j) (if k = 0 then -1 else b)) 15 (m * 5 + j) (if k = 0 then -1 else c)) 5 m (nI (j + 1))
theorem c_Mo_item_ok {k a b c : Int32} {m j : Nat} (hb : itB Y (nI m) k a b c = true) (hm : m < 24) (hi : X 5 m = nI j) (hj : j < 5) : VM G M_Mo_item 2 60 0 (itL am (nI m) k a b c) [] am ad X Y (mRet (some (.int (nI (j + 1)))) (itX X m j k a b c) (va_up Y 19 0)) := by
  have hix : m * 5 + j < 120 := by omega
  refine m_item_go ?_
  rw [hb]
  refine m_if_eq (tgt := 76) d_Mo_item_71 (by decide) (fun _ => ?_) (fun c => absurd (rfl) c)
  refine m_aload_n d_Mo_item_76 rfl (by first | rfl | exact vIsR_rf _) ?_
  refine m_get d_Mo_item_77 5 (by decide) kf_Mo_25 rfl ?_
  refine m_iload_n d_Mo_item_80 rfl ?_
  refine m_ald d_Mo_item_81 m (by decide) (by exact rfl) (by exact hm) ?_
  refine m_iconst (v := 5) d_Mo_item_82 (by decide) ?_
  refine m_icmp_ne (tgt := 92) d_Mo_item_83 (by decide) (fun _ => ?_) (fun c => absurd c ((fun z => by rw [hi] at z; have := (nI_eq (a := j) (b := 5) (by omega) (by omega)).mp z; omega)))
  refine m_iload_n d_Mo_item_92 rfl ?_
  refine m_iconst (v := 5) d_Mo_item_93 (by decide) ?_
  refine m_imul d_Mo_item_94 ?_
  refine m_aload_n d_Mo_item_95 rfl (by first | rfl | exact vIsR_rf _) ?_
  refine m_get d_Mo_item_96 5 (by decide) kf_Mo_25 rfl ?_
  refine m_iload_n d_Mo_item_99 rfl ?_
  refine m_ald d_Mo_item_100 m (by decide) (by exact rfl) (by exact hm) ?_
  refine m_iadd d_Mo_item_101 ?_
  rw [hi, show nI m * 5 + nI j = nI (m * 5 + j) by rw [show (5 : Int32) = nI 5 from rfl, pk_mul, nI_add]]
  refine m_istore d_Mo_item_102 (by decide) rfl ?_
  refine m_aload_n d_Mo_item_104 rfl (by first | rfl | exact vIsR_rf _) ?_
  refine m_get d_Mo_item_105 12 (by decide) kf_Mo_47 rfl ?_
  refine m_iload d_Mo_item_108 rfl ?_
  refine m_iload_n d_Mo_item_110 rfl ?_
  refine m_ast d_Mo_item_111 (m * 5 + j) (by decide) (by exact rfl) (by exact hix) ?_
  refine m_aload_n d_Mo_item_112 rfl (by first | rfl | exact vIsR_rf _) ?_
  refine m_get d_Mo_item_113 13 (by decide) kf_Mo_50 rfl ?_
  refine m_at 116 rfl ?_
  refine m_iload d_Mo_item_116 rfl ?_
  refine m_iload_n d_Mo_item_118 rfl ?_
  refine m_iconst (v := 2) d_Mo_item_119 (by decide) ?_
  have s1 : VM G M_Mo_item 2 60 128 (itL am (nI m) k a b c ++ [(6, .int (bI true)), (7, .int (nI (m * 5 + j)))]) [.int (if k = 2 then -1 else a), .int (nI (m * 5 + j)), .ref (ad 13)] am ad (mW X 12 (m * 5 + j) k) (va_up Y 19 (bI (!true))) (mRet (some (.int (nI (j + 1)))) (itX X m j k a b c) (va_up Y 19 0)) := by
    refine m_ast d_Mo_item_128 (m * 5 + j) (by decide) (by exact rfl) (by exact hix) ?_
    refine m_aload_n d_Mo_item_129 rfl (by first | rfl | exact vIsR_rf _) ?_
    refine m_get d_Mo_item_130 14 (by decide) kf_Mo_53 rfl ?_
    refine m_iload d_Mo_item_133 rfl ?_
    refine m_iload_n d_Mo_item_135 rfl ?_
    have s2 : VM G M_Mo_item 2 60 145 (itL am (nI m) k a b c ++ [(6, .int (bI true)), (7, .int (nI (m * 5 + j)))]) [.int (if k = 0 then -1 else b), .int (nI (m * 5 + j)), .ref (ad 14)] am ad (mW (mW X 12 (m * 5 + j) k) 13 (m * 5 + j) (if k = 2 then -1 else a)) (va_up Y 19 (bI (!true))) (mRet (some (.int (nI (j + 1)))) (itX X m j k a b c) (va_up Y 19 0)) := by
      refine m_ast d_Mo_item_145 (m * 5 + j) (by decide) (by exact rfl) (by exact hix) ?_
      refine m_aload_n d_Mo_item_146 rfl (by first | rfl | exact vIsR_rf _) ?_
      refine m_get d_Mo_item_147 15 (by decide) kf_Mo_56 rfl ?_
      refine m_iload d_Mo_item_150 rfl ?_
      refine m_iload_n d_Mo_item_152 rfl ?_
      have s3 : VM G M_Mo_item 2 60 162 (itL am (nI m) k a b c ++ [(6, .int (bI true)), (7, .int (nI (m * 5 + j)))]) [.int (if k = 0 then -1 else c), .int (nI (m * 5 + j)), .ref (ad 15)] am ad (mW (mW (mW X 12 (m * 5 + j) k) 13 (m * 5 + j) (if k = 2 then -1 else a)) 14 (m * 5 + j) (if k = 0 then -1 else b)) (va_up Y 19 (bI (!true))) (mRet (some (.int (nI (j + 1)))) (itX X m j k a b c) (va_up Y 19 0)) := by
        refine m_ast d_Mo_item_162 (m * 5 + j) (by decide) (by exact rfl) (by exact hix) ?_
        refine m_aload_n d_Mo_item_163 rfl (by first | rfl | exact vIsR_rf _) ?_
        refine m_get d_Mo_item_164 5 (by decide) kf_Mo_25 rfl ?_
        refine m_iload_n d_Mo_item_167 rfl ?_
        refine m_dup2 d_Mo_item_168 (by first | rfl | exact vRf_cat _) (by first | rfl | exact vRf_cat _) ?_
        refine m_ald d_Mo_item_169 m (by decide) (by exact rfl) (by exact hm) ?_
        refine m_iconst (v := 1) d_Mo_item_170 (by decide) ?_
        refine m_iadd d_Mo_item_171 ?_
        rw [show (mW (mW (mW (mW X 12 (m * 5 + j) k) 13 (m * 5 + j) (if k = 2 then -1 else a)) 14 (m * 5 + j) (if k = 0 then -1 else b)) 15 (m * 5 + j) (if k = 0 then -1 else c)) 5 m + 1 = nI (j + 1) by rw [mW_k (by decide), mW_k (by decide), mW_k (by decide), mW_k (by decide), hi, nI_1]]
        refine m_ast d_Mo_item_172 m (by decide) (by exact rfl) (by exact hm) ?_
        refine m_aload_n d_Mo_item_173 rfl (by first | rfl | exact vIsR_rf _) ?_
        refine m_get d_Mo_item_174 5 (by decide) kf_Mo_25 rfl ?_
        refine m_iload_n d_Mo_item_177 rfl ?_
        refine m_ald d_Mo_item_178 m (by decide) (by exact rfl) (by exact hm) ?_
        rw [mW_at]
        exact m_iret d_Mo_item_179 rfl rfl ⟨rfl, rfl, rfl⟩
      refine m_if_ne (tgt := 160) d_Mo_item_153 (by decide) (fun c_153 => ?_) (fun c_153 => ?_)
      · rw [if_neg c_153] at s3
        refine m_iload d_Mo_item_160 rfl ?_
        exact s3
      · rw [if_pos c_153] at s3
        refine m_iconst (v := (-1)) d_Mo_item_156 (by decide) ?_
        refine m_goto (tgt := 162) d_Mo_item_157 (by decide) ?_
        exact s3
    refine m_if_ne (tgt := 143) d_Mo_item_136 (by decide) (fun c_136 => ?_) (fun c_136 => ?_)
    · rw [if_neg c_136] at s2
      refine m_iload d_Mo_item_143 rfl ?_
      exact s2
    · rw [if_pos c_136] at s2
      refine m_iconst (v := (-1)) d_Mo_item_139 (by decide) ?_
      refine m_goto (tgt := 145) d_Mo_item_140 (by decide) ?_
      exact s2
  refine m_icmp_ne (tgt := 127) d_Mo_item_120 (by decide) (fun c_120 => ?_) (fun c_120 => ?_)
  · rw [if_neg c_120] at s1
    refine m_iload_n d_Mo_item_127 rfl ?_
    exact s1
  · rw [if_pos c_120] at s1
    refine m_iconst (v := (-1)) d_Mo_item_123 (by decide) ?_
    refine m_goto (tgt := 128) d_Mo_item_124 (by decide) ?_
    exact s1
end VM3
