/-! The reference: told, inside, trace. -/
section VM4
variable {G : vG} {am : Nat} {ad : Nat → Nat} {X : Nat → Nat → Int32} {Y : Nat → Int32}
def tdB (Y : Nat → Int32) (m w : Int32) : Bool := inB m 0 (Y 17 - 1) && inB w 0 7
theorem m_told_go {m w : Int32} {Q : vR → (Nat → Nat → Int32) → (Nat → Int32) → Prop} (k : VM G M_Mo_told 2 60 27 [(0, .ref am), (1, .int m), (2, .int w)] [.int (bI (!tdB Y m w))] am ad X (va_up Y 19 (bI (!tdB Y m w))) Q) : VM G M_Mo_told 2 60 0 [(0, .ref am), (1, .int m), (2, .int w)] [] am ad X Y Q := by
  have t : VM G M_Mo_told 2 60 24 [(0, .ref am), (1, .int m), (2, .int w)] [.int (bI (tdB Y m w)), .ref am] am ad X Y Q := by
    refine m_callV1r (M1 := M_Mo_bad) d_Mo_told_24 km_Mo_110 kI_Mo_bad ks_Mo_Mo_bad (by decide) (by first | rfl | exact vRf_cat _) (by decide) kM_Mo_bad ki_Mo (by decide) (by decide +kernel) c_Mo_bad ?_
    exact k
  have tf : tdB Y m w = false → VM G M_Mo_told 2 60 23 [(0, .ref am), (1, .int m), (2, .int w)] [.ref am] am ad X Y Q := by
    intro hf
    rw [hf] at t
    refine m_iconst (v := 0) d_Mo_told_23 (by decide) ?_
    exact t
  refine m_aload_n d_Mo_told_0 rfl (by first | rfl | exact vIsR_rf _) ?_
  refine m_aload_n d_Mo_told_1 rfl (by first | rfl | exact vIsR_rf _) ?_
  refine m_iload_n d_Mo_told_2 rfl ?_
  refine m_callV1r (M1 := M_Mo_isMethod) d_Mo_told_3 km_Mo_122 kI_Mo_isMethod ks_Mo_Mo_isMethod (by decide) (by first | rfl | exact vRf_cat _) (by decide) kM_Mo_isMethod ki_Mo (by decide) (by decide +kernel) c_Mo_isMethod ?_
  refine m_if_eq (tgt := 23) d_Mo_told_6 (by decide) (fun c_6 => ?_) (fun c_6 => ?_)
  · exact tf (by simp [tdB, (bI_0 _).mp c_6])
  · refine m_iload_n d_Mo_told_9 rfl ?_
    refine m_iconst (v := 0) d_Mo_told_10 (by decide) ?_
    refine m_bipush (v := 7) d_Mo_told_11 (by decide) ?_
    refine m_callS3r (M1 := M_Mo_in) d_Mo_told_13 km_Mo_99 kS_Mo_in (by decide) (by first | rfl | exact vRf_cat _) (by first | rfl | exact vRf_cat _) (by first | rfl | exact vRf_cat _) (by decide) kM_Mo_in ki_Mo (by decide) (by decide +kernel) c_Mo_in ?_
    refine m_if_eq (tgt := 23) d_Mo_told_16 (by decide) (fun c_16 => ?_) (fun c_16 => ?_)
    · exact tf (by simp [tdB, show inB w 0 7 = false from (bI_0 _).mp c_16])
    · rw [show tdB Y m w = true by simp [tdB, nbI c_6, show inB w 0 7 = true from nbI c_16]] at t
      refine m_iconst (v := 1) d_Mo_told_19 (by decide) ?_
      refine m_goto (tgt := 24) d_Mo_told_20 (by decide) ?_
      exact t
theorem c_Mo_told_bad {m w : Int32} (hb : tdB Y m w = false) : VM G M_Mo_told 2 60 0 [(0, .ref am), (1, .int m), (2, .int w)] [] am ad X Y (mRet (some (.int 0)) X (va_up Y 19 1)) := by
  refine m_told_go ?_
  rw [hb]
  refine m_if_eq (tgt := 32) d_Mo_told_27 (by decide) (fun c => absurd c (by decide)) (fun _ => ?_)
  refine m_iconst (v := 0) d_Mo_told_30 (by decide) ?_
  exact m_iret d_Mo_told_31 rfl rfl ⟨rfl, rfl, rfl⟩
theorem c_Mo_told_0 {m nm : Nat} (hy : Y 17 = nI nm) (hn : nm ≤ 24) (hm : m < nm) : VM G M_Mo_told 2 60 0 [(0, .ref am), (1, .int (nI m)), (2, .int 0)] [] am ad X Y (mRet (some (.int (X 2 m))) X (va_up Y 19 0)) := by
  refine m_told_go ?_
  rw [show tdB Y (nI m) 0 = true by simp [tdB, hy, (inB_iff (n := nm) (by omega)).mpr ⟨m, hm, rfl⟩]; decide]
  refine m_if_eq (tgt := 32) d_Mo_told_27 (by decide) (fun _ => ?_) (fun c => absurd (rfl) c)
  refine m_iload_n d_Mo_told_32 rfl ?_
  refine m_tableIn (tgt := 76) (off := 43) d_Mo_told_33 (by decide) (by decide) (by decide) (by decide) ?_
  refine m_aload_n d_Mo_told_76 rfl (by first | rfl | exact vIsR_rf _) ?_
  refine m_get d_Mo_told_77 2 (by decide) kf_Mo_16 rfl ?_
  refine m_iload_n d_Mo_told_80 rfl ?_
  refine m_ald d_Mo_told_81 m (by decide) (by exact rfl) (by exact (show m < 24 by omega)) ?_
  exact m_iret d_Mo_told_82 rfl rfl ⟨rfl, rfl, rfl⟩
theorem c_Mo_told_1 {m nm : Nat} (hy : Y 17 = nI nm) (hn : nm ≤ 24) (hm : m < nm) : VM G M_Mo_told 2 60 0 [(0, .ref am), (1, .int (nI m)), (2, .int 1)] [] am ad X Y (mRet (some (.int (X 3 m))) X (va_up Y 19 0)) := by
  refine m_told_go ?_
  rw [show tdB Y (nI m) 1 = true by simp [tdB, hy, (inB_iff (n := nm) (by omega)).mpr ⟨m, hm, rfl⟩]; decide]
  refine m_if_eq (tgt := 32) d_Mo_told_27 (by decide) (fun _ => ?_) (fun c => absurd (rfl) c)
  refine m_iload_n d_Mo_told_32 rfl ?_
  refine m_tableIn (tgt := 83) (off := 50) d_Mo_told_33 (by decide) (by decide) (by decide) (by decide) ?_
  refine m_aload_n d_Mo_told_83 rfl (by first | rfl | exact vIsR_rf _) ?_
  refine m_get d_Mo_told_84 3 (by decide) kf_Mo_19 rfl ?_
  refine m_iload_n d_Mo_told_87 rfl ?_
  refine m_ald d_Mo_told_88 m (by decide) (by exact rfl) (by exact (show m < 24 by omega)) ?_
  exact m_iret d_Mo_told_89 rfl rfl ⟨rfl, rfl, rfl⟩
theorem c_Mo_told_2 {m nm : Nat} (hy : Y 17 = nI nm) (hn : nm ≤ 24) (hm : m < nm) : VM G M_Mo_told 2 60 0 [(0, .ref am), (1, .int (nI m)), (2, .int 2)] [] am ad X Y (mRet (some (.int (X 4 m))) X (va_up Y 19 0)) := by
  refine m_told_go ?_
  rw [show tdB Y (nI m) 2 = true by simp [tdB, hy, (inB_iff (n := nm) (by omega)).mpr ⟨m, hm, rfl⟩]; decide]
  refine m_if_eq (tgt := 32) d_Mo_told_27 (by decide) (fun _ => ?_) (fun c => absurd (rfl) c)
  refine m_iload_n d_Mo_told_32 rfl ?_
  refine m_tableIn (tgt := 90) (off := 57) d_Mo_told_33 (by decide) (by decide) (by decide) (by decide) ?_
  refine m_aload_n d_Mo_told_90 rfl (by first | rfl | exact vIsR_rf _) ?_
  refine m_get d_Mo_told_91 4 (by decide) kf_Mo_22 rfl ?_
  refine m_iload_n d_Mo_told_94 rfl ?_
  refine m_ald d_Mo_told_95 m (by decide) (by exact rfl) (by exact (show m < 24 by omega)) ?_
  exact m_iret d_Mo_told_96 rfl rfl ⟨rfl, rfl, rfl⟩
theorem c_Mo_told_3 {m nm : Nat} (hy : Y 17 = nI nm) (hn : nm ≤ 24) (hm : m < nm) : VM G M_Mo_told 2 60 0 [(0, .ref am), (1, .int (nI m)), (2, .int 3)] [] am ad X Y (mRet (some (.int (X 5 m))) X (va_up Y 19 0)) := by
  refine m_told_go ?_
  rw [show tdB Y (nI m) 3 = true by simp [tdB, hy, (inB_iff (n := nm) (by omega)).mpr ⟨m, hm, rfl⟩]; decide]
  refine m_if_eq (tgt := 32) d_Mo_told_27 (by decide) (fun _ => ?_) (fun c => absurd (rfl) c)
  refine m_iload_n d_Mo_told_32 rfl ?_
  refine m_tableIn (tgt := 97) (off := 64) d_Mo_told_33 (by decide) (by decide) (by decide) (by decide) ?_
  refine m_aload_n d_Mo_told_97 rfl (by first | rfl | exact vIsR_rf _) ?_
  refine m_get d_Mo_told_98 5 (by decide) kf_Mo_25 rfl ?_
  refine m_iload_n d_Mo_told_101 rfl ?_
  refine m_ald d_Mo_told_102 m (by decide) (by exact rfl) (by exact (show m < 24 by omega)) ?_
  exact m_iret d_Mo_told_103 rfl rfl ⟨rfl, rfl, rfl⟩
theorem c_Mo_told_5 {m nm : Nat} (hy : Y 17 = nI nm) (hn : nm ≤ 24) (hm : m < nm) : VM G M_Mo_told 2 60 0 [(0, .ref am), (1, .int (nI m)), (2, .int 5)] [] am ad X Y (mRet (some (.int (X 8 m))) X (va_up Y 19 0)) := by
  refine m_told_go ?_
  rw [show tdB Y (nI m) 5 = true by simp [tdB, hy, (inB_iff (n := nm) (by omega)).mpr ⟨m, hm, rfl⟩]; decide]
  refine m_if_eq (tgt := 32) d_Mo_told_27 (by decide) (fun _ => ?_) (fun c => absurd (rfl) c)
  refine m_iload_n d_Mo_told_32 rfl ?_
  refine m_tableIn (tgt := 119) (off := 86) d_Mo_told_33 (by decide) (by decide) (by decide) (by decide) ?_
  refine m_aload_n d_Mo_told_119 rfl (by first | rfl | exact vIsR_rf _) ?_
  refine m_get d_Mo_told_120 8 (by decide) kf_Mo_34 rfl ?_
  refine m_iload_n d_Mo_told_123 rfl ?_
  refine m_ald d_Mo_told_124 m (by decide) (by exact rfl) (by exact (show m < 24 by omega)) ?_
  exact m_iret d_Mo_told_125 rfl rfl ⟨rfl, rfl, rfl⟩
theorem c_Mo_told_6 {m nm : Nat} (hy : Y 17 = nI nm) (hn : nm ≤ 24) (hm : m < nm) : VM G M_Mo_told 2 60 0 [(0, .ref am), (1, .int (nI m)), (2, .int 6)] [] am ad X Y (mRet (some (.int (X 7 m))) X (va_up Y 19 0)) := by
  refine m_told_go ?_
  rw [show tdB Y (nI m) 6 = true by simp [tdB, hy, (inB_iff (n := nm) (by omega)).mpr ⟨m, hm, rfl⟩]; decide]
  refine m_if_eq (tgt := 32) d_Mo_told_27 (by decide) (fun _ => ?_) (fun c => absurd (rfl) c)
  refine m_iload_n d_Mo_told_32 rfl ?_
  refine m_tableIn (tgt := 126) (off := 93) d_Mo_told_33 (by decide) (by decide) (by decide) (by decide) ?_
  refine m_aload_n d_Mo_told_126 rfl (by first | rfl | exact vIsR_rf _) ?_
  refine m_get d_Mo_told_127 7 (by decide) kf_Mo_31 rfl ?_
  refine m_iload_n d_Mo_told_130 rfl ?_
  refine m_ald d_Mo_told_131 m (by decide) (by exact rfl) (by exact (show m < 24 by omega)) ?_
  exact m_iret d_Mo_told_132 rfl rfl ⟨rfl, rfl, rfl⟩
theorem c_Mo_told_7 {m nm : Nat} (hy : Y 17 = nI nm) (hn : nm ≤ 24) (hm : m < nm) : VM G M_Mo_told 2 60 0 [(0, .ref am), (1, .int (nI m)), (2, .int 7)] [] am ad X Y (mRet (some (.int (X 6 m))) X (va_up Y 19 0)) := by
  refine m_told_go ?_
  rw [show tdB Y (nI m) 7 = true by simp [tdB, hy, (inB_iff (n := nm) (by omega)).mpr ⟨m, hm, rfl⟩]; decide]
  refine m_if_eq (tgt := 32) d_Mo_told_27 (by decide) (fun _ => ?_) (fun c => absurd (rfl) c)
  refine m_iload_n d_Mo_told_32 rfl ?_
  refine m_tableOut (tgt := 133) d_Mo_told_33 (Or.inr (by decide)) (by decide) ?_
  refine m_aload_n d_Mo_told_133 rfl (by first | rfl | exact vIsR_rf _) ?_
  refine m_get d_Mo_told_134 6 (by decide) kf_Mo_28 rfl ?_
  refine m_iload_n d_Mo_told_137 rfl ?_
  refine m_ald d_Mo_told_138 m (by decide) (by exact rfl) (by exact (show m < 24 by omega)) ?_
  exact m_iret d_Mo_told_139 rfl rfl ⟨rfl, rfl, rfl⟩
theorem c_Mo_told_4 {m nm : Nat} {b : Bool} (hy : Y 17 = nI nm) (hn : nm ≤ 24) (hm : m < nm) (hk : X 9 m = bI b) : VM G M_Mo_told 2 60 0 [(0, .ref am), (1, .int (nI m)), (2, .int 4)] [] am ad X Y (mRet (some (.int (X 9 m))) X (va_up Y 19 0)) := by
  refine m_told_go ?_
  rw [show tdB Y (nI m) 4 = true by simp [tdB, hy, (inB_iff (n := nm) (by omega)).mpr ⟨m, hm, rfl⟩]; decide]
  refine m_if_eq (tgt := 32) d_Mo_told_27 (by decide) (fun _ => ?_) (fun c => absurd (rfl) c)
  refine m_iload_n d_Mo_told_32 rfl ?_
  refine m_tableIn (tgt := 104) (off := 71) d_Mo_told_33 (by decide) (by decide) (by decide) (by decide) ?_
  refine m_aload_n d_Mo_told_104 rfl (by first | rfl | exact vIsR_rf _) ?_
  refine m_get d_Mo_told_105 9 (by decide) kf_Mo_37 rfl ?_
  refine m_iload_n d_Mo_told_108 rfl ?_
  refine m_zald d_Mo_told_109 m (by decide) (by exact rfl) (by exact (show m < 24 by omega)) ?_
  rw [hk]
  cases b with
  | false =>
    refine m_if_eq (tgt := 117) d_Mo_told_110 (by decide) (fun _ => ?_) (fun c => absurd (rfl) c)
    refine m_iconst (v := 0) d_Mo_told_117 (by decide) ?_
    exact m_iret d_Mo_told_118 rfl rfl ⟨rfl, rfl, rfl⟩
  | true =>
    refine m_if_eq (tgt := 117) d_Mo_told_110 (by decide) (fun c => absurd c (by decide)) (fun _ => ?_)
    refine m_iconst (v := 1) d_Mo_told_113 (by decide) ?_
    refine m_goto (tgt := 118) d_Mo_told_114 (by decide) ?_
    exact m_iret d_Mo_told_118 rfl rfl ⟨rfl, rfl, rfl⟩
def inS (Y : Nat → Int32) (m w : Int32) : Bool := inB m 0 (Y 17 - 1) && inB w 0 3
abbrev inL (am : Nat) (m i w : Int32) : List (Nat × Value) := [(0, .ref am), (1, .int m), (2, .int i), (3, .int w)]
theorem m_inside_go {m i w : Int32} {Q : vR → (Nat → Nat → Int32) → (Nat → Int32) → Prop} (k : VM G M_Mo_inside 2 60 26 (inL am m i w) [.int (bI (!inS Y m w))] am ad X (va_up Y 19 (bI (!inS Y m w))) Q) : VM G M_Mo_inside 2 60 0 (inL am m i w) [] am ad X Y Q := by
  have t : VM G M_Mo_inside 2 60 23 (inL am m i w) [.int (bI (inS Y m w)), .ref am] am ad X Y Q := by
    refine m_callV1r (M1 := M_Mo_bad) d_Mo_inside_23 km_Mo_110 kI_Mo_bad ks_Mo_Mo_bad (by decide) (by first | rfl | exact vRf_cat _) (by decide) kM_Mo_bad ki_Mo (by decide) (by decide +kernel) c_Mo_bad ?_
    exact k
  have tf : inS Y m w = false → VM G M_Mo_inside 2 60 22 (inL am m i w) [.ref am] am ad X Y Q := by
    intro hf
    rw [hf] at t
    refine m_iconst (v := 0) d_Mo_inside_22 (by decide) ?_
    exact t
  refine m_aload_n d_Mo_inside_0 rfl (by first | rfl | exact vIsR_rf _) ?_
  refine m_aload_n d_Mo_inside_1 rfl (by first | rfl | exact vIsR_rf _) ?_
  refine m_iload_n d_Mo_inside_2 rfl ?_
  refine m_callV1r (M1 := M_Mo_isMethod) d_Mo_inside_3 km_Mo_122 kI_Mo_isMethod ks_Mo_Mo_isMethod (by decide) (by first | rfl | exact vRf_cat _) (by decide) kM_Mo_isMethod ki_Mo (by decide) (by decide +kernel) c_Mo_isMethod ?_
  refine m_if_eq (tgt := 22) d_Mo_inside_6 (by decide) (fun c_6 => ?_) (fun c_6 => ?_)
  · exact tf (by simp [inS, (bI_0 _).mp c_6])
  · refine m_iload_n d_Mo_inside_9 rfl ?_
    refine m_iconst (v := 0) d_Mo_inside_10 (by decide) ?_
    refine m_iconst (v := 3) d_Mo_inside_11 (by decide) ?_
    refine m_callS3r (M1 := M_Mo_in) d_Mo_inside_12 km_Mo_99 kS_Mo_in (by decide) (by first | rfl | exact vRf_cat _) (by first | rfl | exact vRf_cat _) (by first | rfl | exact vRf_cat _) (by decide) kM_Mo_in ki_Mo (by decide) (by decide +kernel) c_Mo_in ?_
    refine m_if_eq (tgt := 22) d_Mo_inside_15 (by decide) (fun c_15 => ?_) (fun c_15 => ?_)
    · exact tf (by simp [inS, show inB w 0 3 = false from (bI_0 _).mp c_15])
    · rw [show inS Y m w = true by simp [inS, nbI c_6, show inB w 0 3 = true from nbI c_15]] at t
      refine m_iconst (v := 1) d_Mo_inside_18 (by decide) ?_
      refine m_goto (tgt := 23) d_Mo_inside_19 (by decide) ?_
      exact t
theorem c_Mo_inside_bad {m i w : Int32} (hb : inS Y m w = false) : VM G M_Mo_inside 2 60 0 (inL am m i w) [] am ad X Y (mRet (some (.int 0)) X (va_up Y 19 1)) := by
  refine m_inside_go ?_
  rw [hb]
  refine m_if_eq (tgt := 31) d_Mo_inside_26 (by decide) (fun c => absurd c (by decide)) (fun _ => ?_)
  refine m_iconst (v := 0) d_Mo_inside_29 (by decide) ?_
  exact m_iret d_Mo_inside_30 rfl rfl ⟨rfl, rfl, rfl⟩
theorem c_Mo_inside_none {i w : Int32} {m : Nat} (hb : inS Y (nI m) w = true) (hm : m < 24) (hi : inB i 0 (X 5 m - 1) = false) : VM G M_Mo_inside 2 60 0 (inL am (nI m) i w) [] am ad X Y (mRet (some (.int 0)) X (va_up (va_up Y 19 0) 19 2)) := by
  refine m_inside_go ?_
  rw [hb]
  refine m_if_eq (tgt := 31) d_Mo_inside_26 (by decide) (fun _ => ?_) (fun c => absurd (rfl) c)
  refine m_iload_n d_Mo_inside_31 rfl ?_
  refine m_iconst (v := 0) d_Mo_inside_32 (by decide) ?_
  refine m_aload_n d_Mo_inside_33 rfl (by first | rfl | exact vIsR_rf _) ?_
  refine m_get d_Mo_inside_34 5 (by decide) kf_Mo_25 rfl ?_
  refine m_iload_n d_Mo_inside_37 rfl ?_
  refine m_ald d_Mo_inside_38 m (by decide) (by exact rfl) (by exact hm) ?_
  refine m_iconst (v := 1) d_Mo_inside_39 (by decide) ?_
  refine m_isub d_Mo_inside_40 ?_
  refine m_at 41 rfl ?_
  refine m_callS3r (M1 := M_Mo_in) d_Mo_inside_41 km_Mo_99 kS_Mo_in (by decide) (by first | rfl | exact vRf_cat _) (by first | rfl | exact vRf_cat _) (by first | rfl | exact vRf_cat _) (by decide) kM_Mo_in ki_Mo (by decide) (by decide +kernel) c_Mo_in ?_
  rw [show (decide (0 ≤ i) && decide (i ≤ X 5 m - 1)) = false from hi]
  refine m_if_ne (tgt := 53) d_Mo_inside_44 (by decide) (fun c => absurd (rfl) c) (fun _ => ?_)
  refine m_aload_n d_Mo_inside_47 rfl (by first | rfl | exact vIsR_rf _) ?_
  refine m_iconst (v := 2) d_Mo_inside_48 (by decide) ?_
  refine m_callV1r (M1 := M_Mo_fail) d_Mo_inside_49 km_Mo_114 kI_Mo_fail ks_Mo_Mo_fail (by decide) (by first | rfl | exact vRf_cat _) (by decide) kM_Mo_fail ki_Mo (by decide) (by decide +kernel) c_Mo_fail ?_
  exact m_iret d_Mo_inside_52 rfl rfl ⟨rfl, rfl, rfl⟩
theorem c_Mo_inside_ok {m j it w : Nat} (hb : inS Y (nI m) (nI w) = true) (hm : m < 24) (hi : X 5 m = nI it) (hit : it ≤ 5) (hj : j < it) (hw : w < 4) : VM G M_Mo_inside 2 60 0 (inL am (nI m) (nI j) (nI w)) [] am ad X Y (mRet (some (.int (X (12 + w) (m * 5 + j)))) X (va_up Y 19 0)) := by
  have hix : m * 5 + j < 120 := by omega
  refine m_inside_go ?_
  rw [hb]
  refine m_if_eq (tgt := 31) d_Mo_inside_26 (by decide) (fun _ => ?_) (fun c => absurd (rfl) c)
  refine m_iload_n d_Mo_inside_31 rfl ?_
  refine m_iconst (v := 0) d_Mo_inside_32 (by decide) ?_
  refine m_aload_n d_Mo_inside_33 rfl (by first | rfl | exact vIsR_rf _) ?_
  refine m_get d_Mo_inside_34 5 (by decide) kf_Mo_25 rfl ?_
  refine m_iload_n d_Mo_inside_37 rfl ?_
  refine m_ald d_Mo_inside_38 m (by decide) (by exact rfl) (by exact hm) ?_
  refine m_iconst (v := 1) d_Mo_inside_39 (by decide) ?_
  refine m_isub d_Mo_inside_40 ?_
  refine m_at 41 rfl ?_
  refine m_callS3r (M1 := M_Mo_in) d_Mo_inside_41 km_Mo_99 kS_Mo_in (by decide) (by first | rfl | exact vRf_cat _) (by first | rfl | exact vRf_cat _) (by first | rfl | exact vRf_cat _) (by decide) kM_Mo_in ki_Mo (by decide) (by decide +kernel) c_Mo_in ?_
  rw [show (decide (0 ≤ nI j) && decide (nI j ≤ X 5 m - 1)) = true from (by rw [hi]; exact (inB_iff (by omega)).mpr ⟨j, hj, rfl⟩)]
  refine m_if_ne (tgt := 53) d_Mo_inside_44 (by decide) (fun _ => ?_) (fun c => absurd c (by decide))
  refine m_iload_n d_Mo_inside_53 rfl ?_
  refine m_iconst (v := 5) d_Mo_inside_54 (by decide) ?_
  refine m_imul d_Mo_inside_55 ?_
  refine m_iload_n d_Mo_inside_56 rfl ?_
  refine m_iadd d_Mo_inside_57 ?_
  rw [show nI m * 5 + nI j = nI (m * 5 + j) by rw [show (5 : Int32) = nI 5 from rfl, pk_mul, nI_add]]
  refine m_istore d_Mo_inside_58 (by decide) rfl ?_
  refine m_iload_n d_Mo_inside_60 rfl ?_
  rcases (show w = 0 ∨ w = 1 ∨ w = 2 ∨ w = 3 by omega) with rfl | rfl | rfl | rfl
  · refine m_if_ne (tgt := 74) d_Mo_inside_61 (by decide) (fun c => absurd (rfl) c) (fun _ => ?_)
    refine m_aload_n d_Mo_inside_64 rfl (by first | rfl | exact vIsR_rf _) ?_
    refine m_get d_Mo_inside_65 12 (by decide) kf_Mo_47 rfl ?_
    refine m_iload d_Mo_inside_68 rfl ?_
    refine m_ald d_Mo_inside_70 (m * 5 + j) (by decide) (by exact rfl) (by exact hix) ?_
    refine m_goto (tgt := 111) d_Mo_inside_71 (by decide) ?_
    exact m_iret d_Mo_inside_111 rfl rfl ⟨rfl, rfl, rfl⟩
  · refine m_if_ne (tgt := 74) d_Mo_inside_61 (by decide) (fun _ => ?_) (fun c => absurd c (by decide))
    refine m_iload_n d_Mo_inside_74 rfl ?_
    refine m_iconst (v := 1) d_Mo_inside_75 (by decide) ?_
    refine m_icmp_ne (tgt := 89) d_Mo_inside_76 (by decide) (fun c => absurd (rfl) c) (fun _ => ?_)
    refine m_aload_n d_Mo_inside_79 rfl (by first | rfl | exact vIsR_rf _) ?_
    refine m_get d_Mo_inside_80 13 (by decide) kf_Mo_50 rfl ?_
    refine m_iload d_Mo_inside_83 rfl ?_
    refine m_ald d_Mo_inside_85 (m * 5 + j) (by decide) (by exact rfl) (by exact hix) ?_
    refine m_goto (tgt := 111) d_Mo_inside_86 (by decide) ?_
    exact m_iret d_Mo_inside_111 rfl rfl ⟨rfl, rfl, rfl⟩
  · refine m_if_ne (tgt := 74) d_Mo_inside_61 (by decide) (fun _ => ?_) (fun c => absurd c (by decide))
    refine m_iload_n d_Mo_inside_74 rfl ?_
    refine m_iconst (v := 1) d_Mo_inside_75 (by decide) ?_
    refine m_icmp_ne (tgt := 89) d_Mo_inside_76 (by decide) (fun _ => ?_) (fun c => absurd c (by decide))
    refine m_iload_n d_Mo_inside_89 rfl ?_
    refine m_iconst (v := 2) d_Mo_inside_90 (by decide) ?_
    refine m_icmp_ne (tgt := 104) d_Mo_inside_91 (by decide) (fun c => absurd (rfl) c) (fun _ => ?_)
    refine m_aload_n d_Mo_inside_94 rfl (by first | rfl | exact vIsR_rf _) ?_
    refine m_get d_Mo_inside_95 14 (by decide) kf_Mo_53 rfl ?_
    refine m_iload d_Mo_inside_98 rfl ?_
    refine m_ald d_Mo_inside_100 (m * 5 + j) (by decide) (by exact rfl) (by exact hix) ?_
    refine m_goto (tgt := 111) d_Mo_inside_101 (by decide) ?_
    exact m_iret d_Mo_inside_111 rfl rfl ⟨rfl, rfl, rfl⟩
  · refine m_if_ne (tgt := 74) d_Mo_inside_61 (by decide) (fun _ => ?_) (fun c => absurd c (by decide))
    refine m_iload_n d_Mo_inside_74 rfl ?_
    refine m_iconst (v := 1) d_Mo_inside_75 (by decide) ?_
    refine m_icmp_ne (tgt := 89) d_Mo_inside_76 (by decide) (fun _ => ?_) (fun c => absurd c (by decide))
    refine m_iload_n d_Mo_inside_89 rfl ?_
    refine m_iconst (v := 2) d_Mo_inside_90 (by decide) ?_
    refine m_icmp_ne (tgt := 104) d_Mo_inside_91 (by decide) (fun _ => ?_) (fun c => absurd c (by decide))
    refine m_aload_n d_Mo_inside_104 rfl (by first | rfl | exact vIsR_rf _) ?_
    refine m_get d_Mo_inside_105 15 (by decide) kf_Mo_56 rfl ?_
    refine m_iload d_Mo_inside_108 rfl ?_
    refine m_ald d_Mo_inside_110 (m * 5 + j) (by decide) (by exact rfl) (by exact hix) ?_
    exact m_iret d_Mo_inside_111 rfl rfl ⟨rfl, rfl, rfl⟩
def trB (Y : Nat → Int32) (o n r : Int32) : Bool := inB o 0 (Y 16 - 1) && inB n 0 26 && inB r 0 2
theorem m_trace_go {o n r : Int32} {Q : vR → (Nat → Nat → Int32) → (Nat → Int32) → Prop} (k : VM G M_Mo_trace 2 60 36 [(0, .ref am), (1, .int o), (2, .int n), (3, .int r)] [.int (bI (!trB Y o n r))] am ad X (va_up Y 19 (bI (!trB Y o n r))) Q) : VM G M_Mo_trace 2 60 0 [(0, .ref am), (1, .int o), (2, .int n), (3, .int r)] [] am ad X Y Q := by
  have t : VM G M_Mo_trace 2 60 33 [(0, .ref am), (1, .int o), (2, .int n), (3, .int r)] [.int (bI (trB Y o n r)), .ref am] am ad X Y Q := by
    refine m_callV1r (M1 := M_Mo_bad) d_Mo_trace_33 km_Mo_110 kI_Mo_bad ks_Mo_Mo_bad (by decide) (by first | rfl | exact vRf_cat _) (by decide) kM_Mo_bad ki_Mo (by decide) (by decide +kernel) c_Mo_bad ?_
    exact k
  have tf : trB Y o n r = false → VM G M_Mo_trace 2 60 32 [(0, .ref am), (1, .int o), (2, .int n), (3, .int r)] [.ref am] am ad X Y Q := by
    intro hf
    rw [hf] at t
    refine m_iconst (v := 0) d_Mo_trace_32 (by decide) ?_
    exact t
  refine m_aload_n d_Mo_trace_0 rfl (by first | rfl | exact vIsR_rf _) ?_
  refine m_aload_n d_Mo_trace_1 rfl (by first | rfl | exact vIsR_rf _) ?_
  refine m_iload_n d_Mo_trace_2 rfl ?_
  refine m_callV1r (M1 := M_Mo_isClass) d_Mo_trace_3 km_Mo_106 kI_Mo_isClass ks_Mo_Mo_isClass (by decide) (by first | rfl | exact vRf_cat _) (by decide) kM_Mo_isClass ki_Mo (by decide) (by decide +kernel) c_Mo_isClass ?_
  refine m_if_eq (tgt := 32) d_Mo_trace_6 (by decide) (fun c_6 => ?_) (fun c_6 => ?_)
  · exact tf (by simp [trB, (bI_0 _).mp c_6])
  · refine m_iload_n d_Mo_trace_9 rfl ?_
    refine m_iconst (v := 0) d_Mo_trace_10 (by decide) ?_
    refine m_bipush (v := 26) d_Mo_trace_11 (by decide) ?_
    refine m_callS3r (M1 := M_Mo_in) d_Mo_trace_13 km_Mo_99 kS_Mo_in (by decide) (by first | rfl | exact vRf_cat _) (by first | rfl | exact vRf_cat _) (by first | rfl | exact vRf_cat _) (by decide) kM_Mo_in ki_Mo (by decide) (by decide +kernel) c_Mo_in ?_
    refine m_if_eq (tgt := 32) d_Mo_trace_16 (by decide) (fun c_16 => ?_) (fun c_16 => ?_)
    · exact tf (by simp [trB, show inB n 0 26 = false from (bI_0 _).mp c_16])
    · refine m_iload_n d_Mo_trace_19 rfl ?_
      refine m_iconst (v := 0) d_Mo_trace_20 (by decide) ?_
      refine m_iconst (v := 2) d_Mo_trace_21 (by decide) ?_
      refine m_callS3r (M1 := M_Mo_in) d_Mo_trace_22 km_Mo_99 kS_Mo_in (by decide) (by first | rfl | exact vRf_cat _) (by first | rfl | exact vRf_cat _) (by first | rfl | exact vRf_cat _) (by decide) kM_Mo_in ki_Mo (by decide) (by decide +kernel) c_Mo_in ?_
      refine m_if_eq (tgt := 32) d_Mo_trace_25 (by decide) (fun c_25 => ?_) (fun c_25 => ?_)
      · exact tf (by simp [trB, show inB r 0 2 = false from (bI_0 _).mp c_25])
      · rw [show trB Y o n r = true by simp [trB, nbI c_6, show inB n 0 26 = true from nbI c_16, show inB r 0 2 = true from nbI c_25]] at t
        refine m_iconst (v := 1) d_Mo_trace_28 (by decide) ?_
        refine m_goto (tgt := 33) d_Mo_trace_29 (by decide) ?_
        exact t
theorem c_Mo_trace_bad {o n r : Int32} (hb : trB Y o n r = false) : VM G M_Mo_trace 2 60 0 [(0, .ref am), (1, .int o), (2, .int n), (3, .int r)] [] am ad X Y (mRet (some (.int 0)) X (va_up Y 19 1)) := by
  refine m_trace_go ?_
  rw [hb]
  refine m_if_eq (tgt := 41) d_Mo_trace_36 (by decide) (fun c => absurd c (by decide)) (fun _ => ?_)
  refine m_iconst (v := 0) d_Mo_trace_39 (by decide) ?_
  exact m_iret d_Mo_trace_40 rfl rfl ⟨rfl, rfl, rfl⟩
theorem c_Mo_trace_none {o n r : Int32} {nm : Nat} (hb : trB Y o n r = true) (hy : Y 17 = nI nm) (hm : nm ≤ 24) (hf : ownS X nm o n r = none) : VM G M_Mo_trace 2 60 0 [(0, .ref am), (1, .int o), (2, .int n), (3, .int r)] [] am ad X Y (mRet (some (.int 0)) X (va_up (va_up Y 19 0) 19 2)) := by
  have h17 : va_up Y 19 (bI (!true)) 17 = nI nm := hy
  refine m_trace_go ?_
  rw [hb]
  refine m_if_eq (tgt := 41) d_Mo_trace_36 (by decide) (fun _ => ?_) (fun c => absurd (rfl) c)
  refine m_aload_n d_Mo_trace_41 rfl (by first | rfl | exact vIsR_rf _) ?_
  refine m_iload_n d_Mo_trace_42 rfl ?_
  refine m_iload_n d_Mo_trace_43 rfl ?_
  refine m_iload_n d_Mo_trace_44 rfl ?_
  refine m_callV3r (M1 := M_Mo_own) d_Mo_trace_45 km_Mo_118 kI_Mo_own ks_Mo_Mo_own (by decide) (by first | rfl | exact vRf_cat _) (by first | rfl | exact vRf_cat _) (by first | rfl | exact vRf_cat _) (by decide) kM_Mo_own ki_Mo (by decide) (by decide +kernel) (c_Mo_own h17 hm) ?_
  rw [hf]
  refine m_istore d_Mo_trace_48 (by decide) rfl ?_
  refine m_iload d_Mo_trace_50 rfl ?_
  refine m_if_ge (tgt := 63) d_Mo_trace_52 (by decide) (fun c => absurd c (by decide)) (fun _ => ?_)
  refine m_aload_n d_Mo_trace_55 rfl (by first | rfl | exact vIsR_rf _) ?_
  refine m_iconst (v := 2) d_Mo_trace_56 (by decide) ?_
  refine m_callV1r (M1 := M_Mo_fail) d_Mo_trace_57 km_Mo_114 kI_Mo_fail ks_Mo_Mo_fail (by decide) (by first | rfl | exact vRf_cat _) (by decide) kM_Mo_fail ki_Mo (by decide) (by decide +kernel) c_Mo_fail ?_
  refine m_goto (tgt := 70) d_Mo_trace_60 (by decide) ?_
  exact m_iret d_Mo_trace_70 rfl rfl ⟨rfl, rfl, rfl⟩
theorem c_Mo_trace_ok {o n r : Int32} {nm m : Nat} (hb : trB Y o n r = true) (hy : Y 17 = nI nm) (hm : nm ≤ 24) (hf : ownS X nm o n r = some m) : VM G M_Mo_trace 2 60 0 [(0, .ref am), (1, .int o), (2, .int n), (3, .int r)] [] am ad X Y (mRet (some (.int (X 6 m))) X (va_up Y 19 0)) := by
  have h17 : va_up Y 19 (bI (!true)) 17 = nI nm := hy
  have hml := fst_some hf
  refine m_trace_go ?_
  rw [hb]
  refine m_if_eq (tgt := 41) d_Mo_trace_36 (by decide) (fun _ => ?_) (fun c => absurd (rfl) c)
  refine m_aload_n d_Mo_trace_41 rfl (by first | rfl | exact vIsR_rf _) ?_
  refine m_iload_n d_Mo_trace_42 rfl ?_
  refine m_iload_n d_Mo_trace_43 rfl ?_
  refine m_iload_n d_Mo_trace_44 rfl ?_
  refine m_callV3r (M1 := M_Mo_own) d_Mo_trace_45 km_Mo_118 kI_Mo_own ks_Mo_Mo_own (by decide) (by first | rfl | exact vRf_cat _) (by first | rfl | exact vRf_cat _) (by first | rfl | exact vRf_cat _) (by decide) kM_Mo_own ki_Mo (by decide) (by decide +kernel) (c_Mo_own h17 hm) ?_
  rw [hf]
  refine m_istore d_Mo_trace_48 (by decide) rfl ?_
  refine m_iload d_Mo_trace_50 rfl ?_
  refine m_if_ge (tgt := 63) d_Mo_trace_52 (by decide) (fun _ => ?_) (fun c => absurd (nI_pos' (by omega)) c)
  refine m_aload_n d_Mo_trace_63 rfl (by first | rfl | exact vIsR_rf _) ?_
  refine m_get d_Mo_trace_64 6 (by decide) kf_Mo_28 rfl ?_
  refine m_iload d_Mo_trace_67 rfl ?_
  refine m_ald d_Mo_trace_69 m (by decide) (by exact rfl) (by exact (show m < 24 by omega)) ?_
  exact m_iret d_Mo_trace_70 rfl rfl ⟨rfl, rfl, rfl⟩
end VM4
