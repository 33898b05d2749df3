/-! The reference: add, method, item, keep, told, inside, trace. -/
section VM2
variable {G : vG} {am : Nat} {ad : Nat → Nat} {X : Nat → Nat → Int32} {Y : Nat → Int32}
theorem inB_iff {v : Int32} {n : Nat} (hn : n < 1000) : inB v 0 (nI n - 1) = true ↔ ∃ c, c < n ∧ v = nI c := by
  have e1 : (nI n - 1 : Int32).toInt = (n : Int) - 1 := by
    have := pk_sub_toInt (a := n) (b := 1) (by omega) (by omega)
    simpa [nI] using this
  constructor
  · intro h
    simp only [inB, Bool.and_eq_true, decide_eq_true_eq, Int32.le_iff_toInt_le, e1] at h
    obtain ⟨h1, h2⟩ := h
    have h0 : ¬ v < 0 := by rw [Int32.lt_iff_toInt_lt]; omega
    obtain ⟨j, hj, rfl⟩ := nI_of h0
    rw [nI_toInt hj] at h2
    exact ⟨j, by omega, rfl⟩
  · rintro ⟨c, hc, rfl⟩
    simp only [inB, Bool.and_eq_true, decide_eq_true_eq, Int32.le_iff_toInt_le, e1]
    rw [nI_toInt (by omega)]
    exact ⟨by simp, by omega⟩
theorem inB_of {v : Int32} {n : Nat} (b : Int32) (hb : b = nI n) (hn : n < 900) : inB v 0 b = true ↔ ∃ c, c ≤ n ∧ v = nI c := by
  subst hb
  have h := inB_iff (v := v) (n := n + 1) (show n + 1 < 1000 by omega)
  rw [nI_pred] at h
  rw [h]
  constructor
  · rintro ⟨c, h1, h2⟩; exact ⟨c, by omega, h2⟩
  · rintro ⟨c, h1, h2⟩; exact ⟨c, by omega, h2⟩
theorem bI_t : bI true = 1 := rfl
theorem bI_f : bI false = 0 := rfl
/-- what add asks of its parent -/
def addB (Y : Nat → Int32) (v : Int32) : Bool := decide (v = -1) || inB v 0 (Y 16 - 1)
theorem m_add_go {v : Int32} {Q : vR → (Nat → Nat → Int32) → (Nat → Int32) → Prop} (k : VM G M_Mo_add 2 60 22 [(0, .ref am), (1, .int v)] [.int (bI (!addB Y v))] am ad X (va_up Y 19 (bI (!addB Y v))) Q) : VM G M_Mo_add 2 60 0 [(0, .ref am), (1, .int v)] [] am ad X Y Q := by
  have t : VM G M_Mo_add 2 60 19 [(0, .ref am), (1, .int v)] [.int (bI (addB Y v)), .ref am] am ad X Y Q := by
    refine m_callV1r (M1 := M_Mo_bad) d_Mo_add_19 km_Mo_110 kI_Mo_bad ks_Mo_Mo_bad (by decide) (by first | rfl | exact vRf_cat _) (by decide) kM_Mo_bad ki_Mo (by decide) (by decide +kernel) c_Mo_bad ?_
    exact k
  refine m_aload_n d_Mo_add_0 rfl (by first | rfl | exact vIsR_rf _) ?_
  refine m_iload_n d_Mo_add_1 rfl ?_
  refine m_iconst (v := (-1)) d_Mo_add_2 (by decide) ?_
  refine m_icmp_eq (tgt := 14) d_Mo_add_3 (by decide) (fun c_3 => ?_) (fun c_3 => ?_)
  · rw [show addB Y v = true by simp [addB, c_3]] at t
    refine m_iconst (v := 1) d_Mo_add_14 (by decide) ?_
    refine m_goto (tgt := 19) d_Mo_add_15 (by decide) ?_
    exact t
  · refine m_aload_n d_Mo_add_6 rfl (by first | rfl | exact vIsR_rf _) ?_
    refine m_iload_n d_Mo_add_7 rfl ?_
    refine m_callV1r (M1 := M_Mo_isClass) d_Mo_add_8 km_Mo_106 kI_Mo_isClass ks_Mo_Mo_isClass (by decide) (by first | rfl | exact vRf_cat _) (by decide) kM_Mo_isClass ki_Mo (by decide) (by decide +kernel) c_Mo_isClass ?_
    refine m_if_eq (tgt := 18) d_Mo_add_11 (by decide) (fun c_11 => ?_) (fun c_11 => ?_)
    · rw [show addB Y v = false by simp [addB, c_3, (bI_0 _).mp c_11]] at t
      refine m_iconst (v := 0) d_Mo_add_18 (by decide) ?_
      exact t
    · rw [show addB Y v = true by simp [addB, (Bool.not_eq_false _).mp (fun z => c_11 ((bI_0 _).mpr z))]] at t
      refine m_iconst (v := 1) d_Mo_add_14 (by decide) ?_
      refine m_goto (tgt := 19) d_Mo_add_15 (by decide) ?_
      exact t
theorem c_Mo_add_bad {v : Int32} (hb : addB Y v = false) : VM G M_Mo_add 2 60 0 [(0, .ref am), (1, .int v)] [] am ad X Y (mRet (some (.int 0)) X (va_up Y 19 1)) := by
  refine m_add_go ?_
  rw [hb]
  refine m_if_eq (tgt := 27) d_Mo_add_22 (by decide) (fun c => absurd c (by decide)) (fun _ => ?_)
  refine m_iconst (v := 0) d_Mo_add_25 (by decide) ?_
  exact m_iret d_Mo_add_26 rfl rfl ⟨rfl, rfl, rfl⟩
theorem c_Mo_add_full {v : Int32} (hb : addB Y v = true) (hy : Y 16 = nI 8) : VM G M_Mo_add 2 60 0 [(0, .ref am), (1, .int v)] [] am ad X Y (mRet (some (.int 0)) X (va_up (va_up Y 19 0) 19 2)) := by
  refine m_add_go ?_
  rw [hb]
  refine m_if_eq (tgt := 27) d_Mo_add_22 (by decide) (fun _ => ?_) (fun c => absurd (rfl) c)
  refine m_aload_n d_Mo_add_27 rfl (by first | rfl | exact vIsR_rf _) ?_
  refine m_get d_Mo_add_28 16 (by decide) kf_Mo_96 rfl ?_
  refine m_bipush (v := 8) d_Mo_add_31 (by decide) ?_
  refine m_icmp_ne (tgt := 42) d_Mo_add_33 (by decide) (fun c => absurd ((by show Y 16 = 8; rw [hy]; rfl)) c) (fun _ => ?_)
  refine m_aload_n d_Mo_add_36 rfl (by first | rfl | exact vIsR_rf _) ?_
  refine m_iconst (v := 2) d_Mo_add_37 (by decide) ?_
  refine m_callV1r (M1 := M_Mo_fail) d_Mo_add_38 km_Mo_114 kI_Mo_fail ks_Mo_Mo_fail (by decide) (by first | rfl | exact vRf_cat _) (by decide) kM_Mo_fail ki_Mo (by decide) (by decide +kernel) c_Mo_fail ?_
  exact m_iret d_Mo_add_41 rfl rfl ⟨rfl, rfl, rfl⟩
theorem c_Mo_add_ok {v : Int32} {nc : Nat} (hb : addB Y v = true) (hy : Y 16 = nI nc) (hn : nc < 8) : VM G M_Mo_add 2 60 0 [(0, .ref am), (1, .int v)] [] am ad X Y (mRet (some (.int (nI nc))) (mW (mW X 0 nc v) 1 nc (nI nc)) (va_up (va_up Y 19 0) 16 (nI (nc + 1)))) := by
  have h16 : va_up Y 19 0 16 = nI nc := hy
  refine m_add_go ?_
  rw [hb]
  refine m_if_eq (tgt := 27) d_Mo_add_22 (by decide) (fun _ => ?_) (fun c => absurd (rfl) c)
  refine m_aload_n d_Mo_add_27 rfl (by first | rfl | exact vIsR_rf _) ?_
  refine m_get d_Mo_add_28 16 (by decide) kf_Mo_96 rfl ?_
  refine m_bipush (v := 8) d_Mo_add_31 (by decide) ?_
  refine m_icmp_ne (tgt := 42) d_Mo_add_33 (by decide) (fun _ => ?_) (fun c => absurd c ((fun z => by have z : Y 16 = nI 8 := z; rw [hy] at z; have := (nI_eq (by omega) (by omega)).mp z; omega)))
  refine m_aload_n d_Mo_add_42 rfl (by first | rfl | exact vIsR_rf _) ?_
  refine m_get d_Mo_add_43 0 (by decide) kf_Mo_7 rfl ?_
  refine m_aload_n d_Mo_add_46 rfl (by first | rfl | exact vIsR_rf _) ?_
  refine m_get d_Mo_add_47 16 (by decide) kf_Mo_96 rfl ?_
  refine m_iload_n d_Mo_add_50 rfl ?_
  refine m_ast d_Mo_add_51 nc (by decide) (by exact h16) (by exact (show nc < 8 from hn)) ?_
  refine m_aload_n d_Mo_add_52 rfl (by first | rfl | exact vIsR_rf _) ?_
  refine m_get d_Mo_add_53 1 (by decide) kf_Mo_13 rfl ?_
  refine m_at 56 rfl ?_
  refine m_aload_n d_Mo_add_56 rfl (by first | rfl | exact vIsR_rf _) ?_
  refine m_get d_Mo_add_57 16 (by decide) kf_Mo_96 rfl ?_
  refine m_aload_n d_Mo_add_60 rfl (by first | rfl | exact vIsR_rf _) ?_
  refine m_get d_Mo_add_61 16 (by decide) kf_Mo_96 rfl ?_
  refine m_ast d_Mo_add_64 nc (by decide) (by exact h16) (by exact (show nc < 8 from hn)) ?_
  refine m_aload_n d_Mo_add_65 rfl (by first | rfl | exact vIsR_rf _) ?_
  refine m_dup d_Mo_add_66 (by first | rfl | exact vRf_cat _) ?_
  refine m_get d_Mo_add_67 16 (by decide) kf_Mo_96 rfl ?_
  refine m_iconst (v := 1) d_Mo_add_70 (by decide) ?_
  refine m_iadd d_Mo_add_71 ?_
  refine m_putI d_Mo_add_72 16 (by decide) kf_Mo_96 ?_
  refine m_aload_n d_Mo_add_75 rfl (by first | rfl | exact vIsR_rf _) ?_
  refine m_get d_Mo_add_76 16 (by decide) kf_Mo_96 rfl ?_
  refine m_iconst (v := 1) d_Mo_add_79 (by decide) ?_
  refine m_isub d_Mo_add_80 ?_
  rw [show va_up Y 19 (bI (!true)) 16 = nI nc from h16]
  rw [show (va_up (va_up Y 19 (bI (!true))) 16 (nI nc + 1) 16) - 1 = nI nc by rw [va_up_self, nI_1, nI_pred], nI_1]
  exact m_iret d_Mo_add_81 rfl rfl ⟨rfl, rfl, rfl⟩
/-- what method asks -/
def metB (Y : Nat → Int32) (o n r : Int32) : Bool := inB o 0 (Y 16 - 1) && inB n 0 25 && inB r 0 2
theorem m_met_go {o n r : Int32} {Q : vR → (Nat → Nat → Int32) → (Nat → Int32) → Prop} (k : VM G M_Mo_method 2 60 36 [(0, .ref am), (1, .int o), (2, .int n), (3, .int r)] [.int (bI (!metB Y o n r))] am ad X (va_up Y 19 (bI (!metB Y o n r))) Q) : VM G M_Mo_method 2 60 0 [(0, .ref am), (1, .int o), (2, .int n), (3, .int r)] [] am ad X Y Q := by
  have t : VM G M_Mo_method 2 60 33 [(0, .ref am), (1, .int o), (2, .int n), (3, .int r)] [.int (bI (metB Y o n r)), .ref am] am ad X Y Q := by
    refine m_callV1r (M1 := M_Mo_bad) d_Mo_method_33 km_Mo_110 kI_Mo_bad ks_Mo_Mo_bad (by decide) (by first | rfl | exact vRf_cat _) (by decide) kM_Mo_bad ki_Mo (by decide) (by decide +kernel) c_Mo_bad ?_
    exact k
  have tf : metB Y o n r = false → VM G M_Mo_method 2 60 32 [(0, .ref am), (1, .int o), (2, .int n), (3, .int r)] [.ref am] am ad X Y Q := by
    intro hf
    rw [hf] at t
    refine m_iconst (v := 0) d_Mo_method_32 (by decide) ?_
    exact t
  refine m_aload_n d_Mo_method_0 rfl (by first | rfl | exact vIsR_rf _) ?_
  refine m_aload_n d_Mo_method_1 rfl (by first | rfl | exact vIsR_rf _) ?_
  refine m_iload_n d_Mo_method_2 rfl ?_
  refine m_callV1r (M1 := M_Mo_isClass) d_Mo_method_3 km_Mo_106 kI_Mo_isClass ks_Mo_Mo_isClass (by decide) (by first | rfl | exact vRf_cat _) (by decide) kM_Mo_isClass ki_Mo (by decide) (by decide +kernel) c_Mo_isClass ?_
  refine m_if_eq (tgt := 32) d_Mo_method_6 (by decide) (fun c_6 => ?_) (fun c_6 => ?_)
  · exact tf (by simp [metB, (bI_0 _).mp c_6])
  · refine m_iload_n d_Mo_method_9 rfl ?_
    refine m_iconst (v := 0) d_Mo_method_10 (by decide) ?_
    refine m_bipush (v := 25) d_Mo_method_11 (by decide) ?_
    refine m_callS3r (M1 := M_Mo_in) d_Mo_method_13 km_Mo_99 kS_Mo_in (by decide) (by first | rfl | exact vRf_cat _) (by first | rfl | exact vRf_cat _) (by first | rfl | exact vRf_cat _) (by decide) kM_Mo_in ki_Mo (by decide) (by decide +kernel) c_Mo_in ?_
    refine m_if_eq (tgt := 32) d_Mo_method_16 (by decide) (fun c_16 => ?_) (fun c_16 => ?_)
    · exact tf (by simp [metB, show inB n 0 25 = false from (bI_0 _).mp c_16])
    · refine m_iload_n d_Mo_method_19 rfl ?_
      refine m_iconst (v := 0) d_Mo_method_20 (by decide) ?_
      refine m_iconst (v := 2) d_Mo_method_21 (by decide) ?_
      refine m_callS3r (M1 := M_Mo_in) d_Mo_method_22 km_Mo_99 kS_Mo_in (by decide) (by first | rfl | exact vRf_cat _) (by first | rfl | exact vRf_cat _) (by first | rfl | exact vRf_cat _) (by decide) kM_Mo_in ki_Mo (by decide) (by decide +kernel) c_Mo_in ?_
      refine m_if_eq (tgt := 32) d_Mo_method_25 (by decide) (fun c_25 => ?_) (fun c_25 => ?_)
      · exact tf (by simp [metB, show inB r 0 2 = false from (bI_0 _).mp c_25])
      · rw [show metB Y o n r = true by
          have a1 : inB o 0 (Y 16 - 1) = true := (Bool.not_eq_false _).mp (fun z => c_6 ((bI_0 _).mpr z))
          have a2 : inB n 0 25 = true := (Bool.not_eq_false _).mp (fun z => c_16 ((bI_0 _).mpr z))
          have a3 : inB r 0 2 = true := (Bool.not_eq_false _).mp (fun z => c_25 ((bI_0 _).mpr z))
          simp [metB, a1, a2, a3]] at t
        refine m_iconst (v := 1) d_Mo_method_28 (by decide) ?_
        refine m_goto (tgt := 33) d_Mo_method_29 (by decide) ?_
        exact t
theorem c_Mo_method_bad {o n r : Int32} (hb : metB Y o n r = false) : VM G M_Mo_method 2 60 0 [(0, .ref am), (1, .int o), (2, .int n), (3, .int r)] [] am ad X Y (mRet (some (.int 0)) X (va_up Y 19 1)) := by
  refine m_met_go ?_
  rw [hb]
  refine m_if_eq (tgt := 41) d_Mo_method_36 (by decide) (fun c => absurd c (by decide)) (fun _ => ?_)
  refine m_iconst (v := 0) d_Mo_method_39 (by decide) ?_
  exact m_iret d_Mo_method_40 rfl rfl ⟨rfl, rfl, rfl⟩
theorem c_Mo_method_full {o n r : Int32} {nm : Nat} (hb : metB Y o n r = true) (hy : Y 17 = nI nm) (hm : nm ≤ 24) (hf : nm = 24 ∨ ∃ m, ownS X nm o n r = some m) : VM G M_Mo_method 2 60 0 [(0, .ref am), (1, .int o), (2, .int n), (3, .int r)] [] am ad X Y (mRet (some (.int 0)) X (va_up (va_up Y 19 0) 19 2)) := by
  have h17 : va_up Y 19 (bI (!true)) 17 = nI nm := hy
  refine m_met_go ?_
  rw [hb]
  refine m_if_eq (tgt := 41) d_Mo_method_36 (by decide) (fun _ => ?_) (fun c => absurd (rfl) c)
  refine m_aload_n d_Mo_method_41 rfl (by first | rfl | exact vIsR_rf _) ?_
  refine m_get d_Mo_method_42 17 (by decide) kf_Mo_103 rfl ?_
  refine m_bipush (v := 24) d_Mo_method_45 (by decide) ?_
  refine m_icmp_eq (tgt := 60) d_Mo_method_47 (by decide) (fun c_47 => ?_) (fun c_47 => ?_)
  · refine m_aload_n d_Mo_method_60 rfl (by first | rfl | exact vIsR_rf _) ?_
    refine m_iconst (v := 2) d_Mo_method_61 (by decide) ?_
    refine m_callV1r (M1 := M_Mo_fail) d_Mo_method_62 km_Mo_114 kI_Mo_fail ks_Mo_Mo_fail (by decide) (by first | rfl | exact vRf_cat _) (by decide) kM_Mo_fail ki_Mo (by decide) (by decide +kernel) c_Mo_fail ?_
    exact m_iret d_Mo_method_65 rfl rfl ⟨rfl, rfl, rfl⟩
  · obtain ⟨m, ho⟩ : ∃ m, ownS X nm o n r = some m := by
      rcases hf with rfl | hf
      · exact absurd h17 c_47
      · exact hf
    have hml := fst_some ho
    refine m_aload_n d_Mo_method_50 rfl (by first | rfl | exact vIsR_rf _) ?_
    refine m_iload_n d_Mo_method_51 rfl ?_
    refine m_iload_n d_Mo_method_52 rfl ?_
    refine m_iload_n d_Mo_method_53 rfl ?_
    refine m_callV3r (M1 := M_Mo_own) d_Mo_method_54 km_Mo_118 kI_Mo_own ks_Mo_Mo_own (by decide) (by first | rfl | exact vRf_cat _) (by first | rfl | exact vRf_cat _) (by first | rfl | exact vRf_cat _) (by decide) kM_Mo_own ki_Mo (by decide) (by decide +kernel) (c_Mo_own h17 hm) ?_
    rw [ho]
    refine m_if_lt (tgt := 66) d_Mo_method_57 (by decide) (fun c => absurd c (nI_pos (by omega))) (fun _ => ?_)
    refine m_aload_n d_Mo_method_60 rfl (by first | rfl | exact vIsR_rf _) ?_
    refine m_iconst (v := 2) d_Mo_method_61 (by decide) ?_
    refine m_callV1r (M1 := M_Mo_fail) d_Mo_method_62 km_Mo_114 kI_Mo_fail ks_Mo_Mo_fail (by decide) (by first | rfl | exact vRf_cat _) (by decide) kM_Mo_fail ki_Mo (by decide) (by decide +kernel) c_Mo_fail ?_
    exact m_iret d_Mo_method_65 rfl rfl ⟨rfl, rfl, rfl⟩
def metX (X : Nat → Nat → Int32) (nm c : Nat) (n r : Int32) : Nat → Nat → Int32 := mW (mW (mW (mW (mW (mW (mW (mW X 2 nm (nI c)) 3 nm n) 4 nm r) 5 nm 0) 9 nm 0) 6 nm (nI nm)) 7 nm n) 8 nm (X 1 c)

theorem c_Mo_method_ok {n r : Int32} {nm c : Nat} (hb : metB Y (nI c) n r = true) (hy : Y 17 = nI nm) (hm : nm < 24) (hc : c < 8) (hf : ownS X nm (nI c) n r = none) : VM G M_Mo_method 2 60 0 [(0, .ref am), (1, .int (nI c)), (2, .int n), (3, .int r)] [] am ad X Y (mRet (some (.int (nI nm))) (metX X nm c n r) (va_up (va_up Y 19 0) 17 (nI (nm + 1)))) := by
  have h17 : va_up Y 19 (bI (!true)) 17 = nI nm := hy
  refine m_met_go ?_
  rw [hb]
  refine m_if_eq (tgt := 41) d_Mo_method_36 (by decide) (fun _ => ?_) (fun c => absurd (rfl) c)
  refine m_aload_n d_Mo_method_41 rfl (by first | rfl | exact vIsR_rf _) ?_
  refine m_get d_Mo_method_42 17 (by decide) kf_Mo_103 rfl ?_
  refine m_bipush (v := 24) d_Mo_method_45 (by decide) ?_
  refine m_icmp_eq (tgt := 60) d_Mo_method_47 (by decide) (fun c => absurd c ((fun z => by have z : Y 17 = nI 24 := z; rw [hy] at z; have := (nI_eq (by omega) (by omega)).mp z; omega))) (fun _ => ?_)
  refine m_aload_n d_Mo_method_50 rfl (by first | rfl | exact vIsR_rf _) ?_
  refine m_iload_n d_Mo_method_51 rfl ?_
  refine m_iload_n d_Mo_method_52 rfl ?_
  refine m_iload_n d_Mo_method_53 rfl ?_
  refine m_callV3r (M1 := M_Mo_own) d_Mo_method_54 km_Mo_118 kI_Mo_own ks_Mo_Mo_own (by decide) (by first | rfl | exact vRf_cat _) (by first | rfl | exact vRf_cat _) (by first | rfl | exact vRf_cat _) (by decide) kM_Mo_own ki_Mo (by decide) (by decide +kernel) (c_Mo_own h17 (by omega)) ?_
  rw [hf]
  refine m_if_lt (tgt := 66) d_Mo_method_57 (by decide) (fun _ => ?_) (fun c => absurd (by decide) c)
  refine m_aload_n d_Mo_method_66 rfl (by first | rfl | exact vIsR_rf _) ?_
  refine m_get d_Mo_method_67 2 (by decide) kf_Mo_16 rfl ?_
  refine m_aload_n d_Mo_method_70 rfl (by first | rfl | exact vIsR_rf _) ?_
  refine m_get d_Mo_method_71 17 (by decide) kf_Mo_103 rfl ?_
  refine m_iload_n d_Mo_method_74 rfl ?_
  refine m_ast d_Mo_method_75 nm (by decide) (by exact h17) (by exact hm) ?_
  refine m_aload_n d_Mo_method_76 rfl (by first | rfl | exact vIsR_rf _) ?_
  refine m_get d_Mo_method_77 3 (by decide) kf_Mo_19 rfl ?_
  refine m_at 80 rfl ?_
  refine m_aload_n d_Mo_method_80 rfl (by first | rfl | exact vIsR_rf _) ?_
  refine m_get d_Mo_method_81 17 (by decide) kf_Mo_103 rfl ?_
  refine m_iload_n d_Mo_method_84 rfl ?_
  refine m_ast d_Mo_method_85 nm (by decide) (by exact h17) (by exact hm) ?_
  refine m_aload_n d_Mo_method_86 rfl (by first | rfl | exact vIsR_rf _) ?_
  refine m_get d_Mo_method_87 4 (by decide) kf_Mo_22 rfl ?_
  refine m_aload_n d_Mo_method_90 rfl (by first | rfl | exact vIsR_rf _) ?_
  refine m_get d_Mo_method_91 17 (by decide) kf_Mo_103 rfl ?_
  refine m_at 94 rfl ?_
  refine m_iload_n d_Mo_method_94 rfl ?_
  refine m_ast d_Mo_method_95 nm (by decide) (by exact h17) (by exact hm) ?_
  refine m_aload_n d_Mo_method_96 rfl (by first | rfl | exact vIsR_rf _) ?_
  refine m_get d_Mo_method_97 5 (by decide) kf_Mo_25 rfl ?_
  refine m_aload_n d_Mo_method_100 rfl (by first | rfl | exact vIsR_rf _) ?_
  refine m_get d_Mo_method_101 17 (by decide) kf_Mo_103 rfl ?_
  refine m_iconst (v := 0) d_Mo_method_104 (by decide) ?_
  refine m_ast d_Mo_method_105 nm (by decide) (by exact h17) (by exact hm) ?_
  refine m_at 106 rfl ?_
  refine m_aload_n d_Mo_method_106 rfl (by first | rfl | exact vIsR_rf _) ?_
  refine m_get d_Mo_method_107 9 (by decide) kf_Mo_37 rfl ?_
  refine m_aload_n d_Mo_method_110 rfl (by first | rfl | exact vIsR_rf _) ?_
  refine m_get d_Mo_method_111 17 (by decide) kf_Mo_103 rfl ?_
  refine m_iconst (v := 0) d_Mo_method_114 (by decide) ?_
  refine m_zast d_Mo_method_115 nm (by decide) (by exact h17) (by exact hm) (by exact rfl) ?_
  refine m_aload_n d_Mo_method_116 rfl (by first | rfl | exact vIsR_rf _) ?_
  refine m_get d_Mo_method_117 6 (by decide) kf_Mo_28 rfl ?_
  refine m_at 120 rfl ?_
  refine m_aload_n d_Mo_method_120 rfl (by first | rfl | exact vIsR_rf _) ?_
  refine m_get d_Mo_method_121 17 (by decide) kf_Mo_103 rfl ?_
  refine m_aload_n d_Mo_method_124 rfl (by first | rfl | exact vIsR_rf _) ?_
  refine m_get d_Mo_method_125 17 (by decide) kf_Mo_103 rfl ?_
  refine m_ast d_Mo_method_128 nm (by decide) (by exact h17) (by exact hm) ?_
  refine m_aload_n d_Mo_method_129 rfl (by first | rfl | exact vIsR_rf _) ?_
  refine m_get d_Mo_method_130 7 (by decide) kf_Mo_31 rfl ?_
  refine m_aload_n d_Mo_method_133 rfl (by first | rfl | exact vIsR_rf _) ?_
  refine m_at 134 rfl ?_
  refine m_get d_Mo_method_134 17 (by decide) kf_Mo_103 rfl ?_
  refine m_iload_n d_Mo_method_137 rfl ?_
  refine m_ast d_Mo_method_138 nm (by decide) (by exact h17) (by exact hm) ?_
  refine m_aload_n d_Mo_method_139 rfl (by first | rfl | exact vIsR_rf _) ?_
  refine m_get d_Mo_method_140 8 (by decide) kf_Mo_34 rfl ?_
  refine m_aload_n d_Mo_method_143 rfl (by first | rfl | exact vIsR_rf _) ?_
  refine m_get d_Mo_method_144 17 (by decide) kf_Mo_103 rfl ?_
  refine m_aload_n d_Mo_method_147 rfl (by first | rfl | exact vIsR_rf _) ?_
  refine m_at 148 rfl ?_
  refine m_get d_Mo_method_148 1 (by decide) kf_Mo_13 rfl ?_
  refine m_iload_n d_Mo_method_151 rfl ?_
  refine m_ald d_Mo_method_152 c (by decide) (by exact rfl) (by exact hc) ?_
  refine m_ast d_Mo_method_153 nm (by decide) (by exact h17) (by exact hm) ?_
  refine m_aload_n d_Mo_method_154 rfl (by first | rfl | exact vIsR_rf _) ?_
  refine m_dup d_Mo_method_155 (by first | rfl | exact vRf_cat _) ?_
  refine m_get d_Mo_method_156 17 (by decide) kf_Mo_103 rfl ?_
  refine m_iconst (v := 1) d_Mo_method_159 (by decide) ?_
  refine m_iadd d_Mo_method_160 ?_
  refine m_putI d_Mo_method_161 17 (by decide) kf_Mo_103 ?_
  refine m_aload_n d_Mo_method_164 rfl (by first | rfl | exact vIsR_rf _) ?_
  refine m_get d_Mo_method_165 17 (by decide) kf_Mo_103 rfl ?_
  refine m_at 168 rfl ?_
  refine m_iconst (v := 1) d_Mo_method_168 (by decide) ?_
  refine m_isub d_Mo_method_169 ?_
  rw [show va_up Y 19 (bI (!true)) 17 = nI nm from h17]
  rw [show (va_up (va_up Y 19 (bI (!true))) 17 (nI nm + 1) 17) - 1 = nI nm by rw [va_up_self, nI_1, nI_pred], nI_1]
  exact m_iret d_Mo_method_170 rfl rfl ⟨rfl, rfl, rfl⟩
theorem c_Mo_keep_bad {v b : Int32} (hb : inB v 0 (Y 17 - 1) = false) : VM G M_Mo_keep 2 60 0 [(0, .ref am), (1, .int v), (2, .int b)] [] am ad X Y (mRet none X (va_up Y 19 1)) := by
  refine m_aload_n d_Mo_keep_0 rfl (by first | rfl | exact vIsR_rf _) ?_
  refine m_aload_n d_Mo_keep_1 rfl (by first | rfl | exact vIsR_rf _) ?_
  refine m_iload_n d_Mo_keep_2 rfl ?_
  refine m_callV1r (M1 := M_Mo_isMethod) d_Mo_keep_3 km_Mo_122 kI_Mo_isMethod ks_Mo_Mo_isMethod (by decide) (by first | rfl | exact vRf_cat _) (by decide) kM_Mo_isMethod ki_Mo (by decide) (by decide +kernel) c_Mo_isMethod ?_
  refine m_callV1r (M1 := M_Mo_bad) d_Mo_keep_6 km_Mo_110 kI_Mo_bad ks_Mo_Mo_bad (by decide) (by first | rfl | exact vRf_cat _) (by decide) kM_Mo_bad ki_Mo (by decide) (by decide +kernel) c_Mo_bad ?_
  rw [hb]
  refine m_if_eq (tgt := 13) d_Mo_keep_9 (by decide) (fun c => absurd c (by decide)) (fun _ => ?_)
  exact m_vret d_Mo_keep_12 rfl ⟨rfl, rfl, rfl⟩
theorem c_Mo_keep_ok {m nm : Nat} {b : Bool} (hy : Y 17 = nI nm) (hm : m < nm) (hn : nm ≤ 24) : VM G M_Mo_keep 2 60 0 [(0, .ref am), (1, .int (nI m)), (2, .int (bI b))] [] am ad X Y (mRet none (mW X 9 m (bI b)) (va_up Y 19 0)) := by
  have hb : inB (nI m) 0 (Y 17 - 1) = true := by rw [hy]; exact (inB_iff (by omega)).mpr ⟨m, hm, rfl⟩
  refine m_aload_n d_Mo_keep_0 rfl (by first | rfl | exact vIsR_rf _) ?_
  refine m_aload_n d_Mo_keep_1 rfl (by first | rfl | exact vIsR_rf _) ?_
  refine m_iload_n d_Mo_keep_2 rfl ?_
  refine m_callV1r (M1 := M_Mo_isMethod) d_Mo_keep_3 km_Mo_122 kI_Mo_isMethod ks_Mo_Mo_isMethod (by decide) (by first | rfl | exact vRf_cat _) (by decide) kM_Mo_isMethod ki_Mo (by decide) (by decide +kernel) c_Mo_isMethod ?_
  refine m_callV1r (M1 := M_Mo_bad) d_Mo_keep_6 km_Mo_110 kI_Mo_bad ks_Mo_Mo_bad (by decide) (by first | rfl | exact vRf_cat _) (by decide) kM_Mo_bad ki_Mo (by decide) (by decide +kernel) c_Mo_bad ?_
  rw [hb]
  refine m_if_eq (tgt := 13) d_Mo_keep_9 (by decide) (fun _ => ?_) (fun c => absurd (rfl) c)
  refine m_aload_n d_Mo_keep_13 rfl (by first | rfl | exact vIsR_rf _) ?_
  refine m_get d_Mo_keep_14 9 (by decide) kf_Mo_37 rfl ?_
  refine m_iload_n d_Mo_keep_17 rfl ?_
  refine m_iload_n d_Mo_keep_18 rfl ?_
  refine m_zast d_Mo_keep_19 m (by decide) (by exact rfl) (by exact (show m < 24 by omega)) (by exact (bI_np _)) ?_
  exact m_vret d_Mo_keep_20 rfl ⟨rfl, rfl, rfl⟩
end VM2
