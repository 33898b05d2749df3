/-! The class: count, told, inside, trace, keep. -/
section VC5
variable {G : vG} {M : vM} {fr lo pc mc ms : Nat} {lv : List (Nat × Value)} {st : List Value} {nc nm : Nat} {ad : Nat → Nat → Nat} {X Z : Nat → Nat → Int32} {L : Nat → Nat → List Nat} {Q : sQ0}
def zK (Z : Nat → Nat → Int32) (nc : Nat) (g : Int32) : Prop := zR Z nc ∧ (∃ b, Z 3 1 = bI b) ∧ Z 3 0 = g
theorem zK_zT {g : Int32} {t : tT} (h : zK Z nc g) : zK (zT Z nc nm t) nc g := ⟨fun c hc => by rw [← h.1 c hc]; simp [zT], ⟨t.2.2, zT_3⟩, by rw [← h.2.2]; simp [zT]⟩
def cK (v : Option Value) (X1 : Nat → Nat → Int32) (L1 : Nat → Nat → List Nat) (nc : Nat) (g : Int32) : sQ0 := fun r X Z L => r = .inl v ∧ X = X1 ∧ L = L1 ∧ zK Z nc g
def cKx (E : String) (X1 : Nat → Nat → Int32) (L1 : Nat → Nat → List Nat) (nc : Nat) (g : Int32) : sQ0 := fun r X Z L => r = .inr E ∧ X = X1 ∧ L = L1 ∧ zK Z nc g
theorem c_Cs_count_par {c : Nat} {g : Int32} (hw : wW X nc nm) (hL : cR X nc nm L) (hz : zK Z nc g) (hc : c < nc) : VS G M_Cs_count 9 240 0 [(0, .ref (ad 5 0)), (1, .int (nI (10 + c)))] [] nc nm ad X Z L 0 0 (cK (some (.int (X 0 c))) X L nc g) := by
  have h8 := hw.1.1
  have e1 : nI (10 + c) - 10 = nI c := by
    have := pk_sub (a := 10 + c) (b := 10) (by omega)
    rw [show 10 + c - 10 = c by omega] at this
    exact this
  refine s_iload_n d_Cs_count_0 rfl ?_
  refine s_tableOut (tgt := 93) d_Cs_count_1 (Or.inr (by rw [nI_toInt (by omega)]; omega)) (by decide) ?_
  refine s_iload_n d_Cs_count_93 rfl ?_
  refine s_bipush (v := 10) d_Cs_count_94 (by decide) ?_
  refine s_icmp_lt (tgt := 110) d_Cs_count_96 (by decide) (fun c => absurd c (nI_nlt (b := 10) (by omega) (by omega))) (fun _ => ?_)
  refine s_aload_n d_Cs_count_99 rfl (by first | rfl | exact vIsR_rf _) ?_
  refine s_iload_n d_Cs_count_100 rfl ?_
  refine s_bipush (v := 10) d_Cs_count_101 (by decide) ?_
  refine s_isub d_Cs_count_103 ?_
  rw [e1]
  refine s_callV1r (M1 := M_Cs_parentOf) 5 0 d_Cs_count_104 rfl rfl rfl km_Cs_182 kI_Cs_parentOf ks_Cs_Cs_parentOf (by decide) (by first | rfl | exact vRf_cat _) (by decide) kM_Cs_parentOf ki_Cs (by decide) (by decide +kernel) (c_Cs_parentOf (v := nI c) hw hL hz.1) ?_
  refine s_goto (tgt := 112) d_Cs_count_107 (by decide) ?_
  rw [(inB_iff (by omega)).mpr ⟨c, hc, rfl⟩, if_pos rfl, nI_clamp (by omega)]
  exact s_iret d_Cs_count_112 rfl rfl ⟨rfl, rfl, rfl, hz⟩
theorem c_Cs_count_out {w : Int32} {g : Int32} (hw : wW X nc nm) (hL : cR X nc nm L) (hz : zK Z nc g) (hno : ∀ c, c < nc → w ≠ nI (10 + c)) (hb : inB w 0 4 = false) : VS G M_Cs_count 9 240 0 [(0, .ref (ad 5 0)), (1, .int w)] [] nc nm ad X Z L 0 0 (cK (some (.int (-2))) X L nc g) := by
  have h8 := hw.1.1
  have ho : w.toInt < 0 ∨ 4 < w.toInt := by
    simp only [inB, Bool.and_eq_false_iff, decide_eq_false_iff_not, Int32.le_iff_toInt_le] at hb
    have e0 : (0 : Int32).toInt = 0 := rfl
    have e4 : (4 : Int32).toInt = 4 := rfl
    rw [e0, e4] at hb
    omega
  refine s_iload_n d_Cs_count_0 rfl ?_
  refine s_tableOut (tgt := 93) d_Cs_count_1 ho (by decide) ?_
  refine s_iload_n d_Cs_count_93 rfl ?_
  refine s_bipush (v := 10) d_Cs_count_94 (by decide) ?_
  refine s_icmp_lt (tgt := 110) d_Cs_count_96 (by decide) (fun c_96 => ?_) (fun c_96 => ?_)
  · refine s_bipush (v := (-2)) d_Cs_count_110 (by decide) ?_
    exact s_iret d_Cs_count_112 rfl rfl ⟨rfl, rfl, rfl, hz⟩
  · obtain ⟨c, e1, e2, e3⟩ := nI_lt10 c_96
    refine s_aload_n d_Cs_count_99 rfl (by first | rfl | exact vIsR_rf _) ?_
    refine s_iload_n d_Cs_count_100 rfl ?_
    refine s_bipush (v := 10) d_Cs_count_101 (by decide) ?_
    refine s_isub d_Cs_count_103 ?_
    rw [e1]
    refine s_callV1r (M1 := M_Cs_parentOf) 5 0 d_Cs_count_104 rfl rfl rfl km_Cs_182 kI_Cs_parentOf ks_Cs_Cs_parentOf (by decide) (by first | rfl | exact vRf_cat _) (by decide) kM_Cs_parentOf ki_Cs (by decide) (by decide +kernel) (c_Cs_parentOf (v := nI c) hw hL hz.1) ?_
    refine s_goto (tgt := 112) d_Cs_count_107 (by decide) ?_
    rw [show inB (nI c) 0 (nI nc - 1) = false by
      cases hb2 : inB (nI c) 0 (nI nc - 1) with
      | false => rfl
      | true =>
        obtain ⟨d, h1, h2⟩ := (inB_iff (by omega)).mp hb2
        have := (nI_eq (by omega) (by omega)).mp h2
        subst this
        exact absurd e2 (hno c h1), if_neg (by decide)]
    exact s_iret d_Cs_count_112 rfl rfl ⟨rfl, rfl, rfl, hz⟩
theorem c_Cs_count_in {w : Nat} {g : Int32} (hw : wW X nc nm) (hL : cR X nc nm L) (hz : zK Z nc g) (hw5 : w < 5) : VS G M_Cs_count 9 240 0 [(0, .ref (ad 5 0)), (1, .int (nI w))] [] nc nm ad X Z L 0 0 (cK (some (.int (if w = 0 then nI nc else if w = 1 then nI nm else if w = 4 then g else if w = 2 then nI (cntB (liveF X nc nm).2.1 nm) else nI (cntB (liveF X nc nm).1 nc)))) X L nc g) := by
  obtain ⟨b, hb⟩ := hz.2.1
  refine s_iload_n d_Cs_count_0 rfl ?_
  rcases (show w = 0 ∨ w = 1 ∨ w = 2 ∨ w = 3 ∨ w = 4 by omega) with rfl | rfl | rfl | rfl | rfl
  · refine s_tableIn (tgt := 36) (off := 35) d_Cs_count_1 (by decide) (by decide) (by decide) (by decide) ?_
    refine s_aload_n d_Cs_count_36 rfl (by first | rfl | exact vIsR_rf _) ?_
    refine s_get 5 0 d_Cs_count_37 rfl rfl rfl i_Cs 0 (by decide) kf_Cs_10 (Or.inl rfl) rfl ?_
    refine s_get 5 1 d_Cs_count_40 rfl rfl rfl i_Pr 0 (by decide) kf_Cs_51 (Or.inl rfl) rfl ?_
    refine s_clsSize d_Cs_count_43 km_Cs_55 hL ?_
    exact s_iret d_Cs_count_46 rfl rfl ⟨rfl, rfl, rfl, hz⟩
  · refine s_tableIn (tgt := 47) (off := 46) d_Cs_count_1 (by decide) (by decide) (by decide) (by decide) ?_
    refine s_aload_n d_Cs_count_47 rfl (by first | rfl | exact vIsR_rf _) ?_
    refine s_get 5 0 d_Cs_count_48 rfl rfl rfl i_Cs 0 (by decide) kf_Cs_10 (Or.inl rfl) rfl ?_
    refine s_get 5 1 d_Cs_count_51 rfl rfl rfl i_Pr 1 (by decide) kf_Cs_87 (Or.inl rfl) rfl ?_
    refine s_metSize d_Cs_count_54 km_Cs_55 hL ?_
    exact s_iret d_Cs_count_57 rfl rfl ⟨rfl, rfl, rfl, hz⟩
  · refine s_tableIn (tgt := 58) (off := 57) d_Cs_count_1 (by decide) (by decide) (by decide) (by decide) ?_
    refine s_aload_n d_Cs_count_58 rfl (by first | rfl | exact vIsR_rf _) ?_
    refine s_get 5 0 d_Cs_count_59 rfl rfl rfl i_Cs 2 (by decide) kf_Cs_28 (Or.inl rfl) rfl ?_
    refine s_callV0u (M1 := M_Re_mark) 5 3 d_Cs_count_62 rfl rfl rfl km_Cs_126 kI_Re_mark ks_Re_Re_mark (by decide) (by decide) kM_Re_mark ki_Re (by decide) (by decide +kernel) (c_Re_mark hw hL hb) ?_
    refine s_aload_n d_Cs_count_65 rfl (by first | rfl | exact vIsR_rf _) ?_
    refine s_get 5 0 d_Cs_count_66 rfl rfl rfl i_Cs 0 (by decide) kf_Cs_10 (Or.inl rfl) rfl ?_
    refine s_callV0r (M1 := M_Pr_liveMethods) 5 1 d_Cs_count_69 rfl rfl rfl km_Cs_176 kI_Pr_liveMethods ks_Pr_Pr_liveMethods (by decide) (by decide) kM_Pr_liveMethods ki_Pr (by decide) (by decide +kernel) (c_Pr_liveMethods hw hL) ?_
    exact s_iret d_Cs_count_72 rfl rfl ⟨rfl, rfl, rfl, zK_zT hz⟩
  · refine s_tableIn (tgt := 73) (off := 72) d_Cs_count_1 (by decide) (by decide) (by decide) (by decide) ?_
    refine s_aload_n d_Cs_count_73 rfl (by first | rfl | exact vIsR_rf _) ?_
    refine s_get 5 0 d_Cs_count_74 rfl rfl rfl i_Cs 2 (by decide) kf_Cs_28 (Or.inl rfl) rfl ?_
    refine s_callV0u (M1 := M_Re_mark) 5 3 d_Cs_count_77 rfl rfl rfl km_Cs_126 kI_Re_mark ks_Re_Re_mark (by decide) (by decide) kM_Re_mark ki_Re (by decide) (by decide +kernel) (c_Re_mark hw hL hb) ?_
    refine s_aload_n d_Cs_count_80 rfl (by first | rfl | exact vIsR_rf _) ?_
    refine s_get 5 0 d_Cs_count_81 rfl rfl rfl i_Cs 0 (by decide) kf_Cs_10 (Or.inl rfl) rfl ?_
    refine s_callV0r (M1 := M_Pr_madeClasses) 5 1 d_Cs_count_84 rfl rfl rfl km_Cs_179 kI_Pr_madeClasses ks_Pr_Pr_madeClasses (by decide) (by decide) kM_Pr_madeClasses ki_Pr (by decide) (by decide +kernel) (c_Pr_madeClasses hw hL) ?_
    exact s_iret d_Cs_count_87 rfl rfl ⟨rfl, rfl, rfl, zK_zT hz⟩
  · refine s_tableIn (tgt := 88) (off := 87) d_Cs_count_1 (by decide) (by decide) (by decide) (by decide) ?_
    refine s_aload_n d_Cs_count_88 rfl (by first | rfl | exact vIsR_rf _) ?_
    refine s_get 5 0 d_Cs_count_89 rfl rfl rfl i_Cs 4 (by decide) kf_Cs_39 (Or.inl rfl) rfl ?_
    rw [hz.2.2]
    exact s_iret d_Cs_count_92 rfl rfl ⟨rfl, rfl, rfl, hz⟩
theorem s_told_go {m w : Int32} {Q : sQ0} (hm : nm ≤ 24) (hL : cR X nc nm L) (k : VS G M_Cs_told 7 120 23 [(0, .ref (ad 5 0)), (1, .int m), (2, .int w)] [.int (bI (inB m 0 (nI nm - 1) && inB w 0 7))] nc nm ad X Z L 1 6 Q) : VS G M_Cs_told 7 120 0 [(0, .ref (ad 5 0)), (1, .int m), (2, .int w)] [] nc nm ad X Z L 1 6 Q := by
  have no : (inB m 0 (nI nm - 1) && inB w 0 7) = false → VS G M_Cs_told 7 120 22 [(0, .ref (ad 5 0)), (1, .int m), (2, .int w)] [] nc nm ad X Z L 1 6 Q := by
    intro h
    rw [h] at k
    refine s_iconst (v := 0) d_Cs_told_22 (by decide) ?_
    exact k
  refine s_aload_n d_Cs_told_0 rfl (by first | rfl | exact vIsR_rf _) ?_
  refine s_iload_n d_Cs_told_1 rfl ?_
  refine s_callV1r (M1 := M_Cs_isMethod) 5 0 d_Cs_told_2 rfl rfl rfl km_Cs_102 kI_Cs_isMethod ks_Cs_Cs_isMethod (by decide) (by first | rfl | exact vRf_cat _) (by decide) kM_Cs_isMethod ki_Cs (by decide) (by decide +kernel) (c_Cs_isMethod hm hL) ?_
  cases h1 : inB m 0 (nI nm - 1) with
  | false =>
    refine s_if_eq (tgt := 22) d_Cs_told_5 (by decide) (fun _ => ?_) (fun c => absurd (rfl) c)
    exact no (by rw [h1]; rfl)
  | true =>
    refine s_if_eq (tgt := 22) d_Cs_told_5 (by decide) (fun c => absurd c (by decide)) (fun _ => ?_)
    refine s_iload_n d_Cs_told_8 rfl ?_
    refine s_if_lt (tgt := 22) d_Cs_told_9 (by decide) (fun c_9 => ?_) (fun c_9 => ?_)
    · exact no (by rw [h1, Bool.true_and]; simp [inB, Int32.not_le.mpr c_9])
    · refine s_iload_n d_Cs_told_12 rfl ?_
      refine s_bipush (v := 7) d_Cs_told_13 (by decide) ?_
      refine s_icmp_gt (tgt := 22) d_Cs_told_15 (by decide) (fun c_15 => ?_) (fun c_15 => ?_)
      · exact no (by rw [h1, Bool.true_and]; simp [inB, Int32.not_le.mpr c_15])
      · rw [h1, show inB w 0 7 = true by simp [inB, Int32.not_lt.mp c_9, Int32.not_lt.mp c_15]] at k
        refine s_iconst (v := 1) d_Cs_told_18 (by decide) ?_
        refine s_goto (tgt := 23) d_Cs_told_19 (by decide) ?_
        exact k
theorem c_Cs_told_bad {m w : Int32} {g : Int32} (hm : nm ≤ 24) (hL : cR X nc nm L) (hz : zK Z nc g) (hb : (inB m 0 (nI nm - 1) && inB w 0 7) = false) : VS G M_Cs_told 7 120 0 [(0, .ref (ad 5 0)), (1, .int m), (2, .int w)] [] nc nm ad X Z L 1 6 (cKx eIa X L nc g) := by
  refine s_told_go hm hL ?_
  rw [hb]
  refine s_callS1 (M1 := M_Cs_require) d_Cs_told_23 km_Cs_47 kS_Cs_require (by decide) (by first | rfl | exact vRf_cat _) (by decide) kM_Cs_require ki_Cs (by decide) (by decide +kernel) (c_Cs_require_f) rfl (fun v X9 Z9 L9 z => nomatch z.1) (fun E X9 Z9 L9 z => by obtain ⟨z1, rfl, rfl, rfl⟩ := z; exact ⟨z1, rfl, rfl, hz⟩)
def tdK (w : Nat) : Nat := [2, 3, 4, 5, 9, 8, 7, 6].getD w 0
theorem c_Cs_told_ok {m w : Nat} {g : Int32} (hw : wW X nc nm) (hL : cR X nc nm L) (hz : zK Z nc g) (hm : m < nm) (hw8 : w < 8) (h8m : X 8 m = X 1 (oN X m)) : VS G M_Cs_told 7 120 0 [(0, .ref (ad 5 0)), (1, .int (nI m)), (2, .int (nI w))] [] nc nm ad X Z L 1 6 (cK (some (.int (X (tdK w) m))) X L nc g) := by
  have h24 := hw.2.1
  have ho := hw.2.2.1 m hm
  refine s_told_go h24 hL ?_
  rw [(inB_iff (by omega)).mpr ⟨m, hm, rfl⟩, show inB (nI w) 0 7 = true from (inB_of (n := 7) 7 rfl (by omega)).mpr ⟨w, by omega, rfl⟩]
  refine s_callS1u (M1 := M_Cs_require) d_Cs_told_23 km_Cs_47 kS_Cs_require (by decide) (by first | rfl | exact vRf_cat _) (by decide) kM_Cs_require ki_Cs (by decide) (by decide +kernel) (c_Cs_require_t) ?_
  refine s_aload_n d_Cs_told_26 rfl (by first | rfl | exact vIsR_rf _) ?_
  refine s_get 5 0 d_Cs_told_27 rfl rfl rfl i_Cs 0 (by decide) kf_Cs_10 (Or.inl rfl) rfl ?_
  refine s_get 5 1 d_Cs_told_30 rfl rfl rfl i_Pr 1 (by decide) kf_Cs_87 (Or.inl rfl) rfl ?_
  refine s_iload_n d_Cs_told_33 rfl ?_
  refine s_metGet d_Cs_told_34 km_Cs_68 hL (m) rfl (hm) ?_
  refine s_cast 1 (m) d_Cs_told_37 (decide_eq_true (hm)) rfl rfl kc_Cs_96 kx_Pm_Pm ?_
  refine s_astore_n d_Cs_told_40 (by first | rfl | exact vIsR_rf _) (by decide) rfl ?_
  refine s_at 41 rfl ?_
  refine s_iload_n d_Cs_told_41 rfl ?_
  rcases (show w = 0 ∨ w = 1 ∨ w = 2 ∨ w = 3 ∨ w = 4 ∨ w = 5 ∨ w = 6 ∨ w = 7 by omega) with rfl | rfl | rfl | rfl | rfl | rfl | rfl | rfl
  · refine s_tableIn (tgt := 84) (off := 42) d_Cs_told_42 (by decide) (by decide) (by decide) (by decide) ?_
    refine s_aload_n d_Cs_told_84 rfl (by first | rfl | exact vIsR_rf _) ?_
    refine s_get 1 (m) d_Cs_told_85 (decide_eq_true (hm)) rfl rfl i_Pm 0 (by decide) kf_Cs_143 (Or.inl rfl) rfl ?_
    refine s_get 0 (oN X m) d_Cs_told_88 (decide_eq_true (ho.1)) rfl rfl i_Pc 3 (by decide) kf_Cs_147 (Or.inl rfl) rfl ?_
    rw [hz.1 _ ho.1, ← ho.2]
    exact s_iret d_Cs_told_91 rfl rfl ⟨rfl, rfl, rfl, hz⟩
  · refine s_tableIn (tgt := 92) (off := 50) d_Cs_told_42 (by decide) (by decide) (by decide) (by decide) ?_
    refine s_aload_n d_Cs_told_92 rfl (by first | rfl | exact vIsR_rf _) ?_
    refine s_get 1 (m) d_Cs_told_93 (decide_eq_true (hm)) rfl rfl i_Pm 5 (by decide) kf_Cs_150 (Or.inl rfl) rfl ?_
    exact s_iret d_Cs_told_96 rfl rfl ⟨rfl, rfl, rfl, hz⟩
  · refine s_tableIn (tgt := 97) (off := 55) d_Cs_told_42 (by decide) (by decide) (by decide) (by decide) ?_
    refine s_aload_n d_Cs_told_97 rfl (by first | rfl | exact vIsR_rf _) ?_
    refine s_get 1 (m) d_Cs_told_98 (decide_eq_true (hm)) rfl rfl i_Pm 3 (by decide) kf_Cs_153 (Or.inl rfl) rfl ?_
    exact s_iret d_Cs_told_101 rfl rfl ⟨rfl, rfl, rfl, hz⟩
  · refine s_tableIn (tgt := 102) (off := 60) d_Cs_told_42 (by decide) (by decide) (by decide) (by decide) ?_
    refine s_aload_n d_Cs_told_102 rfl (by first | rfl | exact vIsR_rf _) ?_
    refine s_get 1 (m) d_Cs_told_103 (decide_eq_true (hm)) rfl rfl i_Pm 4 (by decide) kf_Cs_109 (Or.inl rfl) rfl ?_
    refine s_itSize (m) d_Cs_told_106 km_Cs_55 (hm) ?_
    rw [← (hw.2.2.2.1 m hm).2]
    exact s_iret d_Cs_told_109 rfl rfl ⟨rfl, rfl, rfl, hz⟩
  · refine s_tableIn (tgt := 110) (off := 68) d_Cs_told_42 (by decide) (by decide) (by decide) (by decide) ?_
    refine s_aload_n d_Cs_told_110 rfl (by first | rfl | exact vIsR_rf _) ?_
    refine s_get 1 (m) d_Cs_told_111 (decide_eq_true (hm)) rfl rfl i_Pm 6 (by decide) kf_Cs_118 (Or.inl rfl) rfl ?_
    have hk := hw.2.2.2.2.1 m hm
    rw [show tdK 4 = 9 from rfl, hk]
    cases hb : kN X m with
    | false =>
      refine s_if_eq (tgt := 121) d_Cs_told_114 (by decide) (fun _ => ?_) (fun c => absurd (rfl) c)
      refine s_iconst (v := 0) d_Cs_told_121 (by decide) ?_
      exact s_iret d_Cs_told_122 rfl rfl ⟨rfl, rfl, rfl, hz⟩
    | true =>
      refine s_if_eq (tgt := 121) d_Cs_told_114 (by decide) (fun c => absurd c (by decide)) (fun _ => ?_)
      refine s_iconst (v := 1) d_Cs_told_117 (by decide) ?_
      refine s_goto (tgt := 122) d_Cs_told_118 (by decide) ?_
      exact s_iret d_Cs_told_122 rfl rfl ⟨rfl, rfl, rfl, hz⟩
  · refine s_tableIn (tgt := 123) (off := 81) d_Cs_told_42 (by decide) (by decide) (by decide) (by decide) ?_
    refine s_aload_n d_Cs_told_123 rfl (by first | rfl | exact vIsR_rf _) ?_
    refine s_get 1 (m) d_Cs_told_124 (decide_eq_true (hm)) rfl rfl i_Pm 0 (by decide) kf_Cs_143 (Or.inl rfl) rfl ?_
    refine s_get 0 (oN X m) d_Cs_told_127 (decide_eq_true (ho.1)) rfl rfl i_Pc 1 (by decide) kf_Cs_156 (Or.inl rfl) rfl ?_
    rw [← h8m]
    exact s_iret d_Cs_told_130 rfl rfl ⟨rfl, rfl, rfl, hz⟩
  · refine s_tableIn (tgt := 131) (off := 89) d_Cs_told_42 (by decide) (by decide) (by decide) (by decide) ?_
    refine s_aload_n d_Cs_told_131 rfl (by first | rfl | exact vIsR_rf _) ?_
    refine s_get 1 (m) d_Cs_told_132 (decide_eq_true (hm)) rfl rfl i_Pm 2 (by decide) kf_Cs_159 (Or.inl rfl) rfl ?_
    exact s_iret d_Cs_told_135 rfl rfl ⟨rfl, rfl, rfl, hz⟩
  · refine s_tableOut (tgt := 136) d_Cs_told_42 (Or.inr (by decide)) (by decide) ?_
    refine s_aload_n d_Cs_told_136 rfl (by first | rfl | exact vIsR_rf _) ?_
    refine s_get 1 (m) d_Cs_told_137 (decide_eq_true (hm)) rfl rfl i_Pm 1 (by decide) kf_Cs_162 (Or.inl rfl) rfl ?_
    exact s_iret d_Cs_told_140 rfl rfl ⟨rfl, rfl, rfl, hz⟩
theorem c_It_part {m j w : Nat} (hw : wW X nc nm) (hz : zR Z nc) (hm : m < nm) (hj : j < iN X m) (hw4 : w < 4) : VS G M_It_part 0 0 0 [(0, .ref (ad 2 (m * 5 + j))), (1, .int (nI w))] [] nc nm ad X Z L 0 0 (sRet (some (.int (X (12 + w) (m * 5 + j)))) X Z L) := by
  have h5 := (hw.2.2.2.1 m hm).1
  have hv := cV2 (nc := nc) hm hj (by omega)
  refine s_iload_n d_It_part_0 rfl ?_
  rcases (show w = 0 ∨ w = 1 ∨ w = 2 ∨ w = 3 by omega) with rfl | rfl | rfl | rfl
  · refine s_tableIn (tgt := 28) (off := 27) d_It_part_1 (by decide) (by decide) (by decide) (by decide) ?_
    refine s_aload_n d_It_part_28 rfl (by first | rfl | exact vIsR_rf _) ?_
    refine s_get 2 (m * 5 + j) d_It_part_29 (hv) rfl rfl i_It 0 (by decide) kf_It_7 (Or.inl rfl) rfl ?_
    exact s_iret d_It_part_32 rfl rfl ⟨rfl, rfl, rfl, rfl⟩
  · refine s_tableIn (tgt := 33) (off := 32) d_It_part_1 (by decide) (by decide) (by decide) (by decide) ?_
    refine s_aload_n d_It_part_33 rfl (by first | rfl | exact vIsR_rf _) ?_
    refine s_get 2 (m * 5 + j) d_It_part_34 (hv) rfl rfl i_It 2 (by decide) kf_It_16 (Or.inl rfl) rfl ?_
    by_cases h1 : X 12 (m * 5 + j) = 1
    · obtain ⟨g1, g2⟩ := hw.2.2.2.2.2 m hm j hj h1
      rw [if_pos h1]
      refine s_ifnonnull (r := some (ad 0 (cN X (m * 5 + j)))) (tgt := 47) d_It_part_37 (by decide) (fun z => nomatch z) (fun _ _ => ?_)
      refine s_aload_n d_It_part_47 rfl (by first | rfl | exact vIsR_rf _) ?_
      refine s_get 2 (m * 5 + j) d_It_part_48 (hv) rfl rfl i_It 2 (by decide) kf_It_16 (Or.inl rfl) rfl ?_
      rw [if_pos h1]
      refine s_get 0 (cN X (m * 5 + j)) d_It_part_51 (decide_eq_true (g1)) rfl rfl i_Pc 3 (by decide) kf_It_26 (Or.inl rfl) rfl ?_
      rw [hz _ g1, ← g2]
      exact s_iret d_It_part_54 rfl rfl ⟨rfl, rfl, rfl, rfl⟩
    · rw [if_neg h1]
      refine s_ifnonnull (r := none) (tgt := 47) d_It_part_37 (by decide) (fun _ => ?_) (fun _ z => nomatch z)
      refine s_aload_n d_It_part_40 rfl (by first | rfl | exact vIsR_rf _) ?_
      refine s_get 2 (m * 5 + j) d_It_part_41 (hv) rfl rfl i_It 1 (by decide) kf_It_13 (Or.inl rfl) rfl ?_
      rw [if_neg h1]
      refine s_goto (tgt := 54) d_It_part_44 (by decide) ?_
      exact s_iret d_It_part_54 rfl rfl ⟨rfl, rfl, rfl, rfl⟩
  · refine s_tableIn (tgt := 55) (off := 54) d_It_part_1 (by decide) (by decide) (by decide) (by decide) ?_
    refine s_aload_n d_It_part_55 rfl (by first | rfl | exact vIsR_rf _) ?_
    refine s_get 2 (m * 5 + j) d_It_part_56 (hv) rfl rfl i_It 4 (by decide) kf_It_23 (Or.inl rfl) rfl ?_
    exact s_iret d_It_part_59 rfl rfl ⟨rfl, rfl, rfl, rfl⟩
  · refine s_tableOut (tgt := 60) d_It_part_1 (Or.inr (by decide)) (by decide) ?_
    refine s_aload_n d_It_part_60 rfl (by first | rfl | exact vIsR_rf _) ?_
    refine s_get 2 (m * 5 + j) d_It_part_61 (hv) rfl rfl i_It 3 (by decide) kf_It_20 (Or.inl rfl) rfl ?_
    exact s_iret d_It_part_64 rfl rfl ⟨rfl, rfl, rfl, rfl⟩
theorem s_inside_go {m i w : Int32} {Q : sQ0} (hm : nm ≤ 24) (hL : cR X nc nm L) (k : VS G M_Cs_inside 7 120 22 [(0, .ref (ad 5 0)), (1, .int m), (2, .int i), (3, .int w)] [.int (bI (inB m 0 (nI nm - 1) && inB w 0 3))] nc nm ad X Z L 1 6 Q) : VS G M_Cs_inside 7 120 0 [(0, .ref (ad 5 0)), (1, .int m), (2, .int i), (3, .int w)] [] nc nm ad X Z L 1 6 Q := by
  have no : (inB m 0 (nI nm - 1) && inB w 0 3) = false → VS G M_Cs_inside 7 120 21 [(0, .ref (ad 5 0)), (1, .int m), (2, .int i), (3, .int w)] [] nc nm ad X Z L 1 6 Q := by
    intro h
    rw [h] at k
    refine s_iconst (v := 0) d_Cs_inside_21 (by decide) ?_
    exact k
  refine s_aload_n d_Cs_inside_0 rfl (by first | rfl | exact vIsR_rf _) ?_
  refine s_iload_n d_Cs_inside_1 rfl ?_
  refine s_callV1r (M1 := M_Cs_isMethod) 5 0 d_Cs_inside_2 rfl rfl rfl km_Cs_102 kI_Cs_isMethod ks_Cs_Cs_isMethod (by decide) (by first | rfl | exact vRf_cat _) (by decide) kM_Cs_isMethod ki_Cs (by decide) (by decide +kernel) (c_Cs_isMethod hm hL) ?_
  cases h1 : inB m 0 (nI nm - 1) with
  | false =>
    refine s_if_eq (tgt := 21) d_Cs_inside_5 (by decide) (fun _ => ?_) (fun c => absurd (rfl) c)
    exact no (by rw [h1]; rfl)
  | true =>
    refine s_if_eq (tgt := 21) d_Cs_inside_5 (by decide) (fun c => absurd c (by decide)) (fun _ => ?_)
    refine s_iload_n d_Cs_inside_8 rfl ?_
    refine s_if_lt (tgt := 21) d_Cs_inside_9 (by decide) (fun c_9 => ?_) (fun c_9 => ?_)
    · exact no (by rw [h1, Bool.true_and]; simp [inB, Int32.not_le.mpr c_9])
    · refine s_iload_n d_Cs_inside_12 rfl ?_
      refine s_iconst (v := 3) d_Cs_inside_13 (by decide) ?_
      refine s_icmp_gt (tgt := 21) d_Cs_inside_14 (by decide) (fun c_14 => ?_) (fun c_14 => ?_)
      · exact no (by rw [h1, Bool.true_and]; simp [inB, Int32.not_le.mpr c_14])
      · rw [h1, show inB w 0 3 = true by simp [inB, Int32.not_lt.mp c_9, Int32.not_lt.mp c_14]] at k
        refine s_iconst (v := 1) d_Cs_inside_17 (by decide) ?_
        refine s_goto (tgt := 22) d_Cs_inside_18 (by decide) ?_
        exact k
theorem c_Cs_inside_bad {m i w : Int32} {g : Int32} (hm : nm ≤ 24) (hL : cR X nc nm L) (hz : zK Z nc g) (hb : (inB m 0 (nI nm - 1) && inB w 0 3) = false) : VS G M_Cs_inside 7 120 0 [(0, .ref (ad 5 0)), (1, .int m), (2, .int i), (3, .int w)] [] nc nm ad X Z L 1 6 (cKx eIa X L nc g) := by
  refine s_inside_go hm hL ?_
  rw [hb]
  refine s_callS1 (M1 := M_Cs_require) d_Cs_inside_22 km_Cs_47 kS_Cs_require (by decide) (by first | rfl | exact vRf_cat _) (by decide) kM_Cs_require ki_Cs (by decide) (by decide +kernel) (c_Cs_require_f) rfl (fun v X9 Z9 L9 z => nomatch z.1) (fun E X9 Z9 L9 z => by obtain ⟨z1, rfl, rfl, rfl⟩ := z; exact ⟨z1, rfl, rfl, hz⟩)
theorem c_Cs_inside_none {m : Nat} {i w : Int32} {g : Int32} (hw : wW X nc nm) (hL : cR X nc nm L) (hz : zK Z nc g) (hm : m < nm) (hb : inB w 0 3 = true) (hi : inB i 0 (nI (iN X m) - 1) = false) : VS G M_Cs_inside 7 120 0 [(0, .ref (ad 5 0)), (1, .int (nI m)), (2, .int i), (3, .int w)] [] nc nm ad X Z L 1 6 (cKx eNs X L nc g) := by
  have h24 := hw.2.1
  have h5 := (hw.2.2.2.1 m hm).1
  have thr : VS G M_Cs_inside 7 120 57 [(0, .ref (ad 5 0)), (1, .int (nI m)), (2, .int i), (3, .int w), (4, .ref (ad 1 m))] [] nc nm ad X Z L 1 6 (cKx eNs X L nc g) := by
    exact s_throwN (ix := 13) (b := b_Ns_init) (by decide +kernel) (by decide +kernel) (by decide +kernel) (by decide +kernel) d_Cs_inside_57 d_Cs_inside_60 d_Cs_inside_61 d_Cs_inside_63 d_Cs_inside_66 (by decide) kc_Cs_163 ki_Ns (text := "no such ITEM") (List.mem_of_getElem? (i := 7) rfl) tw_Cs_167 rfl (by first | decide | omega) (by first | exact Nat.le_of_ble_eq_true rfl | omega) ⟨rfl, rfl, rfl, hz⟩
  refine s_inside_go h24 hL ?_
  rw [(inB_iff (by omega)).mpr ⟨m, hm, rfl⟩, hb]
  refine s_callS1u (M1 := M_Cs_require) d_Cs_inside_22 km_Cs_47 kS_Cs_require (by decide) (by first | rfl | exact vRf_cat _) (by decide) kM_Cs_require ki_Cs (by decide) (by decide +kernel) (c_Cs_require_t) ?_
  refine s_aload_n d_Cs_inside_25 rfl (by first | rfl | exact vIsR_rf _) ?_
  refine s_get 5 0 d_Cs_inside_26 rfl rfl rfl i_Cs 0 (by decide) kf_Cs_10 (Or.inl rfl) rfl ?_
  refine s_get 5 1 d_Cs_inside_29 rfl rfl rfl i_Pr 1 (by decide) kf_Cs_87 (Or.inl rfl) rfl ?_
  refine s_iload_n d_Cs_inside_32 rfl ?_
  refine s_metGet d_Cs_inside_33 km_Cs_68 hL (m) rfl (hm) ?_
  refine s_cast 1 (m) d_Cs_inside_36 (decide_eq_true (hm)) rfl rfl kc_Cs_96 kx_Pm_Pm ?_
  refine s_astore d_Cs_inside_39 (by first | rfl | exact vIsR_rf _) (by decide) rfl ?_
  refine s_at 41 rfl ?_
  refine s_iload_n d_Cs_inside_41 rfl ?_
  refine s_if_lt (tgt := 57) d_Cs_inside_42 (by decide) (fun c_42 => ?_) (fun c_42 => ?_)
  · exact thr
  · refine s_iload_n d_Cs_inside_45 rfl ?_
    refine s_aload d_Cs_inside_46 rfl (by first | rfl | exact vIsR_rf _) ?_
    refine s_get 1 (m) d_Cs_inside_48 (decide_eq_true (hm)) rfl rfl i_Pm 4 (by decide) kf_Cs_109 (Or.inl rfl) rfl ?_
    refine s_itSize (m) d_Cs_inside_51 km_Cs_55 (hm) ?_
    refine s_icmp_lt (tgt := 67) d_Cs_inside_54 (by decide) (fun c => absurd c ((fun z => by rw [inB_yes (by omega) c_42 (Int32.not_le.mpr z)] at hi; cases hi))) (fun _ => ?_)
    exact thr
theorem c_Cs_inside_ok {m j w : Nat} {g : Int32} (hw : wW X nc nm) (hL : cR X nc nm L) (hz : zK Z nc g) (hm : m < nm) (hj : j < iN X m) (hw4 : w < 4) : VS G M_Cs_inside 7 120 0 [(0, .ref (ad 5 0)), (1, .int (nI m)), (2, .int (nI j)), (3, .int (nI w))] [] nc nm ad X Z L 1 6 (cK (some (.int (X (12 + w) (m * 5 + j)))) X L nc g) := by
  have h24 := hw.2.1
  have h5 := (hw.2.2.2.1 m hm).1
  have hv := cV2 (nc := nc) hm hj (by omega)
  refine s_inside_go h24 hL ?_
  rw [(inB_iff (by omega)).mpr ⟨m, hm, rfl⟩, show inB (nI w) 0 3 = true from (inB_of (n := 3) 3 rfl (by omega)).mpr ⟨w, by omega, rfl⟩]
  refine s_callS1u (M1 := M_Cs_require) d_Cs_inside_22 km_Cs_47 kS_Cs_require (by decide) (by first | rfl | exact vRf_cat _) (by decide) kM_Cs_require ki_Cs (by decide) (by decide +kernel) (c_Cs_require_t) ?_
  refine s_aload_n d_Cs_inside_25 rfl (by first | rfl | exact vIsR_rf _) ?_
  refine s_get 5 0 d_Cs_inside_26 rfl rfl rfl i_Cs 0 (by decide) kf_Cs_10 (Or.inl rfl) rfl ?_
  refine s_get 5 1 d_Cs_inside_29 rfl rfl rfl i_Pr 1 (by decide) kf_Cs_87 (Or.inl rfl) rfl ?_
  refine s_iload_n d_Cs_inside_32 rfl ?_
  refine s_metGet d_Cs_inside_33 km_Cs_68 hL (m) rfl (hm) ?_
  refine s_cast 1 (m) d_Cs_inside_36 (decide_eq_true (hm)) rfl rfl kc_Cs_96 kx_Pm_Pm ?_
  refine s_astore d_Cs_inside_39 (by first | rfl | exact vIsR_rf _) (by decide) rfl ?_
  refine s_at 41 rfl ?_
  refine s_iload_n d_Cs_inside_41 rfl ?_
  refine s_if_lt (tgt := 57) d_Cs_inside_42 (by decide) (fun c => absurd c (nI_pos (by omega))) (fun _ => ?_)
  refine s_iload_n d_Cs_inside_45 rfl ?_
  refine s_aload d_Cs_inside_46 rfl (by first | rfl | exact vIsR_rf _) ?_
  refine s_get 1 (m) d_Cs_inside_48 (decide_eq_true (hm)) rfl rfl i_Pm 4 (by decide) kf_Cs_109 (Or.inl rfl) rfl ?_
  refine s_itSize (m) d_Cs_inside_51 km_Cs_55 (hm) ?_
  refine s_icmp_lt (tgt := 67) d_Cs_inside_54 (by decide) (fun _ => ?_) (fun c => absurd (nI_lt hj (by omega)) c)
  refine s_aload d_Cs_inside_67 rfl (by first | rfl | exact vIsR_rf _) ?_
  refine s_get 1 (m) d_Cs_inside_69 (decide_eq_true (hm)) rfl rfl i_Pm 4 (by decide) kf_Cs_109 (Or.inl rfl) rfl ?_
  refine s_iload_n d_Cs_inside_72 rfl ?_
  refine s_itGet (m) d_Cs_inside_73 km_Cs_68 (hm) (j) rfl (hj) ?_
  refine s_cast 2 (m * 5 + j) d_Cs_inside_76 (hv) rfl rfl kc_Cs_168 kx_It_It ?_
  refine s_iload_n d_Cs_inside_79 rfl ?_
  refine s_callV1r (M1 := M_It_part) 2 (m * 5 + j) d_Cs_inside_80 (hv) rfl rfl km_Cs_170 kI_It_part ks_It_It_part (by decide) (by first | rfl | exact vRf_cat _) (by decide) kM_It_part ki_It (by decide) (by decide +kernel) (c_It_part hw hz.1 hm hj hw4) ?_
  exact s_iret d_Cs_inside_83 rfl rfl ⟨rfl, rfl, rfl, hz⟩
theorem s_trace_go {o n r : Int32} {Q : sQ0} (hc : nc ≤ 8) (hL : cR X nc nm L) (k : VS G M_Cs_trace 7 120 33 [(0, .ref (ad 5 0)), (1, .int o), (2, .int n), (3, .int r)] [.int (bI (inB o 0 (nI nc - 1) && inB n 0 26 && inB r 0 2))] nc nm ad X Z L 1 6 Q) : VS G M_Cs_trace 7 120 0 [(0, .ref (ad 5 0)), (1, .int o), (2, .int n), (3, .int r)] [] nc nm ad X Z L 1 6 Q := by
  have no : (inB o 0 (nI nc - 1) && inB n 0 26 && inB r 0 2) = false → VS G M_Cs_trace 7 120 32 [(0, .ref (ad 5 0)), (1, .int o), (2, .int n), (3, .int r)] [] nc nm ad X Z L 1 6 Q := by
    intro h
    rw [h] at k
    refine s_iconst (v := 0) d_Cs_trace_32 (by decide) ?_
    exact k
  have ar : inB o 0 (nI nc - 1) = true → inB n 0 26 = true → VS G M_Cs_trace 7 120 21 [(0, .ref (ad 5 0)), (1, .int o), (2, .int n), (3, .int r)] [] nc nm ad X Z L 1 6 Q := by
    intro h1 h2
    refine s_iload_n d_Cs_trace_21 rfl ?_
    refine s_callS1r (M1 := M_Cs_isArity) d_Cs_trace_22 km_Cs_84 kS_Cs_isArity (by decide) (by first | rfl | exact vRf_cat _) (by decide) kM_Cs_isArity ki_Cs (by decide) (by decide +kernel) (c_Cs_isArity) ?_
    cases h3 : inB r 0 2 with
    | false =>
      refine s_if_eq (tgt := 32) d_Cs_trace_25 (by decide) (fun _ => ?_) (fun c => absurd (rfl) c)
      exact no (by rw [h3, Bool.and_false])
    | true =>
      rw [h1, h2, h3] at k
      refine s_if_eq (tgt := 32) d_Cs_trace_25 (by decide) (fun c => absurd c (by decide)) (fun _ => ?_)
      refine s_iconst (v := 1) d_Cs_trace_28 (by decide) ?_
      refine s_goto (tgt := 33) d_Cs_trace_29 (by decide) ?_
      exact k
  refine s_aload_n d_Cs_trace_0 rfl (by first | rfl | exact vIsR_rf _) ?_
  refine s_iload_n d_Cs_trace_1 rfl ?_
  refine s_callV1r (M1 := M_Cs_isClass) 5 0 d_Cs_trace_2 rfl rfl rfl km_Cs_43 kI_Cs_isClass ks_Cs_Cs_isClass (by decide) (by first | rfl | exact vRf_cat _) (by decide) kM_Cs_isClass ki_Cs (by decide) (by decide +kernel) (c_Cs_isClass hc hL) ?_
  cases h1 : inB o 0 (nI nc - 1) with
  | false =>
    refine s_if_eq (tgt := 32) d_Cs_trace_5 (by decide) (fun _ => ?_) (fun c => absurd (rfl) c)
    exact no (by rw [h1]; rfl)
  | true =>
    refine s_if_eq (tgt := 32) d_Cs_trace_5 (by decide) (fun c => absurd c (by decide)) (fun _ => ?_)
    refine s_iload_n d_Cs_trace_8 rfl ?_
    refine s_callS1r (M1 := M_Cs_isName) d_Cs_trace_9 km_Cs_81 kS_Cs_isName (by decide) (by first | rfl | exact vRf_cat _) (by decide) kM_Cs_isName ki_Cs (by decide) (by decide +kernel) (c_Cs_isName) ?_
    have e26 : inB n 0 26 = (inB n 0 25 || decide (n = 26)) := by
      have ha := inB_of (v := n) (n := 25) 25 rfl (by omega)
      have hb := inB_of (v := n) (n := 26) 26 rfl (by omega)
      rw [Bool.eq_iff_iff, hb, Bool.or_eq_true, ha, decide_eq_true_eq]
      constructor
      · rintro ⟨c, h1, rfl⟩
        rcases Nat.lt_or_ge c 26 with z | z
        · exact Or.inl ⟨c, by omega, rfl⟩
        · exact Or.inr (by rw [show c = 26 by omega]; rfl)
      · rintro (⟨c, h1, rfl⟩ | rfl)
        · exact ⟨c, by omega, rfl⟩
        · exact ⟨26, by omega, rfl⟩
    cases h2 : inB n 0 25 with
    | true =>
      refine s_if_ne (tgt := 21) d_Cs_trace_12 (by decide) (fun _ => ?_) (fun c => absurd c (by decide))
      exact ar h1 (by rw [e26, h2]; rfl)
    | false =>
      refine s_if_ne (tgt := 21) d_Cs_trace_12 (by decide) (fun c => absurd (rfl) c) (fun _ => ?_)
      refine s_iload_n d_Cs_trace_15 rfl ?_
      refine s_bipush (v := 26) d_Cs_trace_16 (by decide) ?_
      refine s_icmp_ne (tgt := 32) d_Cs_trace_18 (by decide) (fun c_18 => ?_) (fun c_18 => ?_)
      · exact no (by rw [e26, h2, decide_eq_false c_18, Bool.or_false, Bool.and_false, Bool.false_and])
      · exact ar h1 (by rw [e26, decide_eq_true c_18, Bool.or_true])
theorem c_Cs_trace_bad {o n r : Int32} {g : Int32} (hc : nc ≤ 8) (hL : cR X nc nm L) (hz : zK Z nc g) (hb : (inB o 0 (nI nc - 1) && inB n 0 26 && inB r 0 2) = false) : VS G M_Cs_trace 7 120 0 [(0, .ref (ad 5 0)), (1, .int o), (2, .int n), (3, .int r)] [] nc nm ad X Z L 1 6 (cKx eIa X L nc g) := by
  refine s_trace_go hc hL ?_
  rw [hb]
  refine s_callS1 (M1 := M_Cs_require) d_Cs_trace_33 km_Cs_47 kS_Cs_require (by decide) (by first | rfl | exact vRf_cat _) (by decide) kM_Cs_require ki_Cs (by decide) (by decide +kernel) (c_Cs_require_f) rfl (fun v X9 Z9 L9 z => nomatch z.1) (fun E X9 Z9 L9 z => by obtain ⟨z1, rfl, rfl, rfl⟩ := z; exact ⟨z1, rfl, rfl, hz⟩)
theorem c_Cs_trace_none {c : Nat} {n r : Int32} {g : Int32} (hw : wW X nc nm) (hL : cR X nc nm L) (hz : zK Z nc g) (hc : c < nc) (hb : (inB (nI c) 0 (nI nc - 1) && inB n 0 26 && inB r 0 2) = true) (hf : ownS X nm (nI c) n r = none) : VS G M_Cs_trace 7 120 0 [(0, .ref (ad 5 0)), (1, .int (nI c)), (2, .int n), (3, .int r)] [] nc nm ad X Z L 1 6 (cKx eNs X L nc g) := by
  have h8 := hw.1.1
  refine s_trace_go h8 hL ?_
  rw [hb]
  refine s_callS1u (M1 := M_Cs_require) d_Cs_trace_33 km_Cs_47 kS_Cs_require (by decide) (by first | rfl | exact vRf_cat _) (by decide) kM_Cs_require ki_Cs (by decide) (by decide +kernel) (c_Cs_require_t) ?_
  refine s_aload_n d_Cs_trace_36 rfl (by first | rfl | exact vIsR_rf _) ?_
  refine s_get 5 0 d_Cs_trace_37 rfl rfl rfl i_Cs 0 (by decide) kf_Cs_10 (Or.inl rfl) rfl ?_
  refine s_get 5 1 d_Cs_trace_40 rfl rfl rfl i_Pr 0 (by decide) kf_Cs_51 (Or.inl rfl) rfl ?_
  refine s_iload_n d_Cs_trace_43 rfl ?_
  refine s_clsGet d_Cs_trace_44 km_Cs_68 hL (c) rfl (hc) ?_
  refine s_cast 0 (c) d_Cs_trace_47 (decide_eq_true (hc)) rfl rfl kc_Cs_72 kx_Pc_Pc ?_
  refine s_iload_n d_Cs_trace_50 rfl ?_
  refine s_at 51 rfl ?_
  refine s_iload_n d_Cs_trace_51 rfl ?_
  refine s_callV2r (M1 := M_Pc_own) 0 (c) d_Cs_trace_52 (decide_eq_true (hc)) rfl rfl km_Cs_90 kI_Pc_own ks_Pc_Pc_own (by decide) (by first | rfl | exact vRf_cat _) (by first | rfl | exact vRf_cat _) (by decide) kM_Pc_own ki_Pc (by decide) (by decide +kernel) (c_Pc_own hw hL hc) ?_
  rw [hf]
  refine s_astore d_Cs_trace_55 (by first | rfl | exact vIsR_rf _) (by decide) rfl ?_
  refine s_aload d_Cs_trace_57 rfl (by first | rfl | exact vIsR_rf _) ?_
  refine s_ifnonnull (r := none) (tgt := 72) d_Cs_trace_59 (by decide) (fun _ => ?_) (fun _ z => nomatch z)
  exact s_throwN (ix := 13) (b := b_Ns_init) (by decide +kernel) (by decide +kernel) (by decide +kernel) (by decide +kernel) d_Cs_trace_62 d_Cs_trace_65 d_Cs_trace_66 d_Cs_trace_68 d_Cs_trace_71 (by decide) kc_Cs_163 ki_Ns (text := "the CLASS has no such METHOD") (List.mem_of_getElem? (i := 8) rfl) tw_Cs_167 rfl (by first | decide | omega) (by first | exact Nat.le_of_ble_eq_true rfl | omega) ⟨rfl, rfl, rfl, hz⟩
theorem c_Cs_trace_ok {c m : Nat} {n r : Int32} {g : Int32} (hw : wW X nc nm) (hL : cR X nc nm L) (hz : zK Z nc g) (hc : c < nc) (hb : (inB (nI c) 0 (nI nc - 1) && inB n 0 26 && inB r 0 2) = true) (hf : ownS X nm (nI c) n r = some m) : VS G M_Cs_trace 7 120 0 [(0, .ref (ad 5 0)), (1, .int (nI c)), (2, .int n), (3, .int r)] [] nc nm ad X Z L 1 6 (cK (some (.int (X 6 m))) X L nc g) := by
  have h8 := hw.1.1
  have hm := ownS_lt hf
  refine s_trace_go h8 hL ?_
  rw [hb]
  refine s_callS1u (M1 := M_Cs_require) d_Cs_trace_33 km_Cs_47 kS_Cs_require (by decide) (by first | rfl | exact vRf_cat _) (by decide) kM_Cs_require ki_Cs (by decide) (by decide +kernel) (c_Cs_require_t) ?_
  refine s_aload_n d_Cs_trace_36 rfl (by first | rfl | exact vIsR_rf _) ?_
  refine s_get 5 0 d_Cs_trace_37 rfl rfl rfl i_Cs 0 (by decide) kf_Cs_10 (Or.inl rfl) rfl ?_
  refine s_get 5 1 d_Cs_trace_40 rfl rfl rfl i_Pr 0 (by decide) kf_Cs_51 (Or.inl rfl) rfl ?_
  refine s_iload_n d_Cs_trace_43 rfl ?_
  refine s_clsGet d_Cs_trace_44 km_Cs_68 hL (c) rfl (hc) ?_
  refine s_cast 0 (c) d_Cs_trace_47 (decide_eq_true (hc)) rfl rfl kc_Cs_72 kx_Pc_Pc ?_
  refine s_iload_n d_Cs_trace_50 rfl ?_
  refine s_at 51 rfl ?_
  refine s_iload_n d_Cs_trace_51 rfl ?_
  refine s_callV2r (M1 := M_Pc_own) 0 (c) d_Cs_trace_52 (decide_eq_true (hc)) rfl rfl km_Cs_90 kI_Pc_own ks_Pc_Pc_own (by decide) (by first | rfl | exact vRf_cat _) (by first | rfl | exact vRf_cat _) (by decide) kM_Pc_own ki_Pc (by decide) (by decide +kernel) (c_Pc_own hw hL hc) ?_
  rw [hf]
  refine s_astore d_Cs_trace_55 (by first | rfl | exact vIsR_rf _) (by decide) rfl ?_
  refine s_aload d_Cs_trace_57 rfl (by first | rfl | exact vIsR_rf _) ?_
  refine s_ifnonnull (r := some (ad 1 m)) (tgt := 72) d_Cs_trace_59 (by decide) (fun z => nomatch z) (fun _ _ => ?_)
  refine s_aload d_Cs_trace_72 rfl (by first | rfl | exact vIsR_rf _) ?_
  refine s_get 1 (m) d_Cs_trace_74 (decide_eq_true (hm)) rfl rfl i_Pm 1 (by decide) kf_Cs_162 (Or.inl rfl) rfl ?_
  exact s_iret d_Cs_trace_77 rfl rfl ⟨rfl, rfl, rfl, hz⟩
theorem c_Cs_keep_bad {m b : Int32} {g : Int32} (hm : nm ≤ 24) (hL : cR X nc nm L) (hz : zK Z nc g) (hb : inB m 0 (nI nm - 1) = false) : VS G M_Cs_keep 7 120 0 [(0, .ref (ad 5 0)), (1, .int m), (2, .int b)] [] nc nm ad X Z L 1 6 (cKx eIa X L nc g) := by
  refine s_aload_n d_Cs_keep_0 rfl (by first | rfl | exact vIsR_rf _) ?_
  refine s_iload_n d_Cs_keep_1 rfl ?_
  refine s_callV1r (M1 := M_Cs_isMethod) 5 0 d_Cs_keep_2 rfl rfl rfl km_Cs_102 kI_Cs_isMethod ks_Cs_Cs_isMethod (by decide) (by first | rfl | exact vRf_cat _) (by decide) kM_Cs_isMethod ki_Cs (by decide) (by decide +kernel) (c_Cs_isMethod hm hL) ?_
  rw [hb]
  refine s_callS1 (M1 := M_Cs_require) d_Cs_keep_5 km_Cs_47 kS_Cs_require (by decide) (by first | rfl | exact vRf_cat _) (by decide) kM_Cs_require ki_Cs (by decide) (by decide +kernel) (c_Cs_require_f) rfl (fun v X9 Z9 L9 z => nomatch z.1) (fun E X9 Z9 L9 z => by obtain ⟨z1, rfl, rfl, rfl⟩ := z; exact ⟨z1, rfl, rfl, hz⟩)
theorem c_Cs_keep_ok {m : Nat} {b : Bool} {g : Int32} (hm24 : nm ≤ 24) (hL : cR X nc nm L) (hz : zK Z nc g) (hm : m < nm) : VS G M_Cs_keep 7 120 0 [(0, .ref (ad 5 0)), (1, .int (nI m)), (2, .int (bI b))] [] nc nm ad X Z L 1 6 (cK none (mW X 9 m (bI b)) L nc g) := by
  refine s_aload_n d_Cs_keep_0 rfl (by first | rfl | exact vIsR_rf _) ?_
  refine s_iload_n d_Cs_keep_1 rfl ?_
  refine s_callV1r (M1 := M_Cs_isMethod) 5 0 d_Cs_keep_2 rfl rfl rfl km_Cs_102 kI_Cs_isMethod ks_Cs_Cs_isMethod (by decide) (by first | rfl | exact vRf_cat _) (by decide) kM_Cs_isMethod ki_Cs (by decide) (by decide +kernel) (c_Cs_isMethod hm24 hL) ?_
  rw [(inB_iff (by omega)).mpr ⟨m, hm, rfl⟩]
  refine s_callS1u (M1 := M_Cs_require) d_Cs_keep_5 km_Cs_47 kS_Cs_require (by decide) (by first | rfl | exact vRf_cat _) (by decide) kM_Cs_require ki_Cs (by decide) (by decide +kernel) (c_Cs_require_t) ?_
  refine s_aload_n d_Cs_keep_8 rfl (by first | rfl | exact vIsR_rf _) ?_
  refine s_get 5 0 d_Cs_keep_9 rfl rfl rfl i_Cs 0 (by decide) kf_Cs_10 (Or.inl rfl) rfl ?_
  refine s_get 5 1 d_Cs_keep_12 rfl rfl rfl i_Pr 1 (by decide) kf_Cs_87 (Or.inl rfl) rfl ?_
  refine s_iload_n d_Cs_keep_15 rfl ?_
  refine s_metGet d_Cs_keep_16 km_Cs_68 hL (m) rfl (hm) ?_
  refine s_cast 1 (m) d_Cs_keep_19 (decide_eq_true (hm)) rfl rfl kc_Cs_96 kx_Pm_Pm ?_
  refine s_iload_n d_Cs_keep_22 rfl ?_
  refine s_at 23 rfl ?_
  refine s_put 1 (m) d_Cs_keep_23 (decide_eq_true (hm)) rfl rfl i_Pm tt_Pm_ok n_Pm 6 (by decide) kf_Cs_118 (Or.inl rfl) (Or.inl rfl) (bI_nar b) (by cases b <;> rfl) rfl cU_kept ?_
  exact s_vret d_Cs_keep_26 rfl ⟨rfl, rfl, rfl, hz⟩
end VC5
