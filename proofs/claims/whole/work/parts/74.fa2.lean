/-! The class: families, how they are formed. -/
section VFa2
variable {G : vG} {nc nm : Nat} {ad : Nat → Nat → Nat} {X Z : Nat → Nat → Int32} {L : Nat → Nat → List Nat}
def zFm (X : Nat → Nat → Int32) (nc nm : Nat) (Z : Nat → Nat → Int32) (m : Nat) : Prop := Z 3 4 = nI (cntB (rtC X nc nm) m) ∧ ∀ q, q < m → rtC X nc nm q = true → Z 5 (cntB (rtC X nc nm) q) = X 3 q ∧ Z 6 (cntB (rtC X nc nm) q) = X 4 q ∧ Z 7 (cntB (rtC X nc nm) q) = bsI (mjB X nc nm q)
/-- X's rows that the families look at, from W's -/
def sameN (X W : Nat → Nat → Int32) : Prop := ∀ k i, k ≠ 3 → k ≠ 14 → X k i = W k i
theorem c_Fa_familyOf {W : Nat → Nat → Int32} {n r : Int32} {c m : Nat} (hw : wW W nc nm) (hc : c < nc) (hzc : Z 0 c = nI c) (hm : m ≤ nm) (hf : zFm W nc nm Z m) : VS G M_Fa_familyOf 1 40 0 [(0, .ref (ad 5 4)), (1, .ref (ad 0 c)), (2, .int n), (3, .int r)] [] nc nm ad X Z L 0 0 (sRet (some (.int (oI ((foO W nc nm n r c m).map (cntB (rtC W nc nm)))))) X Z L) := by
  have h8 := hw.1.1
  have h24 := hw.2.1
  have hle := cntB_le (rtC W nc nm) m
  have loop : ∀ k f, f + k = cntB (rtC W nc nm) m → (∀ q, q < m → rtC W nc nm q = true → cntB (rtC W nc nm) q < f → inF W nc nm n r c q = false) → VS G M_Fa_familyOf 1 40 3 [(0, .ref (ad 5 4)), (1, .ref (ad 0 c)), (2, .int n), (3, .int r), (4, .int (nI f))] [] nc nm ad X Z L 0 0 (sRet (some (.int (oI ((foO W nc nm n r c m).map (cntB (rtC W nc nm)))))) X Z L) := by
    intro k
    induction k with
    | zero =>
      intro f hf2 hno
      have e : foO W nc nm n r c m = none := by
        cases e : foO W nc nm n r c m with
        | none => rfl
        | some q =>
          obtain ⟨-, a2, a3⟩ := fst_some e
          have hr := fo_root hw hm e
          have := cntB_step (show q < m by omega) hr
          rw [hno q (by omega) hr (by omega)] at a3
          cases a3
      rw [e]
      refine s_iload d_Fa_familyOf_3 rfl ?_
      refine s_aload_n d_Fa_familyOf_5 rfl (by first | rfl | exact vIsR_rf _) ?_
      refine s_get 5 4 d_Fa_familyOf_6 rfl rfl rfl i_Fa 7 (by decide) kf_Fa_35 (Or.inl rfl) rfl ?_
      rw [hf.1]
      refine s_icmp_ge (tgt := 60) d_Fa_familyOf_9 (by decide) (fun _ => ?_) (fun c => absurd (nI_le (by omega) (by omega)) c)
      refine s_iconst (v := (-1)) d_Fa_familyOf_60 (by decide) ?_
      exact s_iret d_Fa_familyOf_61 rfl rfl ⟨rfl, rfl, rfl, rfl⟩
    | succ k ih =>
      intro f hf2 hno
      obtain ⟨s1, s2, s3⟩ := sel_onto (sb := rtC W nc nm) (n := m) (j := f) (by omega)
      obtain ⟨g1, g2, g3⟩ := hf.2 _ s1 s2
      rw [s3] at g1 g2 g3
      have no : inF W nc nm n r c (sel (rtC W nc nm) m f) = false → VS G M_Fa_familyOf 1 40 54 [(0, .ref (ad 5 4)), (1, .ref (ad 0 c)), (2, .int n), (3, .int r), (4, .int (nI f))] [] nc nm ad X Z L 0 0 (sRet (some (.int (oI ((foO W nc nm n r c m).map (cntB (rtC W nc nm)))))) X Z L) := by
        intro h
        refine s_iincw (w := 1) d_Fa_familyOf_54 rfl (by decide) (by decide) rfl ?_
        refine s_goto (tgt := 3) d_Fa_familyOf_57 (by decide) ?_
        rw [nI_1]
        refine ih (f + 1) (by omega) (fun q q1 q2 q3 => ?_)
        by_cases e : cntB (rtC W nc nm) q = f
        · rw [cntB_inj q2 s2 (by omega)]; exact h
        · exact hno q q1 q2 (by omega)
      refine s_iload d_Fa_familyOf_3 rfl ?_
      refine s_aload_n d_Fa_familyOf_5 rfl (by first | rfl | exact vIsR_rf _) ?_
      refine s_get 5 4 d_Fa_familyOf_6 rfl rfl rfl i_Fa 7 (by decide) kf_Fa_35 (Or.inl rfl) rfl ?_
      rw [hf.1]
      refine s_icmp_ge (tgt := 60) d_Fa_familyOf_9 (by decide) (fun c => absurd c (nI_ge (by omega) (by omega))) (fun _ => ?_)
      refine s_aload_n d_Fa_familyOf_12 rfl (by first | rfl | exact vIsR_rf _) ?_
      refine s_get 5 4 d_Fa_familyOf_13 rfl rfl rfl i_Fa 2 (by decide) kf_Fa_19 (Or.inl rfl) rfl ?_
      refine s_iload d_Fa_familyOf_16 rfl ?_
      refine s_ald 1 (f) d_Fa_familyOf_18 (by decide) rfl (show f < 24 by omega) ?_
      rw [show Z (4 + 1) f = _ from g1]
      by_cases e1 : W 3 (sel (rtC W nc nm) m f) = n
      · refine s_iload_n d_Fa_familyOf_19 rfl ?_
        refine s_icmp_ne (tgt := 54) d_Fa_familyOf_20 (by decide) (fun c => absurd (e1) c) (fun _ => ?_)
        refine s_aload_n d_Fa_familyOf_23 rfl (by first | rfl | exact vIsR_rf _) ?_
        refine s_get 5 4 d_Fa_familyOf_24 rfl rfl rfl i_Fa 3 (by decide) kf_Fa_22 (Or.inl rfl) rfl ?_
        refine s_iload d_Fa_familyOf_27 rfl ?_
        refine s_ald 2 (f) d_Fa_familyOf_29 (by decide) rfl (show f < 24 by omega) ?_
        rw [show Z (4 + 2) f = _ from g2]
        by_cases e2 : W 4 (sel (rtC W nc nm) m f) = r
        · refine s_iload_n d_Fa_familyOf_30 rfl ?_
          refine s_icmp_ne (tgt := 54) d_Fa_familyOf_31 (by decide) (fun c => absurd (e2) c) (fun _ => ?_)
          refine s_aload_n d_Fa_familyOf_34 rfl (by first | rfl | exact vIsR_rf _) ?_
          refine s_get 5 4 d_Fa_familyOf_35 rfl rfl rfl i_Fa 4 (by decide) kf_Fa_25 (Or.inl rfl) rfl ?_
          refine s_iload d_Fa_familyOf_38 rfl ?_
          refine s_ald 3 (f) d_Fa_familyOf_40 (by decide) rfl (show f < 24 by omega) ?_
          refine s_aload_n d_Fa_familyOf_41 rfl (by first | rfl | exact vIsR_rf _) ?_
          refine s_get 0 (c) d_Fa_familyOf_42 (decide_eq_true (hc)) rfl rfl i_Pc 3 (by decide) kf_Fa_106 (Or.inl rfl) rfl ?_
          rw [show Z (4 + 3) f = _ from g3, hzc]
          refine s_callS2r (M1 := M_Fa_holds) d_Fa_familyOf_45 km_Fa_132 kS_Fa_holds (by decide) (by first | rfl | exact vRf_cat _) (by first | rfl | exact vRf_cat _) (by decide) kM_Fa_holds ki_Fa (by decide) (by decide +kernel) (c_Fa_holds (show c < 32 by omega)) ?_
          cases e3 : mjB W nc nm (sel (rtC W nc nm) m f) c with
          | false =>
            refine s_if_eq (tgt := 54) d_Fa_familyOf_48 (by decide) (fun _ => ?_) (fun c => absurd (rfl) c)
            exact no (by unfold inF; rw [e3, Bool.and_false])
          | true =>
            have hin : inF W nc nm n r c (sel (rtC W nc nm) m f) = true := by unfold inF; rw [decide_eq_true e1, decide_eq_true e2, e3]; rfl
            have e : foO W nc nm n r c m = some (sel (rtC W nc nm) m f) := by
              cases e : foO W nc nm n r c m with
              | none => rw [fst_none e _ (by omega) (by omega)] at hin; cases hin
              | some q =>
                obtain ⟨-, a2, a3⟩ := fst_some e
                have hr := fo_root hw hm e
                rcases Nat.lt_trichotomy q (sel (rtC W nc nm) m f) with z | z | z
                · have := cntB_step z hr
                  rw [hno q (by omega) hr (by omega)] at a3; cases a3
                · rw [z]
                · rw [fst_least e _ (by omega) z] at hin; cases hin
            rw [e, show oI ((some (sel (rtC W nc nm) m f)).map (cntB (rtC W nc nm))) = nI f from congrArg nI s3]
            refine s_if_eq (tgt := 54) d_Fa_familyOf_48 (by decide) (fun c => absurd c (by decide)) (fun _ => ?_)
            refine s_iload d_Fa_familyOf_51 rfl ?_
            exact s_iret d_Fa_familyOf_53 rfl rfl ⟨rfl, rfl, rfl, rfl⟩
        · refine s_iload_n d_Fa_familyOf_30 rfl ?_
          refine s_icmp_ne (tgt := 54) d_Fa_familyOf_31 (by decide) (fun _ => ?_) (fun c => absurd c (e2))
          exact no (by unfold inF; rw [decide_eq_false e2, Bool.and_false, Bool.false_and])
      · refine s_iload_n d_Fa_familyOf_19 rfl ?_
        refine s_icmp_ne (tgt := 54) d_Fa_familyOf_20 (by decide) (fun _ => ?_) (fun c => absurd c (e1))
        exact no (by unfold inF; rw [decide_eq_false e1, Bool.false_and, Bool.false_and])
  refine s_iconst (v := 0) d_Fa_familyOf_0 (by decide) ?_
  refine s_istore d_Fa_familyOf_1 (by decide) rfl ?_
  exact loop (cntB (rtC W nc nm) m) 0 (by omega) (fun q _ _ h => absurd h (Nat.not_lt_zero _))
/-- a family more -/
def zOp (X : Nat → Nat → Int32) (nc nm : Nat) (Z : Nat → Nat → Int32) (m s : Nat) : Nat → Nat → Int32 := mW (mW (mW (mW (mW Z 5 s (X 3 m)) 6 s (X 4 m)) 7 s (bsI (mjB X nc nm m))) 9 s 0) 3 4 (nI (s + 1))
theorem c_Fa_open {m s : Nat} {g : Int32} (hw : wW X nc nm) (hL : cR X nc nm L) (hz : zK Z nc g) (hr : zRel X nc Z) (hm : m < nm) (hs : Z 3 4 = nI s) (hs24 : s < 24) : VS G M_Fa_open 5 140 0 [(0, .ref (ad 5 4)), (1, .ref (ad 1 m))] [] nc nm ad X Z L 0 0 (sRet (some (.int (nI s))) X (zOp X nc nm Z m s) L) := by
  have h8 := hw.1.1
  have ho := (hw.2.2.1 m hm).1
  refine s_aload_n d_Fa_open_0 rfl (by first | rfl | exact vIsR_rf _) ?_
  refine s_get 5 4 d_Fa_open_1 rfl rfl rfl i_Fa 7 (by decide) kf_Fa_35 (Or.inl rfl) rfl ?_
  rw [hs]
  refine s_istore_n d_Fa_open_4 (by decide) rfl ?_
  refine s_iload_n d_Fa_open_5 rfl ?_
  refine s_bipush (v := 24) d_Fa_open_6 (by decide) ?_
  refine s_icmp_ge (tgt := 79) d_Fa_open_8 (by decide) (fun c => absurd c (nI_ge (b := 24) (by omega) (by omega))) (fun _ => ?_)
  refine s_aload_n d_Fa_open_11 rfl (by first | rfl | exact vIsR_rf _) ?_
  refine s_get 5 4 d_Fa_open_12 rfl rfl rfl i_Fa 2 (by decide) kf_Fa_19 (Or.inl rfl) rfl ?_
  refine s_iload_n d_Fa_open_15 rfl ?_
  refine s_aload_n d_Fa_open_16 rfl (by first | rfl | exact vIsR_rf _) ?_
  refine s_at 17 rfl ?_
  refine s_get 1 (m) d_Fa_open_17 (decide_eq_true (hm)) rfl rfl i_Pm 5 (by decide) kf_Fa_63 (Or.inl rfl) rfl ?_
  refine s_ast 1 (s) d_Fa_open_20 (by decide) rfl (hs24) ?_
  refine s_aload_n d_Fa_open_21 rfl (by first | rfl | exact vIsR_rf _) ?_
  refine s_get 5 4 d_Fa_open_22 rfl rfl rfl i_Fa 3 (by decide) kf_Fa_22 (Or.inl rfl) rfl ?_
  refine s_iload_n d_Fa_open_25 rfl ?_
  refine s_aload_n d_Fa_open_26 rfl (by first | rfl | exact vIsR_rf _) ?_
  refine s_get 1 (m) d_Fa_open_27 (decide_eq_true (hm)) rfl rfl i_Pm 3 (by decide) kf_Fa_66 (Or.inl rfl) rfl ?_
  refine s_ast 2 (s) d_Fa_open_30 (by decide) rfl (hs24) ?_
  refine s_at 31 rfl ?_
  refine s_aload_n d_Fa_open_31 rfl (by first | rfl | exact vIsR_rf _) ?_
  refine s_get 5 4 d_Fa_open_32 rfl rfl rfl i_Fa 4 (by decide) kf_Fa_25 (Or.inl rfl) rfl ?_
  refine s_iload_n d_Fa_open_35 rfl ?_
  refine s_aload_n d_Fa_open_36 rfl (by first | rfl | exact vIsR_rf _) ?_
  refine s_iconst (v := 1) d_Fa_open_37 (by decide) ?_
  refine s_aload_n d_Fa_open_38 rfl (by first | rfl | exact vIsR_rf _) ?_
  refine s_get 1 (m) d_Fa_open_39 (decide_eq_true (hm)) rfl rfl i_Pm 0 (by decide) kf_Fa_59 (Or.inl rfl) rfl ?_
  refine s_get 0 ((oN X m)) d_Fa_open_42 (decide_eq_true (ho)) rfl rfl i_Pc 3 (by decide) kf_Fa_106 (Or.inl rfl) rfl ?_
  rw [mW_k (by decide), mW_k (by decide), hz.1 _ ho]
  have hz2 : zK (mW (mW Z 5 s (X 3 m)) 6 s (X 4 m)) nc g := ⟨fun c hc => by rw [mW_k (by decide), mW_k (by decide)]; exact hz.1 c hc, by rw [mW_k (by decide), mW_k (by decide)]; exact hz.2.1, by rw [mW_k (by decide), mW_k (by decide)]; exact hz.2.2⟩
  have hr2 : zRel X nc (mW (mW Z 5 s (X 3 m)) 6 s (X 4 m)) := fun c hc => by rw [mW_k (by decide), mW_k (by decide)]; exact hr c hc
  refine s_ishl d_Fa_open_45 ?_
  refine s_aload_n d_Fa_open_46 rfl (by first | rfl | exact vIsR_rf _) ?_
  refine s_aload_n d_Fa_open_47 rfl (by first | rfl | exact vIsR_rf _) ?_
  refine s_get 1 (m) d_Fa_open_48 (decide_eq_true (hm)) rfl rfl i_Pm 5 (by decide) kf_Fa_63 (Or.inl rfl) rfl ?_
  refine s_aload_n d_Fa_open_51 rfl (by first | rfl | exact vIsR_rf _) ?_
  refine s_get 1 (m) d_Fa_open_52 (decide_eq_true (hm)) rfl rfl i_Pm 3 (by decide) kf_Fa_66 (Or.inl rfl) rfl ?_
  rw [bs_one (by omega)]
  refine s_callV2r (M1 := M_Fa_bearers) 5 4 d_Fa_open_55 rfl rfl rfl km_Fa_109 kI_Fa_bearers ks_Fa_Fa_bearers (by decide) (by first | rfl | exact vRf_cat _) (by first | rfl | exact vRf_cat _) (by decide) kM_Fa_bearers ki_Fa (by decide) (by decide +kernel) (c_Fa_bearers hw hL hz2) ?_
  refine s_callV2r (M1 := M_Fa_joinedTo) 5 4 d_Fa_open_58 rfl rfl rfl km_Fa_112 kI_Fa_joinedTo ks_Fa_Fa_joinedTo (by decide) (by first | rfl | exact vRf_cat _) (by first | rfl | exact vRf_cat _) (by decide) kM_Fa_joinedTo ki_Fa (by decide) (by decide +kernel) (c_Fa_joinedTo h8 hL hr2) ?_
  refine s_ast 3 (s) d_Fa_open_61 (by decide) rfl (hs24) ?_
  refine s_aload_n d_Fa_open_62 rfl (by first | rfl | exact vIsR_rf _) ?_
  refine s_get 5 4 d_Fa_open_63 rfl rfl rfl i_Fa 6 (by decide) kf_Fa_31 (Or.inl rfl) rfl ?_
  refine s_iload_n d_Fa_open_66 rfl ?_
  refine s_iconst (v := 0) d_Fa_open_67 (by decide) ?_
  refine s_zast 5 (s) d_Fa_open_68 (by decide) rfl (hs24) (rfl) ?_
  refine s_aload_n d_Fa_open_69 rfl (by first | rfl | exact vIsR_rf _) ?_
  refine s_dup d_Fa_open_70 (by first | rfl | exact vRf_cat _) ?_
  refine s_get 5 4 d_Fa_open_71 rfl rfl rfl i_Fa 7 (by decide) kf_Fa_35 (Or.inl rfl) rfl ?_
  rw [mW_k (by decide), mW_k (by decide), mW_k (by decide), mW_k (by decide), hs]
  refine s_iconst (v := 1) d_Fa_open_74 (by decide) ?_
  refine s_iadd d_Fa_open_75 ?_
  rw [nI_1]
  refine s_put 5 4 d_Fa_open_76 rfl rfl rfl i_Fa tt_Fa_ok n_Fa 7 (by decide) kf_Fa_35 (Or.inl rfl) (Or.inl rfl) rfl rfl rfl cU_sz ?_
  refine s_iload_n d_Fa_open_79 rfl ?_
  exact s_iret d_Fa_open_80 rfl rfl ⟨rfl, rfl, rfl, rfl⟩
def zKp (X : Nat → Nat → Int32) (nc nm : Nat) (Z : Nat → Nat → Int32) (m : Nat) : Prop := ∀ q, q < m → rtC X nc nm q = true → Z 9 (cntB (rtC X nc nm) q) = bI (anyB (fun p => decide (roN X nc nm p = q) && kN X p) m)
def zFa (X : Nat → Nat → Int32) (nc nm : Nat) (g : Int32) (Z : Nat → Nat → Int32) : Prop := zK Z nc g ∧ zRel X nc Z ∧ zFm X nc nm Z nm ∧ zKp X nc nm Z nm
theorem zOp_ok {m : Nat} {g : Int32} (hz : zK Z nc g) (hr : zRel X nc Z) (hf : zFm X nc nm Z m) (hk : zKp X nc nm Z m) (hm : rtC X nc nm m = true) : zK (zOp X nc nm Z m (cntB (rtC X nc nm) m)) nc g ∧ zRel X nc (zOp X nc nm Z m (cntB (rtC X nc nm) m)) ∧ zFm X nc nm (zOp X nc nm Z m (cntB (rtC X nc nm) m)) (m + 1) ∧ (∀ q, q < m → rtC X nc nm q = true → zOp X nc nm Z m (cntB (rtC X nc nm) m) 9 (cntB (rtC X nc nm) q) = bI (anyB (fun p => decide (roN X nc nm p = q) && kN X p) m)) ∧ zOp X nc nm Z m (cntB (rtC X nc nm) m) 9 (cntB (rtC X nc nm) m) = 0 := by
  have hn : cntB (rtC X nc nm) (m + 1) = cntB (rtC X nc nm) m + 1 := by show cntB _ m + _ = _; rw [hm]; rfl
  have ne : ∀ q, q < m → rtC X nc nm q = true → cntB (rtC X nc nm) q ≠ cntB (rtC X nc nm) m := fun q h1 h2 => by have := cntB_step h1 h2; omega
  unfold zOp
  refine ⟨⟨fun c hc => ?_, ?_, ?_⟩, fun c hc => ?_, ⟨?_, fun q hq hrq => ?_⟩, fun q hq hrq => ?_, ?_⟩
  · rw [mW_k (by decide), mW_k (by decide), mW_k (by decide), mW_k (by decide), mW_k (by decide)]; exact hz.1 c hc
  · rw [mW_i (by decide), mW_k (by decide), mW_k (by decide), mW_k (by decide), mW_k (by decide)]; exact hz.2.1
  · rw [mW_i (by decide), mW_k (by decide), mW_k (by decide), mW_k (by decide), mW_k (by decide)]; exact hz.2.2
  · rw [mW_k (by decide), mW_k (by decide), mW_k (by decide), mW_k (by decide), mW_k (by decide)]; exact hr c hc
  · rw [mW_at, hn]
  · by_cases e : q = m
    · subst e
      refine ⟨?_, ?_, ?_⟩
      · rw [mW_k (by decide), mW_k (by decide), mW_k (by decide), mW_k (by decide), mW_at]
      · rw [mW_k (by decide), mW_k (by decide), mW_k (by decide), mW_at]
      · rw [mW_k (by decide), mW_k (by decide), mW_at]
    · have hq' : q < m := by omega
      have h1 := ne q hq' hrq
      obtain ⟨a, b, c⟩ := hf.2 q hq' hrq
      refine ⟨?_, ?_, ?_⟩
      · rw [mW_k (by decide), mW_k (by decide), mW_k (by decide), mW_k (by decide), mW_i h1]; exact a
      · rw [mW_k (by decide), mW_k (by decide), mW_k (by decide), mW_i h1]; exact b
      · rw [mW_k (by decide), mW_k (by decide), mW_i h1]; exact c
  · rw [mW_k (by decide), mW_i (ne q hq hrq), mW_k (by decide), mW_k (by decide), mW_k (by decide)]; exact hk q hq hrq
  · rw [mW_k (by decide), mW_at]
theorem zW9 {m s : Nat} {g v : Int32} (hz : zK Z nc g) (hr : zRel X nc Z) (hf : zFm X nc nm Z m) : zK (mW Z 9 s v) nc g ∧ zRel X nc (mW Z 9 s v) ∧ zFm X nc nm (mW Z 9 s v) m := by
  refine ⟨⟨fun c hc => by rw [mW_k (by decide)]; exact hz.1 c hc, by rw [mW_k (by decide)]; exact hz.2.1, by rw [mW_k (by decide)]; exact hz.2.2⟩, fun c hc => by rw [mW_k (by decide)]; exact hr c hc, by rw [mW_k (by decide)]; exact hf.1, fun q h1 h2 => ?_⟩
  rw [mW_k (by decide), mW_k (by decide), mW_k (by decide)]
  exact hf.2 q h1 h2
theorem c_Fa_form {g : Int32} (hw : wW X nc nm) (hL : cR X nc nm L) (hz : zK Z nc g) : VS G M_Fa_form 6 180 0 [(0, .ref (ad 5 4))] [] nc nm ad X Z L 0 0 (fun r X' Z' L' => r = .inl none ∧ X' = X ∧ L' = L ∧ zFa X nc nm g Z') := by
  have h8 := hw.1.1
  have h24 := hw.2.1
  have loop : ∀ k m (Z : Nat → Nat → Int32), m + k = nm → zK Z nc g → zRel X nc Z → zFm X nc nm Z m → zKp X nc nm Z m → VS G M_Fa_form 6 180 11 [(0, .ref (ad 5 4)), (1, .int (nI m))] [] nc nm ad X Z L 0 0 (fun r X' Z' L' => r = .inl none ∧ X' = X ∧ L' = L ∧ zFa X nc nm g Z') := by
    intro k
    induction k with
    | zero =>
      intro m Z hm hz hr hf hk
      have hm' : m = nm := by omega
      subst hm'
      refine s_iload_n d_Fa_form_11 rfl ?_
      refine s_aload_n d_Fa_form_12 rfl (by first | rfl | exact vIsR_rf _) ?_
      refine s_get 5 4 d_Fa_form_13 rfl rfl rfl i_Fa 0 (by decide) kf_Fa_9 (Or.inl rfl) rfl ?_
      refine s_get 5 1 d_Fa_form_16 rfl rfl rfl i_Pr 1 (by decide) kf_Fa_42 (Or.inl rfl) rfl ?_
      refine s_metSize d_Fa_form_19 km_Fa_48 hL ?_
      refine s_icmp_ge (tgt := 96) d_Fa_form_22 (by decide) (fun _ => ?_) (fun c => absurd (nI_le (by omega) (by omega)) c)
      exact s_vret d_Fa_form_96 rfl ⟨rfl, rfl, rfl, hz, hr, hf, hk⟩
    | succ k ih =>
      intro m Z hm hz hr hf hk
      have hmn : m < nm := by omega
      have ho := (hw.2.2.1 m hmn).1
      have hle := cntB_le (rtC X nc nm) m
      have hle1 := cntB_le (rtC X nc nm) (m + 1)
      -- behind the family's number
      have rest : ∀ (Z : Nat → Nat → Int32) (q : Nat), q = roN X nc nm m → zK Z nc g → zRel X nc Z → zFm X nc nm Z (m + 1) → (∀ p, p < m + 1 → rtC X nc nm p = true → Z 9 (cntB (rtC X nc nm) p) = bI (anyB (fun i => decide (roN X nc nm i = p) && kN X i) m)) → VS G M_Fa_form 6 180 68 [(0, .ref (ad 5 4)), (1, .int (nI m)), (2, .ref (ad 1 m)), (3, .int (nI (cntB (rtC X nc nm) q)))] [] nc nm ad X Z L 0 0 (fun r X' Z' L' => r = .inl none ∧ X' = X ∧ L' = L ∧ zFa X nc nm g Z') := by
        intro Z q hq hz hr hf hk
        have hql : q ≤ m := by rw [hq]; exact ro_le
        have hqr : rtC X nc nm q = true := by rw [hq]; exact ro_root hw hmn
        have hqs := cntB_step (show q < m + 1 by omega) hqr
        refine s_aload_n d_Fa_form_68 rfl (by first | rfl | exact vIsR_rf _) ?_
        refine s_get 1 (m) d_Fa_form_69 (decide_eq_true (hmn)) rfl rfl i_Pm 6 (by decide) kf_Fa_77 (Or.inl rfl) rfl ?_
        rw [hw.2.2.2.2.1 m hmn]
        cases hkm : kN X m with
        | false =>
          refine s_if_eq (tgt := 90) d_Fa_form_72 (by decide) (fun _ => ?_) (fun c => absurd (rfl) c)
          refine s_iincw (w := 1) d_Fa_form_90 rfl (by decide) (by decide) rfl ?_
          refine s_goto (tgt := 11) d_Fa_form_93 (by decide) ?_
          rw [nI_1]
          refine s_keep 2 rfl (ih (m + 1) Z (by omega) hz hr hf (fun p h1 h2 => ?_))
          rw [hk p h1 h2, anyB_sf (by rw [hkm, Bool.and_false])]
        | true =>
          refine s_if_eq (tgt := 90) d_Fa_form_72 (by decide) (fun c => absurd c (by decide)) (fun _ => ?_)
          refine s_iload_n d_Fa_form_75 rfl ?_
          refine s_aload_n d_Fa_form_76 rfl (by first | rfl | exact vIsR_rf _) ?_
          refine s_get 5 4 d_Fa_form_77 rfl rfl rfl i_Fa 7 (by decide) kf_Fa_35 (Or.inl rfl) rfl ?_
          rw [hf.1]
          refine s_icmp_ge (tgt := 90) d_Fa_form_80 (by decide) (fun c => absurd c (nI_ge hqs (by omega))) (fun _ => ?_)
          refine s_aload_n d_Fa_form_83 rfl (by first | rfl | exact vIsR_rf _) ?_
          refine s_get 5 4 d_Fa_form_84 rfl rfl rfl i_Fa 6 (by decide) kf_Fa_31 (Or.inl rfl) rfl ?_
          refine s_iload_n d_Fa_form_87 rfl ?_
          refine s_iconst (v := 1) d_Fa_form_88 (by decide) ?_
          refine s_zast 5 ((cntB (rtC X nc nm) q)) d_Fa_form_89 (by decide) rfl (show cntB (rtC X nc nm) q < 24 by omega) (rfl) ?_
          refine s_iincw (w := 1) d_Fa_form_90 rfl (by decide) (by decide) rfl ?_
          refine s_goto (tgt := 11) d_Fa_form_93 (by decide) ?_
          rw [nI_1]
          obtain ⟨z1, z2, z3⟩ := zW9 (s := cntB (rtC X nc nm) q) (v := 1) hz hr hf
          refine s_keep 2 rfl (ih (m + 1) _ (by omega) z1 z2 z3 (fun p h1 h2 => ?_))
          by_cases e : p = q
          · subst e
            rw [mW_at, anyB_st (by rw [hkm, decide_eq_true hq.symm]; rfl)]; rfl
          · rw [mW_i (fun w => e (cntB_inj h2 hqr w)), hk p h1 h2, anyB_sf (by rw [decide_eq_false (fun w => e (by rw [← w, hq]))]; rfl)]
      refine s_iload_n d_Fa_form_11 rfl ?_
      refine s_aload_n d_Fa_form_12 rfl (by first | rfl | exact vIsR_rf _) ?_
      refine s_get 5 4 d_Fa_form_13 rfl rfl rfl i_Fa 0 (by decide) kf_Fa_9 (Or.inl rfl) rfl ?_
      refine s_get 5 1 d_Fa_form_16 rfl rfl rfl i_Pr 1 (by decide) kf_Fa_42 (Or.inl rfl) rfl ?_
      refine s_metSize d_Fa_form_19 km_Fa_48 hL ?_
      refine s_icmp_ge (tgt := 96) d_Fa_form_22 (by decide) (fun c => absurd c (nI_ge (by omega) (by omega))) (fun _ => ?_)
      refine s_aload_n d_Fa_form_25 rfl (by first | rfl | exact vIsR_rf _) ?_
      refine s_get 5 4 d_Fa_form_26 rfl rfl rfl i_Fa 0 (by decide) kf_Fa_9 (Or.inl rfl) rfl ?_
      refine s_get 5 1 d_Fa_form_29 rfl rfl rfl i_Pr 1 (by decide) kf_Fa_42 (Or.inl rfl) rfl ?_
      refine s_iload_n d_Fa_form_32 rfl ?_
      refine s_metGet d_Fa_form_33 km_Fa_53 hL (m) rfl (hmn) ?_
      refine s_cast 1 (m) d_Fa_form_36 (decide_eq_true (hmn)) rfl rfl kc_Fa_57 kx_Pm_Pm ?_
      refine s_astore_n d_Fa_form_39 (by first | rfl | exact vIsR_rf _) (by decide) rfl ?_
      refine s_at 40 rfl ?_
      refine s_aload_n d_Fa_form_40 rfl (by first | rfl | exact vIsR_rf _) ?_
      refine s_aload_n d_Fa_form_41 rfl (by first | rfl | exact vIsR_rf _) ?_
      refine s_get 1 (m) d_Fa_form_42 (decide_eq_true (hmn)) rfl rfl i_Pm 0 (by decide) kf_Fa_59 (Or.inl rfl) rfl ?_
      refine s_aload_n d_Fa_form_45 rfl (by first | rfl | exact vIsR_rf _) ?_
      refine s_get 1 (m) d_Fa_form_46 (decide_eq_true (hmn)) rfl rfl i_Pm 5 (by decide) kf_Fa_63 (Or.inl rfl) rfl ?_
      refine s_aload_n d_Fa_form_49 rfl (by first | rfl | exact vIsR_rf _) ?_
      refine s_get 1 (m) d_Fa_form_50 (decide_eq_true (hmn)) rfl rfl i_Pm 3 (by decide) kf_Fa_66 (Or.inl rfl) rfl ?_
      refine s_callV3r (M1 := M_Fa_familyOf) 5 4 d_Fa_form_53 rfl rfl rfl km_Fa_69 kI_Fa_familyOf ks_Fa_Fa_familyOf (by decide) (by first | rfl | exact vRf_cat _) (by first | rfl | exact vRf_cat _) (by first | rfl | exact vRf_cat _) (by decide) kM_Fa_familyOf ki_Fa (by decide) (by decide +kernel) (c_Fa_familyOf (W := X) (m := m) hw ho (hz.1 _ ho) (by omega) hf) ?_
      by_cases hrt : roN X nc nm m = m
      · have hrt2 : rtC X nc nm m = true := decide_eq_true hrt
        rw [show foO X nc nm (X 3 m) (X 4 m) (oN X m) m = none from fst_no (fun q _ h => ro_least (by omega))]
        refine s_istore_n d_Fa_form_56 (by decide) rfl ?_
        refine s_iload_n d_Fa_form_57 rfl ?_
        refine s_iconst (v := (-1)) d_Fa_form_58 (by decide) ?_
        refine s_icmp_ne (tgt := 68) d_Fa_form_59 (by decide) (fun c => absurd (rfl) c) (fun _ => ?_)
        refine s_aload_n d_Fa_form_62 rfl (by first | rfl | exact vIsR_rf _) ?_
        refine s_aload_n d_Fa_form_63 rfl (by first | rfl | exact vIsR_rf _) ?_
        refine s_callV1r (M1 := M_Fa_open) 5 4 d_Fa_form_64 rfl rfl rfl km_Fa_73 kI_Fa_open ks_Fa_Fa_open (by decide) (by first | rfl | exact vRf_cat _) (by decide) kM_Fa_open ki_Fa (by decide) (by decide +kernel) (c_Fa_open hw hL hz hr hmn hf.1 (show cntB (rtC X nc nm) m < 24 by omega)) ?_
        refine s_istore_n d_Fa_form_67 (by decide) rfl ?_
        obtain ⟨z1, z2, z3, z4, z5⟩ := zOp_ok hz hr hf hk hrt2
        refine rest _ m hrt.symm z1 z2 z3 (fun p h1 h2 => ?_)
        by_cases e : p = m
        · subst e
          rw [z5, anyB_f (fun i hi => by rw [decide_eq_false (by have := ro_le (X := X) (nc := nc) (nm := nm) (m := i); omega)]; rfl)]; rfl
        · exact z4 p (by omega) h2
      · have hlt : roN X nc nm m < m := by have := ro_le (X := X) (nc := nc) (nm := nm) (m := m); omega
        have hrt2 : rtC X nc nm m = false := decide_eq_false hrt
        have hrr := ro_root hw hmn
        have hcs := cntB_step hlt hrr
        rw [show foO X nc nm (X 3 m) (X 4 m) (oN X m) m = some (roN X nc nm m) from fst_is (by omega) (by omega) ro_in (fun q _ h => ro_least h)]
        have hcn : cntB (rtC X nc nm) (m + 1) = cntB (rtC X nc nm) m := by show cntB _ m + _ = _; rw [hrt2]; rfl
        refine s_istore_n d_Fa_form_56 (by decide) rfl ?_
        refine s_iload_n d_Fa_form_57 rfl ?_
        refine s_iconst (v := (-1)) d_Fa_form_58 (by decide) ?_
        refine s_icmp_ne (tgt := 68) d_Fa_form_59 (by decide) (fun _ => ?_) (fun c => absurd c ((show nI (cntB (rtC X nc nm) (roN X nc nm m)) ≠ -1 from fun z => nI_pos (n := cntB (rtC X nc nm) (roN X nc nm m)) (by omega) (by rw [z]; decide))))
        refine rest Z _ rfl hz hr ⟨by rw [hf.1, hcn], fun q h1 h2 => ?_⟩ (fun p h1 h2 => ?_)
        · refine hf.2 q ?_ h2
          rcases Nat.lt_or_ge q m with z | z
          · exact z
          · rw [show q = m by omega, hrt2] at h2; cases h2
        · refine hk p ?_ h2
          rcases Nat.lt_or_ge p m with z | z
          · exact z
          · rw [show p = m by omega, hrt2] at h2; cases h2
  refine s_aload_n d_Fa_form_0 rfl (by first | rfl | exact vIsR_rf _) ?_
  refine s_callV0 (M1 := M_Fa_seeRelatives) 5 4 d_Fa_form_1 rfl rfl rfl km_Fa_39 kI_Fa_seeRelatives ks_Fa_Fa_seeRelatives (by decide) (by decide) kM_Fa_seeRelatives ki_Fa (by decide) (by decide +kernel) (c_Fa_seeRelatives hw.1 hL hz) rfl (fun v X9 Z9 L9 z => ?_) (fun E X9 Z9 L9 z => nomatch z.1)
  obtain ⟨z1, rfl, rfl, z4, z5⟩ := z
  cases z1
  refine s_aload_n d_Fa_form_4 rfl (by first | rfl | exact vIsR_rf _) ?_
  refine s_iconst (v := 0) d_Fa_form_5 (by decide) ?_
  refine s_put 5 4 d_Fa_form_6 rfl rfl rfl i_Fa tt_Fa_ok n_Fa 7 (by decide) kf_Fa_35 (Or.inl rfl) (Or.inl rfl) rfl rfl rfl cU_sz ?_
  refine s_iconst (v := 0) d_Fa_form_9 (by decide) ?_
  refine s_istore_n d_Fa_form_10 (by decide) rfl ?_
  exact loop nm 0 _ (by omega) ⟨fun c hc => by rw [mW_k (by decide)]; exact z4.1 c hc, by rw [mW_i (by decide)]; exact z4.2.1, by rw [mW_i (by decide)]; exact z4.2.2⟩ (fun c hc => by rw [mW_k (by decide)]; exact z5 c hc) ⟨by rw [mW_at]; rfl, fun q h => absurd h (Nat.not_lt_zero q)⟩ (fun q h => absurd h (Nat.not_lt_zero q))
end VFa2
