/-! The class: families, the sets. -/
section VFa1
variable {G : vG} {nc nm : Nat} {ad : Nat → Nat → Nat} {X Z : Nat → Nat → Int32} {L : Nat → Nat → List Nat}
theorem c_Fa_holds {S : Nat → Bool} {n : Nat} (hn : n < 32) : VS G M_Fa_holds 0 0 0 [(0, .int (bsI S)), (1, .int (nI n))] [] nc nm ad X Z L 0 0 (sRet (some (.int (bI (S n)))) X Z L) := by
  refine s_iload_n d_Fa_holds_0 rfl ?_
  refine s_iload_n d_Fa_holds_1 rfl ?_
  refine s_ishr d_Fa_holds_2 ?_
  refine s_iconst (v := 1) d_Fa_holds_3 (by decide) ?_
  refine s_iand d_Fa_holds_4 ?_
  rw [bs_holds hn]
  cases S n with
  | false =>
    refine s_if_eq (tgt := 12) d_Fa_holds_5 (by decide) (fun _ => ?_) (fun c => absurd (rfl) c)
    refine s_iconst (v := 0) d_Fa_holds_12 (by decide) ?_
    exact s_iret d_Fa_holds_13 rfl rfl ⟨rfl, rfl, rfl, rfl⟩
  | true =>
    refine s_if_eq (tgt := 12) d_Fa_holds_5 (by decide) (fun c => absurd c (by decide)) (fun _ => ?_)
    refine s_iconst (v := 1) d_Fa_holds_8 (by decide) ?_
    refine s_goto (tgt := 13) d_Fa_holds_9 (by decide) ?_
    exact s_iret d_Fa_holds_13 rfl rfl ⟨rfl, rfl, rfl, rfl⟩
/-- who is related to whom, as it is written down -/
def zRel (X : Nat → Nat → Int32) (nc : Nat) (Z : Nat → Nat → Int32) : Prop := ∀ c, c < nc → Z 4 c = bsI (reB X nc c)
def rlP (X : Nat → Nat → Int32) (nc : Nat) (S : Nat → Bool) (c d : Nat) : Bool := anyB (fun c => S c && reB X nc c d) c
theorem c_Fa_relatedTo {S : Nat → Bool} (h8 : nc ≤ 8) (hL : cR X nc nm L) (hz : zRel X nc Z) : VS G M_Fa_relatedTo 1 30 0 [(0, .ref (ad 5 4)), (1, .int (bsI S))] [] nc nm ad X Z L 0 0 (sRet (some (.int (bsI (rlT X nc S)))) X Z L) := by
  have loop : ∀ r c, c + r = nc → VS G M_Fa_relatedTo 1 30 4 [(0, .ref (ad 5 4)), (1, .int (bsI S)), (2, .int (bsI (rlP X nc S c))), (3, .int (nI c))] [] nc nm ad X Z L 0 0 (sRet (some (.int (bsI (rlT X nc S)))) X Z L) := by
    intro r
    induction r with
    | zero =>
      intro c hc
      have hc' : c = nc := by omega
      subst hc'
      by_cases h : c = 8
      · subst h
        refine s_iload_n d_Fa_relatedTo_4 rfl ?_
        refine s_bipush (v := 8) d_Fa_relatedTo_5 (by decide) ?_
        refine s_icmp_ge (tgt := 47) d_Fa_relatedTo_7 (by decide) (fun _ => ?_) (fun c => absurd (by decide) c)
        refine s_iload_n d_Fa_relatedTo_47 rfl ?_
        exact s_iret d_Fa_relatedTo_48 rfl rfl ⟨rfl, rfl, rfl, rfl⟩
      · refine s_iload_n d_Fa_relatedTo_4 rfl ?_
        refine s_bipush (v := 8) d_Fa_relatedTo_5 (by decide) ?_
        refine s_icmp_ge (tgt := 47) d_Fa_relatedTo_7 (by decide) (fun c => absurd c (nI_ge (b := 8) (by omega) (by omega))) (fun _ => ?_)
        refine s_iload_n d_Fa_relatedTo_10 rfl ?_
        refine s_aload_n d_Fa_relatedTo_11 rfl (by first | rfl | exact vIsR_rf _) ?_
        refine s_get 5 4 d_Fa_relatedTo_12 rfl rfl rfl i_Fa 0 (by decide) kf_Fa_9 (Or.inl rfl) rfl ?_
        refine s_get 5 1 d_Fa_relatedTo_15 rfl rfl rfl i_Pr 0 (by decide) kf_Fa_91 (Or.inl rfl) rfl ?_
        refine s_clsSize d_Fa_relatedTo_18 km_Fa_48 hL ?_
        refine s_icmp_ge (tgt := 47) d_Fa_relatedTo_21 (by decide) (fun _ => ?_) (fun c => absurd (nI_le (Nat.le_refl _) (by omega)) c)
        refine s_iload_n d_Fa_relatedTo_47 rfl ?_
        exact s_iret d_Fa_relatedTo_48 rfl rfl ⟨rfl, rfl, rfl, rfl⟩
    | succ r ih =>
      intro c hc
      have hcn : c < nc := by omega
      refine s_iload_n d_Fa_relatedTo_4 rfl ?_
      refine s_bipush (v := 8) d_Fa_relatedTo_5 (by decide) ?_
      refine s_icmp_ge (tgt := 47) d_Fa_relatedTo_7 (by decide) (fun c => absurd c (nI_ge (b := 8) (by omega) (by omega))) (fun _ => ?_)
      refine s_iload_n d_Fa_relatedTo_10 rfl ?_
      refine s_aload_n d_Fa_relatedTo_11 rfl (by first | rfl | exact vIsR_rf _) ?_
      refine s_get 5 4 d_Fa_relatedTo_12 rfl rfl rfl i_Fa 0 (by decide) kf_Fa_9 (Or.inl rfl) rfl ?_
      refine s_get 5 1 d_Fa_relatedTo_15 rfl rfl rfl i_Pr 0 (by decide) kf_Fa_91 (Or.inl rfl) rfl ?_
      refine s_clsSize d_Fa_relatedTo_18 km_Fa_48 hL ?_
      refine s_at 21 rfl ?_
      refine s_icmp_ge (tgt := 47) d_Fa_relatedTo_21 (by decide) (fun c => absurd c (nI_ge (by omega) (by omega))) (fun _ => ?_)
      refine s_iload_n d_Fa_relatedTo_24 rfl ?_
      refine s_iload_n d_Fa_relatedTo_25 rfl ?_
      refine s_callS2r (M1 := M_Fa_holds) d_Fa_relatedTo_26 km_Fa_132 kS_Fa_holds (by decide) (by first | rfl | exact vRf_cat _) (by first | rfl | exact vRf_cat _) (by decide) kM_Fa_holds ki_Fa (by decide) (by decide +kernel) (c_Fa_holds (show c < 32 by omega)) ?_
      cases hs : S c with
      | false =>
        refine s_if_eq (tgt := 41) d_Fa_relatedTo_29 (by decide) (fun _ => ?_) (fun c => absurd (rfl) c)
        refine s_iincw (w := 1) d_Fa_relatedTo_41 rfl (by decide) (by decide) rfl ?_
        refine s_goto (tgt := 4) d_Fa_relatedTo_44 (by decide) ?_
        rw [nI_1]
        have e : rlP X nc S (c + 1) = rlP X nc S c := by
          funext d; exact anyB_sf (by rw [hs]; rfl)
        rw [← e]
        exact ih (c + 1) (by omega)
      | true =>
        refine s_if_eq (tgt := 41) d_Fa_relatedTo_29 (by decide) (fun c => absurd c (by decide)) (fun _ => ?_)
        refine s_iload_n d_Fa_relatedTo_32 rfl ?_
        refine s_aload_n d_Fa_relatedTo_33 rfl (by first | rfl | exact vIsR_rf _) ?_
        refine s_get 5 4 d_Fa_relatedTo_34 rfl rfl rfl i_Fa 1 (by decide) kf_Fa_15 (Or.inl rfl) rfl ?_
        refine s_iload_n d_Fa_relatedTo_37 rfl ?_
        refine s_ald 0 (c) d_Fa_relatedTo_38 (by decide) rfl (show c < 8 by omega) ?_
        rw [show Z (4 + 0) c = bsI (reB X nc c) from hz c hcn]
        refine s_ior d_Fa_relatedTo_39 ?_
        refine s_istore_n d_Fa_relatedTo_40 (by decide) rfl ?_
        refine s_iincw (w := 1) d_Fa_relatedTo_41 rfl (by decide) (by decide) rfl ?_
        refine s_goto (tgt := 4) d_Fa_relatedTo_44 (by decide) ?_
        rw [nI_1, bs_or]
        have e : (fun d => rlP X nc S c d || reB X nc c d) = rlP X nc S (c + 1) := by
          funext d
          show _ = (rlP X nc S c d || (S c && reB X nc c d))
          rw [hs, Bool.true_and]
        rw [e]
        exact ih (c + 1) (by omega)
  refine s_iconst (v := 0) d_Fa_relatedTo_0 (by decide) ?_
  refine s_istore_n d_Fa_relatedTo_1 (by decide) rfl ?_
  refine s_iconst (v := 0) d_Fa_relatedTo_2 (by decide) ?_
  refine s_istore_n d_Fa_relatedTo_3 (by decide) rfl ?_
  rw [bs_0]
  exact loop nc 0 (by omega)
theorem c_Fa_seeRelatives {g : Int32} (hw : wP X nc) (hL : cR X nc nm L) (hz : zK Z nc g) : VS G M_Fa_seeRelatives 3 90 0 [(0, .ref (ad 5 4))] [] nc nm ad X Z L 0 0 (fun r X' Z' L' => r = .inl none ∧ X' = X ∧ L' = L ∧ zK Z' nc g ∧ zRel X nc Z') := by
  have h8 := hw.1
  have outer : ∀ r c (Z : Nat → Nat → Int32), c + r = nc → zK Z nc g → (∀ k, k < c → Z 4 k = bsI (reB X nc k)) → VS G M_Fa_seeRelatives 3 90 18 [(0, .ref (ad 5 4)), (1, .int (nI nc)), (2, .int (nI c))] [] nc nm ad X Z L 0 0 (fun r X' Z' L' => r = .inl none ∧ X' = X ∧ L' = L ∧ zK Z' nc g ∧ zRel X nc Z') := by
    intro r
    induction r with
    | zero =>
      intro c Z hc hz hd
      refine s_iload_n d_Fa_seeRelatives_18 rfl ?_
      refine s_iload_n d_Fa_seeRelatives_19 rfl ?_
      refine s_icmp_ge (tgt := 95) d_Fa_seeRelatives_20 (by decide) (fun _ => ?_) (fun c => absurd (nI_le (by omega) (by omega)) c)
      exact s_vret d_Fa_seeRelatives_95 rfl ⟨rfl, rfl, rfl, hz, fun k hk => hd k (by omega)⟩
    | succ r ih =>
      intro c Z hc hz hd
      have hcn : c < nc := by omega
      have inner : ∀ r d, d + r = nc → VS G M_Fa_seeRelatives 3 90 28 [(0, .ref (ad 5 4)), (1, .int (nI nc)), (2, .int (nI c)), (3, .int (bsI (fun k => decide (k < d) && rlS X k c))), (4, .int (nI d))] [] nc nm ad X Z L 0 0 (fun r X' Z' L' => r = .inl none ∧ X' = X ∧ L' = L ∧ zK Z' nc g ∧ zRel X nc Z') := by
        intro r
        induction r with
        | zero =>
          intro d hd2
          have hd' : d = nc := by omega
          subst hd'
          refine s_iload d_Fa_seeRelatives_28 rfl ?_
          refine s_iload_n d_Fa_seeRelatives_30 rfl ?_
          refine s_icmp_ge (tgt := 82) d_Fa_seeRelatives_31 (by decide) (fun _ => ?_) (fun c => absurd (nI_le (by omega) (by omega)) c)
          refine s_aload_n d_Fa_seeRelatives_82 rfl (by first | rfl | exact vIsR_rf _) ?_
          refine s_get 5 4 d_Fa_seeRelatives_83 rfl rfl rfl i_Fa 1 (by decide) kf_Fa_15 (Or.inl rfl) rfl ?_
          refine s_iload_n d_Fa_seeRelatives_86 rfl ?_
          refine s_iload_n d_Fa_seeRelatives_87 rfl ?_
          refine s_ast 0 (c) d_Fa_seeRelatives_88 (by decide) rfl (show c < 8 by omega) ?_
          refine s_iincw (w := 1) d_Fa_seeRelatives_89 rfl (by decide) (by decide) rfl ?_
          refine s_goto (tgt := 18) d_Fa_seeRelatives_92 (by decide) ?_
          rw [nI_1]
          refine s_keep 3 rfl (ih (c + 1) _ (by omega) ⟨fun k hk => by rw [mW_k (by decide)]; exact hz.1 k hk, by rw [mW_k (by decide)]; exact hz.2.1, by rw [mW_k (by decide)]; exact hz.2.2⟩ (fun k hk => ?_))
          by_cases e : k = c
          · subst e; rw [mW_at]; rfl
          · rw [mW_i e]; exact hd k (by omega)
        | succ r ih2 =>
          intro d hd2
          have hdn : d < nc := by omega
          have go : ∀ x, x = bsI (fun k => decide (k < d + 1) && rlS X k c) → VS G M_Fa_seeRelatives 3 90 76 [(0, .ref (ad 5 4)), (1, .int (nI nc)), (2, .int (nI c)), (3, .int x), (4, .int (nI d))] [] nc nm ad X Z L 0 0 (fun r X' Z' L' => r = .inl none ∧ X' = X ∧ L' = L ∧ zK Z' nc g ∧ zRel X nc Z') := by
            intro x hx
            subst hx
            refine s_iincw (w := 1) d_Fa_seeRelatives_76 rfl (by decide) (by decide) rfl ?_
            refine s_goto (tgt := 28) d_Fa_seeRelatives_79 (by decide) ?_
            rw [nI_1]
            exact ih2 (d + 1) (by omega)
          have sx : ∀ k, (decide (k < d + 1) && rlS X k c) = ((decide (k < d) && rlS X k c) || (decide (k = d) && rlS X d c)) := by
            intro k
            by_cases e : k = d
            · subst e; simp
            · by_cases h : k < d
              · rw [decide_eq_true h, decide_eq_true (show k < d + 1 by omega), decide_eq_false e]; simp
              · rw [decide_eq_false h, decide_eq_false (show ¬ k < d + 1 by omega), decide_eq_false e]; simp
          refine s_iload d_Fa_seeRelatives_28 rfl ?_
          refine s_iload_n d_Fa_seeRelatives_30 rfl ?_
          refine s_icmp_ge (tgt := 82) d_Fa_seeRelatives_31 (by decide) (fun c => absurd c (nI_ge (by omega) (by omega))) (fun _ => ?_)
          refine s_aload_n d_Fa_seeRelatives_34 rfl (by first | rfl | exact vIsR_rf _) ?_
          refine s_get 5 4 d_Fa_seeRelatives_35 rfl rfl rfl i_Fa 0 (by decide) kf_Fa_9 (Or.inl rfl) rfl ?_
          refine s_get 5 1 d_Fa_seeRelatives_38 rfl rfl rfl i_Pr 0 (by decide) kf_Fa_91 (Or.inl rfl) rfl ?_
          refine s_iload_n d_Fa_seeRelatives_41 rfl ?_
          refine s_clsGet d_Fa_seeRelatives_42 km_Fa_53 hL (c) rfl (hcn) ?_
          refine s_at 45 rfl ?_
          refine s_cast 0 (c) d_Fa_seeRelatives_45 (decide_eq_true (hcn)) rfl rfl kc_Fa_100 kx_Pc_Pc ?_
          refine s_aload_n d_Fa_seeRelatives_48 rfl (by first | rfl | exact vIsR_rf _) ?_
          refine s_get 5 4 d_Fa_seeRelatives_49 rfl rfl rfl i_Fa 0 (by decide) kf_Fa_9 (Or.inl rfl) rfl ?_
          refine s_get 5 1 d_Fa_seeRelatives_52 rfl rfl rfl i_Pr 0 (by decide) kf_Fa_91 (Or.inl rfl) rfl ?_
          refine s_iload d_Fa_seeRelatives_55 rfl ?_
          refine s_clsGet d_Fa_seeRelatives_57 km_Fa_53 hL (d) rfl (hdn) ?_
          refine s_cast 0 (d) d_Fa_seeRelatives_60 (decide_eq_true (hdn)) rfl rfl kc_Fa_100 kx_Pc_Pc ?_
          refine s_callV1r (M1 := M_Pc_isRelatedTo) 0 (c) d_Fa_seeRelatives_63 (decide_eq_true (hcn)) rfl rfl km_Fa_102 kI_Pc_isRelatedTo ks_Pc_Pc_isRelatedTo (by decide) (by first | rfl | exact vRf_cat _) (by decide) kM_Pc_isRelatedTo ki_Pc (by decide) (by decide +kernel) (c_Pc_isRelatedTo hw hcn hdn) ?_
          cases hr : rlS X d c with
          | false =>
            refine s_if_eq (tgt := 76) d_Fa_seeRelatives_66 (by decide) (fun _ => ?_) (fun c => absurd (rfl) c)
            exact go _ (bs_congr (fun k _ => by rw [sx k, hr, Bool.and_false, Bool.or_false]))
          | true =>
            refine s_if_eq (tgt := 76) d_Fa_seeRelatives_66 (by decide) (fun c => absurd c (by decide)) (fun _ => ?_)
            refine s_iload_n d_Fa_seeRelatives_69 rfl ?_
            refine s_iconst (v := 1) d_Fa_seeRelatives_70 (by decide) ?_
            refine s_iload d_Fa_seeRelatives_71 rfl ?_
            refine s_ishl d_Fa_seeRelatives_73 ?_
            refine s_ior d_Fa_seeRelatives_74 ?_
            refine s_istore_n d_Fa_seeRelatives_75 (by decide) rfl ?_
            rw [bs_one (by omega), bs_or]
            exact go _ (bs_congr (fun k _ => by rw [sx k, hr, Bool.and_true]))
      refine s_iload_n d_Fa_seeRelatives_18 rfl ?_
      refine s_iload_n d_Fa_seeRelatives_19 rfl ?_
      refine s_icmp_ge (tgt := 95) d_Fa_seeRelatives_20 (by decide) (fun c => absurd c (nI_ge (by omega) (by omega))) (fun _ => ?_)
      refine s_iconst (v := 0) d_Fa_seeRelatives_23 (by decide) ?_
      refine s_istore_n d_Fa_seeRelatives_24 (by decide) rfl ?_
      refine s_iconst (v := 0) d_Fa_seeRelatives_25 (by decide) ?_
      refine s_istore d_Fa_seeRelatives_26 (by decide) rfl ?_
      rw [bs_0]
      have := inner nc 0 (by omega)
      rw [show bsI (fun k => decide (k < 0) && rlS X k c) = bsI (fun _ => false) from bs_congr (fun k _ => by rw [decide_eq_false (Nat.not_lt_zero k)]; rfl)] at this
      exact this
  refine s_aload_n d_Fa_seeRelatives_0 rfl (by first | rfl | exact vIsR_rf _) ?_
  refine s_get 5 4 d_Fa_seeRelatives_1 rfl rfl rfl i_Fa 0 (by decide) kf_Fa_9 (Or.inl rfl) rfl ?_
  refine s_get 5 1 d_Fa_seeRelatives_4 rfl rfl rfl i_Pr 0 (by decide) kf_Fa_91 (Or.inl rfl) rfl ?_
  refine s_clsSize d_Fa_seeRelatives_7 km_Fa_48 hL ?_
  refine s_bipush (v := 8) d_Fa_seeRelatives_10 (by decide) ?_
  refine s_mmin d_Fa_seeRelatives_12 km_Fa_94 ?_
  rw [show (if (8 : Int32) < nI nc then (8 : Int32) else nI nc) = nI nc from if_neg (nI_nlt (b := nc) (a := 8) h8 (by omega))]
  refine s_istore_n d_Fa_seeRelatives_15 (by decide) rfl ?_
  refine s_iconst (v := 0) d_Fa_seeRelatives_16 (by decide) ?_
  refine s_istore_n d_Fa_seeRelatives_17 (by decide) rfl ?_
  exact outer nc 0 Z (by omega) hz (fun k hk => absurd hk (Nat.not_lt_zero k))
def siP (X : Nat → Nat → Int32) (n r : Int32) (m j : Nat) : Bool := (decide (X 12 (m * 5 + j) = 2) && decide (X 14 (m * 5 + j) = n)) && decide (X 15 (m * 5 + j) = r)
theorem c_Fa_standsIn {n r : Int32} {m : Nat} (hm : m < nm) (h5 : iN X m ≤ 5) : VS G M_Fa_standsIn 3 70 0 [(0, .ref (ad 1 m)), (1, .int n), (2, .int r)] [] nc nm ad X Z L 0 0 (sRet (some (.int (bI (siB X n r m)))) X Z L) := by
  have loop : ∀ f j, j + f = iN X m → (∀ i, i < j → siP X n r m i = false) → VS G M_Fa_standsIn 3 70 2 [(0, .ref (ad 1 m)), (1, .int n), (2, .int r), (3, .int (nI j))] [] nc nm ad X Z L 0 0 (sRet (some (.int (bI (siB X n r m)))) X Z L) := by
    intro f
    induction f with
    | zero =>
      intro j hj hno
      rw [show siB X n r m = false from anyB_f (fun i hi => hno i (by omega))]
      refine s_iload_n d_Fa_standsIn_2 rfl ?_
      refine s_aload_n d_Fa_standsIn_3 rfl (by first | rfl | exact vIsR_rf _) ?_
      refine s_get 1 (m) d_Fa_standsIn_4 (decide_eq_true (hm)) rfl rfl i_Pm 4 (by decide) kf_Fa_119 (Or.inl rfl) rfl ?_
      refine s_itSize (m) d_Fa_standsIn_7 km_Fa_48 (hm) ?_
      refine s_icmp_ge (tgt := 61) d_Fa_standsIn_10 (by decide) (fun _ => ?_) (fun c => absurd (nI_le (by omega) (by omega)) c)
      refine s_iconst (v := 0) d_Fa_standsIn_61 (by decide) ?_
      exact s_iret d_Fa_standsIn_62 rfl rfl ⟨rfl, rfl, rfl, rfl⟩
    | succ f ih =>
      intro j hj hno
      have hji : j < iN X m := by omega
      have h5j : j < 5 := by omega
      have no : siP X n r m j = false → VS G M_Fa_standsIn 3 70 55 [(0, .ref (ad 1 m)), (1, .int n), (2, .int r), (3, .int (nI j)), (4, .ref (ad 2 (m * 5 + j)))] [] nc nm ad X Z L 0 0 (sRet (some (.int (bI (siB X n r m)))) X Z L) := by
        intro h
        refine s_iincw (w := 1) d_Fa_standsIn_55 rfl (by decide) (by decide) rfl ?_
        refine s_goto (tgt := 2) d_Fa_standsIn_58 (by decide) ?_
        rw [nI_1]
        refine s_keep 4 rfl (ih (j + 1) (by omega) (fun i hi => ?_))
        by_cases e : i = j
        · subst e; exact h
        · exact hno i (by omega)
      refine s_iload_n d_Fa_standsIn_2 rfl ?_
      refine s_aload_n d_Fa_standsIn_3 rfl (by first | rfl | exact vIsR_rf _) ?_
      refine s_get 1 (m) d_Fa_standsIn_4 (decide_eq_true (hm)) rfl rfl i_Pm 4 (by decide) kf_Fa_119 (Or.inl rfl) rfl ?_
      refine s_itSize (m) d_Fa_standsIn_7 km_Fa_48 (hm) ?_
      refine s_icmp_ge (tgt := 61) d_Fa_standsIn_10 (by decide) (fun c => absurd c (nI_ge (by omega) (by omega))) (fun _ => ?_)
      refine s_aload_n d_Fa_standsIn_13 rfl (by first | rfl | exact vIsR_rf _) ?_
      refine s_get 1 (m) d_Fa_standsIn_14 (decide_eq_true (hm)) rfl rfl i_Pm 4 (by decide) kf_Fa_119 (Or.inl rfl) rfl ?_
      refine s_iload_n d_Fa_standsIn_17 rfl ?_
      refine s_itGet (m) d_Fa_standsIn_18 km_Fa_53 (hm) (j) rfl (hji) ?_
      refine s_cast 2 ((m * 5 + j)) d_Fa_standsIn_21 (cV2 hm hji h5j) rfl rfl kc_Fa_122 kx_It_It ?_
      refine s_astore d_Fa_standsIn_24 (by first | rfl | exact vIsR_rf _) (by decide) rfl ?_
      refine s_aload d_Fa_standsIn_26 rfl (by first | rfl | exact vIsR_rf _) ?_
      refine s_at 28 rfl ?_
      refine s_get 2 ((m * 5 + j)) d_Fa_standsIn_28 (cV2 hm hji h5j) rfl rfl i_It 0 (by decide) kf_Fa_124 (Or.inl rfl) rfl ?_
      by_cases e1 : X 12 (m * 5 + j) = 2
      · refine s_iconst (v := 2) d_Fa_standsIn_31 (by decide) ?_
        refine s_icmp_ne (tgt := 55) d_Fa_standsIn_32 (by decide) (fun c => absurd (e1) c) (fun _ => ?_)
        refine s_aload d_Fa_standsIn_35 rfl (by first | rfl | exact vIsR_rf _) ?_
        refine s_get 2 ((m * 5 + j)) d_Fa_standsIn_37 (cV2 hm hji h5j) rfl rfl i_It 4 (by decide) kf_Fa_127 (Or.inl rfl) rfl ?_
        by_cases e2 : X 14 (m * 5 + j) = n
        · refine s_iload_n d_Fa_standsIn_40 rfl ?_
          refine s_icmp_ne (tgt := 55) d_Fa_standsIn_41 (by decide) (fun c => absurd (e2) c) (fun _ => ?_)
          refine s_aload d_Fa_standsIn_44 rfl (by first | rfl | exact vIsR_rf _) ?_
          refine s_get 2 ((m * 5 + j)) d_Fa_standsIn_46 (cV2 hm hji h5j) rfl rfl i_It 3 (by decide) kf_Fa_128 (Or.inl rfl) rfl ?_
          by_cases e3 : X 15 (m * 5 + j) = r
          · refine s_iload_n d_Fa_standsIn_49 rfl ?_
            refine s_icmp_ne (tgt := 55) d_Fa_standsIn_50 (by decide) (fun c => absurd (e3) c) (fun _ => ?_)
            refine s_iconst (v := 1) d_Fa_standsIn_53 (by decide) ?_
            rw [show siB X n r m = true from anyB_t hji (by rw [decide_eq_true e1, decide_eq_true e2, decide_eq_true e3]; rfl)]
            exact s_iret d_Fa_standsIn_54 rfl rfl ⟨rfl, rfl, rfl, rfl⟩
          · refine s_iload_n d_Fa_standsIn_49 rfl ?_
            refine s_icmp_ne (tgt := 55) d_Fa_standsIn_50 (by decide) (fun _ => ?_) (fun c => absurd c (e3))
            exact no (by unfold siP; rw [decide_eq_false e3, Bool.and_false])
        · refine s_iload_n d_Fa_standsIn_40 rfl ?_
          refine s_icmp_ne (tgt := 55) d_Fa_standsIn_41 (by decide) (fun _ => ?_) (fun c => absurd c (e2))
          exact no (by unfold siP; rw [decide_eq_false e2, Bool.and_false, Bool.false_and])
      · refine s_iconst (v := 2) d_Fa_standsIn_31 (by decide) ?_
        refine s_icmp_ne (tgt := 55) d_Fa_standsIn_32 (by decide) (fun _ => ?_) (fun c => absurd c (e1))
        exact no (by unfold siP; rw [decide_eq_false e1, Bool.false_and, Bool.false_and])
  refine s_iconst (v := 0) d_Fa_standsIn_0 (by decide) ?_
  refine s_istore_n d_Fa_standsIn_1 (by decide) rfl ?_
  exact loop (iN X m) 0 (by omega) (fun i hi => absurd hi (Nat.not_lt_zero i))
theorem c_Fa_bearers {n r : Int32} {g : Int32} (hw : wW X nc nm) (hL : cR X nc nm L) (hz : zK Z nc g) : VS G M_Fa_bearers 4 100 0 [(0, .ref (ad 5 4)), (1, .int n), (2, .int r)] [] nc nm ad X Z L 0 0 (sRet (some (.int (bsI (beB X nm n r)))) X Z L) := by
  have h8 := hw.1.1
  have h24 := hw.2.1
  have loop : ∀ f m, m + f = nm → VS G M_Fa_bearers 4 100 5 [(0, .ref (ad 5 4)), (1, .int n), (2, .int r), (3, .int (bsI (beB X m n r))), (4, .int (nI m))] [] nc nm ad X Z L 0 0 (sRet (some (.int (bsI (beB X nm n r)))) X Z L) := by
    intro f
    induction f with
    | zero =>
      intro m hm
      have hm' : m = nm := by omega
      subst hm'
      refine s_iload d_Fa_bearers_5 rfl ?_
      refine s_aload_n d_Fa_bearers_7 rfl (by first | rfl | exact vIsR_rf _) ?_
      refine s_get 5 4 d_Fa_bearers_8 rfl rfl rfl i_Fa 0 (by decide) kf_Fa_9 (Or.inl rfl) rfl ?_
      refine s_get 5 1 d_Fa_bearers_11 rfl rfl rfl i_Pr 1 (by decide) kf_Fa_42 (Or.inl rfl) rfl ?_
      refine s_metSize d_Fa_bearers_14 km_Fa_48 hL ?_
      refine s_icmp_ge (tgt := 84) d_Fa_bearers_17 (by decide) (fun _ => ?_) (fun c => absurd (nI_le (by omega) (by omega)) c)
      refine s_iload_n d_Fa_bearers_84 rfl ?_
      exact s_iret d_Fa_bearers_85 rfl rfl ⟨rfl, rfl, rfl, rfl⟩
    | succ f ih =>
      intro m hm
      have hmn : m < nm := by omega
      have ho := (hw.2.2.1 m hmn).1
      have go : ∀ x, x = bsI (beB X (m + 1) n r) → VS G M_Fa_bearers 4 100 78 [(0, .ref (ad 5 4)), (1, .int n), (2, .int r), (3, .int x), (4, .int (nI m)), (5, .ref (ad 1 m))] [] nc nm ad X Z L 0 0 (sRet (some (.int (bsI (beB X nm n r)))) X Z L) := by
        intro x hx
        subst hx
        refine s_iincw (w := 1) d_Fa_bearers_78 rfl (by decide) (by decide) rfl ?_
        refine s_goto (tgt := 5) d_Fa_bearers_81 (by decide) ?_
        rw [nI_1]
        exact s_keep 5 rfl (ih (m + 1) (by omega))
      have yes : brB X n r m = true → VS G M_Fa_bearers 4 100 65 [(0, .ref (ad 5 4)), (1, .int n), (2, .int r), (3, .int (bsI (beB X m n r))), (4, .int (nI m)), (5, .ref (ad 1 m))] [] nc nm ad X Z L 0 0 (sRet (some (.int (bsI (beB X nm n r)))) X Z L) := by
        intro h
        refine s_iload_n d_Fa_bearers_65 rfl ?_
        refine s_iconst (v := 1) d_Fa_bearers_66 (by decide) ?_
        refine s_aload d_Fa_bearers_67 rfl (by first | rfl | exact vIsR_rf _) ?_
        refine s_get 1 (m) d_Fa_bearers_69 (decide_eq_true (hmn)) rfl rfl i_Pm 0 (by decide) kf_Fa_59 (Or.inl rfl) rfl ?_
        refine s_get 0 ((oN X m)) d_Fa_bearers_72 (decide_eq_true (ho)) rfl rfl i_Pc 3 (by decide) kf_Fa_106 (Or.inl rfl) rfl ?_
        rw [hz.1 _ ho]
        refine s_ishl d_Fa_bearers_75 ?_
        refine s_ior d_Fa_bearers_76 ?_
        refine s_istore_n d_Fa_bearers_77 (by decide) rfl ?_
        rw [bs_one (by omega), bs_or]
        refine go _ (bs_congr (fun k _ => ?_))
        show _ = (beB X m n r k || (brB X n r m && decide (k = oN X m)))
        rw [h, Bool.true_and]
      have st : (decide (X 3 m = n) && decide (X 4 m = r)) = false → VS G M_Fa_bearers 4 100 55 [(0, .ref (ad 5 4)), (1, .int n), (2, .int r), (3, .int (bsI (beB X m n r))), (4, .int (nI m)), (5, .ref (ad 1 m))] [] nc nm ad X Z L 0 0 (sRet (some (.int (bsI (beB X nm n r)))) X Z L) := by
        intro h
        refine s_aload d_Fa_bearers_55 rfl (by first | rfl | exact vIsR_rf _) ?_
        refine s_iload_n d_Fa_bearers_57 rfl ?_
        refine s_iload_n d_Fa_bearers_58 rfl ?_
        refine s_callS3r (M1 := M_Fa_standsIn) d_Fa_bearers_59 km_Fa_115 kS_Fa_standsIn (by decide) (by first | rfl | exact vRf_cat _) (by first | rfl | exact vRf_cat _) (by first | rfl | exact vRf_cat _) (by decide) kM_Fa_standsIn ki_Fa (by decide) (by decide +kernel) (c_Fa_standsIn hmn (hw.2.2.2.1 m hmn).1) ?_
        cases hs : siB X n r m with
        | false =>
          refine s_if_eq (tgt := 78) d_Fa_bearers_62 (by decide) (fun _ => ?_) (fun c => absurd (rfl) c)
          refine go _ (bs_congr (fun k _ => ?_))
          show _ = (beB X m n r k || (brB X n r m && decide (k = oN X m)))
          rw [show brB X n r m = false by unfold brB; rw [h, hs]; rfl, Bool.false_and, Bool.or_false]
        | true =>
          refine s_if_eq (tgt := 78) d_Fa_bearers_62 (by decide) (fun c => absurd c (by decide)) (fun _ => ?_)
          exact yes (by unfold brB; rw [hs, Bool.or_true])
      refine s_iload d_Fa_bearers_5 rfl ?_
      refine s_aload_n d_Fa_bearers_7 rfl (by first | rfl | exact vIsR_rf _) ?_
      refine s_get 5 4 d_Fa_bearers_8 rfl rfl rfl i_Fa 0 (by decide) kf_Fa_9 (Or.inl rfl) rfl ?_
      refine s_get 5 1 d_Fa_bearers_11 rfl rfl rfl i_Pr 1 (by decide) kf_Fa_42 (Or.inl rfl) rfl ?_
      refine s_metSize d_Fa_bearers_14 km_Fa_48 hL ?_
      refine s_icmp_ge (tgt := 84) d_Fa_bearers_17 (by decide) (fun c => absurd c (nI_ge (by omega) (by omega))) (fun _ => ?_)
      refine s_aload_n d_Fa_bearers_20 rfl (by first | rfl | exact vIsR_rf _) ?_
      refine s_get 5 4 d_Fa_bearers_21 rfl rfl rfl i_Fa 0 (by decide) kf_Fa_9 (Or.inl rfl) rfl ?_
      refine s_get 5 1 d_Fa_bearers_24 rfl rfl rfl i_Pr 1 (by decide) kf_Fa_42 (Or.inl rfl) rfl ?_
      refine s_iload d_Fa_bearers_27 rfl ?_
      refine s_metGet d_Fa_bearers_29 km_Fa_53 hL (m) rfl (hmn) ?_
      refine s_cast 1 (m) d_Fa_bearers_32 (decide_eq_true (hmn)) rfl rfl kc_Fa_57 kx_Pm_Pm ?_
      refine s_astore d_Fa_bearers_35 (by first | rfl | exact vIsR_rf _) (by decide) rfl ?_
      refine s_at 37 rfl ?_
      refine s_aload d_Fa_bearers_37 rfl (by first | rfl | exact vIsR_rf _) ?_
      refine s_get 1 (m) d_Fa_bearers_39 (decide_eq_true (hmn)) rfl rfl i_Pm 5 (by decide) kf_Fa_63 (Or.inl rfl) rfl ?_
      by_cases e1 : X 3 m = n
      · refine s_iload_n d_Fa_bearers_42 rfl ?_
        refine s_icmp_ne (tgt := 55) d_Fa_bearers_43 (by decide) (fun c => absurd (e1) c) (fun _ => ?_)
        refine s_aload d_Fa_bearers_46 rfl (by first | rfl | exact vIsR_rf _) ?_
        refine s_get 1 (m) d_Fa_bearers_48 (decide_eq_true (hmn)) rfl rfl i_Pm 3 (by decide) kf_Fa_66 (Or.inl rfl) rfl ?_
        by_cases e2 : X 4 m = r
        · refine s_iload_n d_Fa_bearers_51 rfl ?_
          refine s_icmp_eq (tgt := 65) d_Fa_bearers_52 (by decide) (fun _ => ?_) (fun c => absurd (e2) c)
          exact yes (by unfold brB; rw [decide_eq_true e1, decide_eq_true e2]; rfl)
        · refine s_iload_n d_Fa_bearers_51 rfl ?_
          refine s_icmp_eq (tgt := 65) d_Fa_bearers_52 (by decide) (fun c => absurd c (e2)) (fun _ => ?_)
          exact st (by rw [decide_eq_false e2, Bool.and_false])
      · refine s_iload_n d_Fa_bearers_42 rfl ?_
        refine s_icmp_ne (tgt := 55) d_Fa_bearers_43 (by decide) (fun _ => ?_) (fun c => absurd c (e1))
        exact st (by rw [decide_eq_false e1, Bool.false_and])
  refine s_iconst (v := 0) d_Fa_bearers_0 (by decide) ?_
  refine s_istore_n d_Fa_bearers_1 (by decide) rfl ?_
  refine s_iconst (v := 0) d_Fa_bearers_2 (by decide) ?_
  refine s_istore d_Fa_bearers_3 (by decide) rfl ?_
  rw [bs_0]
  exact loop nm 0 (by omega)
theorem c_Fa_joinedTo {T S : Nat → Bool} (h8 : nc ≤ 8) (hL : cR X nc nm L) (hz : zRel X nc Z) : VS G M_Fa_joinedTo 2 60 0 [(0, .ref (ad 5 4)), (1, .int (bsI S)), (2, .int (bsI T))] [] nc nm ad X Z L 0 0 (sRet (some (.int (bsI (jnS X nc T S 8)))) X Z L) := by
  have loop : ∀ r k, k + r = 8 → VS G M_Fa_joinedTo 2 60 5 [(0, .ref (ad 5 4)), (1, .int (bsI S)), (2, .int (bsI T)), (3, .int (bsI (jnS X nc T S k))), (4, .int (nI k))] [] nc nm ad X Z L 0 0 (sRet (some (.int (bsI (jnS X nc T S 8)))) X Z L) := by
    intro r
    induction r with
    | zero =>
      intro k hk
      have hk' : k = 8 := by omega
      subst hk'
      refine s_iload d_Fa_joinedTo_5 rfl ?_
      refine s_bipush (v := 8) d_Fa_joinedTo_7 (by decide) ?_
      refine s_icmp_ge (tgt := 28) d_Fa_joinedTo_9 (by decide) (fun _ => ?_) (fun c => absurd (by decide) c)
      refine s_iload_n d_Fa_joinedTo_28 rfl ?_
      exact s_iret d_Fa_joinedTo_29 rfl rfl ⟨rfl, rfl, rfl, rfl⟩
    | succ r ih =>
      intro k hk
      refine s_iload d_Fa_joinedTo_5 rfl ?_
      refine s_bipush (v := 8) d_Fa_joinedTo_7 (by decide) ?_
      refine s_icmp_ge (tgt := 28) d_Fa_joinedTo_9 (by decide) (fun c => absurd c (nI_ge (b := 8) (by omega) (by omega))) (fun _ => ?_)
      refine s_iload_n d_Fa_joinedTo_12 rfl ?_
      refine s_iload_n d_Fa_joinedTo_13 rfl ?_
      refine s_aload_n d_Fa_joinedTo_14 rfl (by first | rfl | exact vIsR_rf _) ?_
      refine s_iload_n d_Fa_joinedTo_15 rfl ?_
      refine s_callV1r (M1 := M_Fa_relatedTo) 5 4 d_Fa_joinedTo_16 rfl rfl rfl km_Fa_129 kI_Fa_relatedTo ks_Fa_Fa_relatedTo (by decide) (by first | rfl | exact vRf_cat _) (by decide) kM_Fa_relatedTo ki_Fa (by decide) (by decide +kernel) (c_Fa_relatedTo h8 hL hz) ?_
      refine s_iand d_Fa_joinedTo_19 ?_
      refine s_ior d_Fa_joinedTo_20 ?_
      rw [bs_and, bs_or]
      refine s_istore_n d_Fa_joinedTo_21 (by decide) rfl ?_
      refine s_iincw (w := 1) d_Fa_joinedTo_22 rfl (by decide) (by decide) rfl ?_
      refine s_goto (tgt := 5) d_Fa_joinedTo_25 (by decide) ?_
      rw [nI_1]
      exact ih (k + 1) (by omega)
  refine s_iload_n d_Fa_joinedTo_0 rfl ?_
  refine s_istore_n d_Fa_joinedTo_1 (by decide) rfl ?_
  refine s_iconst (v := 0) d_Fa_joinedTo_2 (by decide) ?_
  refine s_istore d_Fa_joinedTo_3 (by decide) rfl ?_
  exact loop 8 0 (by omega)
end VFa1
