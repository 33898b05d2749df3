/-! The class: rename. -/
section VFa4
variable {G : vG} {nc nm : Nat} {ad : Nat → Nat → Nat} {X Z W : Nat → Nat → Int32} {L : Nat → Nat → List Nat}
def foV (F : Nat → Int32) : Option Nat → Int32
  | none => 26
  | some q => F q
theorem c_Fa_newNameOf {F : Nat → Int32} {n r : Int32} {c : Nat} (hw : wW W nc nm) (hc : c < nc) (hzc : Z 0 c = nI c) (hf : zFm W nc nm Z nm) (hn : zNew W nc nm F Z) : VS G M_Fa_newNameOf 2 70 0 [(0, .ref (ad 5 4)), (1, .ref (ad 0 c)), (2, .int n), (3, .int r)] [] nc nm ad X Z L 0 0 (sRet (some (.int (foV F (foO W nc nm n r c nm)))) X Z L) := by
  have h24 := hw.2.1
  refine s_aload_n d_Fa_newNameOf_0 rfl (by first | rfl | exact vIsR_rf _) ?_
  refine s_aload_n d_Fa_newNameOf_1 rfl (by first | rfl | exact vIsR_rf _) ?_
  refine s_iload_n d_Fa_newNameOf_2 rfl ?_
  refine s_iload_n d_Fa_newNameOf_3 rfl ?_
  refine s_callV3r (M1 := M_Fa_familyOf) 5 4 d_Fa_newNameOf_4 rfl rfl rfl km_Fa_69 kI_Fa_familyOf ks_Fa_Fa_familyOf (by decide) (by first | rfl | exact vRf_cat _) (by first | rfl | exact vRf_cat _) (by first | rfl | exact vRf_cat _) (by decide) kM_Fa_familyOf ki_Fa (by decide) (by decide +kernel) (c_Fa_familyOf hw hc hzc (Nat.le_refl nm) hf) ?_
  cases e : foO W nc nm n r c nm with
  | none =>
    refine s_istore d_Fa_newNameOf_7 (by decide) rfl ?_
    refine s_iload d_Fa_newNameOf_9 rfl ?_
    refine s_iconst (v := (-1)) d_Fa_newNameOf_11 (by decide) ?_
    refine s_icmp_ne (tgt := 20) d_Fa_newNameOf_12 (by decide) (fun c => absurd (rfl) c) (fun _ => ?_)
    refine s_bipush (v := 26) d_Fa_newNameOf_15 (by decide) ?_
    refine s_goto (tgt := 27) d_Fa_newNameOf_17 (by decide) ?_
    exact s_iret d_Fa_newNameOf_27 rfl rfl ⟨rfl, rfl, rfl, rfl⟩
  | some q =>
    have hr := fo_root hw (Nat.le_refl nm) e
    have hq := (fst_some e).2.1
    have h1 := cntB_step (show q < nm by omega) hr
    have h2 := cntB_le (rtC W nc nm) nm
    refine s_istore d_Fa_newNameOf_7 (by decide) rfl ?_
    refine s_iload d_Fa_newNameOf_9 rfl ?_
    refine s_iconst (v := (-1)) d_Fa_newNameOf_11 (by decide) ?_
    refine s_icmp_ne (tgt := 20) d_Fa_newNameOf_12 (by decide) (fun _ => ?_) (fun c => absurd c ((show nI (cntB (rtC W nc nm) q) ≠ -1 from fun z => nI_pos (n := cntB (rtC W nc nm) q) (by omega) (by rw [z]; decide))))
    refine s_aload_n d_Fa_newNameOf_20 rfl (by first | rfl | exact vIsR_rf _) ?_
    refine s_get 5 4 d_Fa_newNameOf_21 rfl rfl rfl i_Fa 5 (by decide) kf_Fa_28 (Or.inl rfl) rfl ?_
    refine s_iload d_Fa_newNameOf_24 rfl ?_
    refine s_ald 4 ((cntB (rtC W nc nm) q)) d_Fa_newNameOf_26 (by decide) rfl (show cntB (rtC W nc nm) q < 24 by omega) ?_
    rw [show Z (4 + 4) (cntB (rtC W nc nm) q) = F q from hn q (by omega) hr]
    exact s_iret d_Fa_newNameOf_27 rfl rfl ⟨rfl, rfl, rfl, rfl⟩
theorem wW_same (h : ∀ k i, k ≠ 3 → k ≠ 14 → k < 20 → X k i = W k i) (hw : wW W nc nm) : wW X nc nm := by
  have e2 : ∀ m, oN X m = oN W m := fun m => by unfold oN; rw [h 2 m (by decide) (by decide) (by decide)]
  have e5 : ∀ m, iN X m = iN W m := fun m => by unfold iN; rw [h 5 m (by decide) (by decide) (by decide)]
  have e9 : ∀ m, kN X m = kN W m := fun m => by unfold kN; rw [h 9 m (by decide) (by decide) (by decide)]
  have e13 : ∀ m, cN X m = cN W m := fun m => by unfold cN; rw [h 13 m (by decide) (by decide) (by decide)]
  refine ⟨⟨hw.1.1, fun c hc => ?_⟩, hw.2.1, fun m hm => ?_, fun m hm => ?_, fun m hm => ?_, fun m hm j hj h1 => ?_⟩
  · rw [h 0 c (by decide) (by decide) (by decide)]; exact hw.1.2 c hc
  · rw [e2, h 2 m (by decide) (by decide) (by decide)]; exact hw.2.2.1 m hm
  · rw [e5, h 5 m (by decide) (by decide) (by decide)]; exact hw.2.2.2.1 m hm
  · rw [e9, h 9 m (by decide) (by decide) (by decide)]; exact hw.2.2.2.2.1 m hm
  · rw [h 12 _ (by decide) (by decide) (by decide)] at h1
    rw [e5] at hj
    rw [e13, h 13 _ (by decide) (by decide) (by decide)]
    exact hw.2.2.2.2.2 m hm j hj h1
theorem cR_same (h : ∀ i, X 2 i = W 2 i) (hL : cR W nc nm L) : cR X nc nm L := by
  refine ⟨hL.1, hL.2.1, fun c hc => ?_⟩
  rw [hL.2.2 c hc]
  unfold ownL oN
  congr 1
  funext m
  rw [h m]
theorem findS_same (h : ∀ k i, k ≠ 14 → X k i = W k i) {n r : Int32} : ∀ f c, findS X nm n r f c = findS W nm n r f c
  | 0, c => rfl
  | f + 1, c => by
    have e1 : ownS X nm (nI c) n r = ownS W nm (nI c) n r := by
      unfold ownS
      exact fst_congr _ _ (fun m _ _ => by unfold ownB; rw [h 2 m (by decide), h 3 m (by decide), h 4 m (by decide)])
    have e2 : pS X c = pS W c := by unfold pS; rw [h 0 c (by decide)]
    unfold findS
    rw [e1, e2]
    cases ownS W nm (nI c) n r with
    | some m => rfl
    | none =>
      cases pS W c with
      | none => rfl
      | some d => exact findS_same h f d
def roV (W : Nat → Nat → Int32) (nc nm : Nat) (F : Nat → Int32) : Option Nat → Int32
  | none => 26
  | some q => F (roN W nc nm q)
def niC (W : Nat → Nat → Int32) (nc nm : Nat) (F : Nat → Int32) (m i : Nat) : Int32 :=
  if W 12 i = 1 then roV W nc nm F (fdS W nm i (cN W i)) else if W 12 i = 2 then foV F (foO W nc nm (W 14 i) (W 15 i) (oN W m) nm) else W 14 i
def wiR (W : Nat → Nat → Int32) (nc nm : Nat) (F : Nat → Int32) (i0 : Nat) (X : Nat → Nat → Int32) : Prop := (∀ k i, k ≠ 14 → X k i = W k i) ∧ ∀ q, q < nm → ∀ j, j < iN W q → X 14 (q * 5 + j) = if q * 5 + j < i0 then niC W nc nm F q (q * 5 + j) else W 14 (q * 5 + j)
theorem wiR_step {F : Nat → Int32} {m j : Nat} {v : Int32} (hm : m < nm) (h5 : ∀ q, q < nm → iN W q ≤ 5) (hj : j < iN W m) (h : wiR W nc nm F (m * 5 + j) X) (hv : v = niC W nc nm F m (m * 5 + j)) : wiR W nc nm F (m * 5 + (j + 1)) (mW X 14 (m * 5 + j) v) := by
  refine ⟨fun k i hk => by rw [mW_k hk]; exact h.1 k i hk, fun q hq i hi => ?_⟩
  have := h5 q hq
  have := h5 m hm
  by_cases e : q * 5 + i = m * 5 + j
  · have e1 : q = m := by omega
    have e2 : i = j := by omega
    subst e1; subst e2
    rw [mW_at, hv, if_pos (by omega)]
  · rw [mW_i e, h.2 q hq i hi]
    by_cases hl : q * 5 + i < m * 5 + j
    · rw [if_pos hl, if_pos (by omega)]
    · rw [if_neg hl, if_neg (by omega)]
theorem wiR_same {F : Nat → Int32} {m j : Nat} (hm : m < nm) (h5 : ∀ q, q < nm → iN W q ≤ 5) (hj : j < iN W m) (h : wiR W nc nm F (m * 5 + j) X) (hv : W 14 (m * 5 + j) = niC W nc nm F m (m * 5 + j)) : wiR W nc nm F (m * 5 + (j + 1)) X := by
  refine ⟨h.1, fun q hq i hi => ?_⟩
  have := h5 q hq
  have := h5 m hm
  rw [h.2 q hq i hi]
  by_cases e : q * 5 + i = m * 5 + j
  · have e1 : q = m := by omega
    have e2 : i = j := by omega
    subst e1; subst e2
    rw [if_neg (by omega), if_pos (by omega), hv]
  · by_cases hl : q * 5 + i < m * 5 + j
    · rw [if_pos hl, if_pos (by omega)]
    · rw [if_neg hl, if_neg (by omega)]
theorem c_Fa_writeItems {F : Nat → Int32} {m : Nat} {g : Int32} (hw : wW W nc nm) (hLW : cR W nc nm L) (hz : zFa W nc nm g Z) (hn : zNew W nc nm F Z) (hm : m < nm) (hx : wiR W nc nm F (m * 5) X) : VS G M_Fa_writeItems 5 130 0 [(0, .ref (ad 5 4)), (1, .ref (ad 1 m))] [] nc nm ad X Z L 0 0 (fun r X' Z' L' => r = .inl none ∧ Z' = Z ∧ L' = L ∧ wiR W nc nm F ((m + 1) * 5) X') := by
  have h24 := hw.2.1
  have h5 : ∀ q, q < nm → iN W q ≤ 5 := fun q hq => (hw.2.2.2.1 q hq).1
  have ho := (hw.2.2.1 m hm).1
  have loop : ∀ k j (X : Nat → Nat → Int32), j + k = iN W m → wiR W nc nm F (m * 5 + j) X → VS G M_Fa_writeItems 5 130 2 [(0, .ref (ad 5 4)), (1, .ref (ad 1 m)), (2, .int (nI j))] [] nc nm ad X Z L 0 0 (fun r X' Z' L' => r = .inl none ∧ Z' = Z ∧ L' = L ∧ wiR W nc nm F ((m + 1) * 5) X') := by
    intro k
    induction k with
    | zero =>
      intro j X hj hx
      have hi : iN X m = iN W m := by unfold iN; rw [hx.1 5 m (by decide)]
      have h5m := h5 m hm
      have fin : wiR W nc nm F ((m + 1) * 5) X := by
        refine ⟨hx.1, fun q hq i hi => ?_⟩
        have := h5 q hq
        rw [hx.2 q hq i hi]
        by_cases hl : q * 5 + i < m * 5 + j
        · rw [if_pos hl, if_pos (by omega)]
        · rw [if_neg hl, if_neg]
          intro z
          have e : q = m := by omega
          rw [e] at hl hi
          omega
      refine s_iload_n d_Fa_writeItems_2 rfl ?_
      refine s_aload_n d_Fa_writeItems_3 rfl (by first | rfl | exact vIsR_rf _) ?_
      refine s_get 1 (m) d_Fa_writeItems_4 (decide_eq_true (hm)) rfl rfl i_Pm 4 (by decide) kf_Fa_119 (Or.inl rfl) rfl ?_
      refine s_itSize (m) d_Fa_writeItems_7 km_Fa_48 (hm) ?_
      refine s_icmp_ge (tgt := 119) d_Fa_writeItems_10 (by decide) (fun _ => ?_) (fun c => absurd (nI_le (by omega) (by omega)) c)
      exact s_vret d_Fa_writeItems_119 rfl ⟨rfl, rfl, rfl, fin⟩
    | succ k ih =>
      intro j X hj hx
      have hi : iN X m = iN W m := by unfold iN; rw [hx.1 5 m (by decide)]
      have h5m := h5 m hm
      have hjX : j < iN X m := by omega
      have hj5 : j < 5 := by omega
      have hLX : cR X nc nm L := cR_same (fun i => hx.1 2 i (by decide)) hLW
      have hwX : wW X nc nm := wW_same (fun k i _ b _ => hx.1 k i b) hw
      have eo : oN X m = oN W m := by unfold oN; rw [hx.1 2 m (by decide)]
      have e14 : X 14 (m * 5 + j) = W 14 (m * 5 + j) := by rw [hx.2 m hm j (by omega), if_neg (by omega)]
      have e12 : X 12 (m * 5 + j) = W 12 (m * 5 + j) := hx.1 12 _ (by decide)
      have e15 : X 15 (m * 5 + j) = W 15 (m * 5 + j) := hx.1 15 _ (by decide)
      have go : ∀ (X : Nat → Nat → Int32), wiR W nc nm F (m * 5 + (j + 1)) X → VS G M_Fa_writeItems 5 130 113 [(0, .ref (ad 5 4)), (1, .ref (ad 1 m)), (2, .int (nI j))] [] nc nm ad X Z L 0 0 (fun r X' Z' L' => r = .inl none ∧ Z' = Z ∧ L' = L ∧ wiR W nc nm F ((m + 1) * 5) X') := by
        intro X h
        refine s_iincw (w := 1) d_Fa_writeItems_113 rfl (by decide) (by decide) rfl ?_
        refine s_goto (tgt := 2) d_Fa_writeItems_116 (by decide) ?_
        rw [nI_1]
        exact ih (j + 1) X (by omega) h
      have hv := cV2 (X := X) (nc := nc) hm hjX hj5
      refine s_iload_n d_Fa_writeItems_2 rfl ?_
      refine s_aload_n d_Fa_writeItems_3 rfl (by first | rfl | exact vIsR_rf _) ?_
      refine s_get 1 (m) d_Fa_writeItems_4 (decide_eq_true (hm)) rfl rfl i_Pm 4 (by decide) kf_Fa_119 (Or.inl rfl) rfl ?_
      refine s_itSize (m) d_Fa_writeItems_7 km_Fa_48 (hm) ?_
      refine s_icmp_ge (tgt := 119) d_Fa_writeItems_10 (by decide) (fun c => absurd c (nI_ge (by omega) (by omega))) (fun _ => ?_)
      refine s_aload_n d_Fa_writeItems_13 rfl (by first | rfl | exact vIsR_rf _) ?_
      refine s_get 1 (m) d_Fa_writeItems_14 (decide_eq_true (hm)) rfl rfl i_Pm 4 (by decide) kf_Fa_119 (Or.inl rfl) rfl ?_
      refine s_iload_n d_Fa_writeItems_17 rfl ?_
      refine s_itGet (m) d_Fa_writeItems_18 km_Fa_53 (hm) (j) rfl (hjX) ?_
      refine s_cast 2 ((m * 5 + j)) d_Fa_writeItems_21 (hv) rfl rfl kc_Fa_122 kx_It_It ?_
      refine s_astore_n d_Fa_writeItems_24 (by first | rfl | exact vIsR_rf _) (by decide) rfl ?_
      refine s_aload_n d_Fa_writeItems_25 rfl (by first | rfl | exact vIsR_rf _) ?_
      refine s_at 26 rfl ?_
      refine s_get 2 ((m * 5 + j)) d_Fa_writeItems_26 (hv) rfl rfl i_It 2 (by decide) kf_Fa_136 (Or.inl rfl) rfl ?_
      by_cases h1 : X 12 (m * 5 + j) = 1
      · rw [if_pos h1]
        have h1W : W 12 (m * 5 + j) = 1 := by rw [← e12]; exact h1
        have hc := (hwX.2.2.2.2.2 m hm j hjX h1).1
        have ec : cN X (m * 5 + j) = cN W (m * 5 + j) := by unfold cN; rw [hx.1 13 _ (by decide)]
        refine s_ifnull (r := some (ad 0 (cN X (m * 5 + j)))) (tgt := 85) d_Fa_writeItems_29 (by decide) (fun z => nomatch z) (fun _ _ => ?_)
        refine s_aload_n d_Fa_writeItems_32 rfl (by first | rfl | exact vIsR_rf _) ?_
        refine s_get 2 ((m * 5 + j)) d_Fa_writeItems_33 (hv) rfl rfl i_It 2 (by decide) kf_Fa_136 (Or.inl rfl) rfl ?_
        rw [if_pos h1]
        refine s_aload_n d_Fa_writeItems_36 rfl (by first | rfl | exact vIsR_rf _) ?_
        refine s_get 2 ((m * 5 + j)) d_Fa_writeItems_37 (hv) rfl rfl i_It 4 (by decide) kf_Fa_127 (Or.inl rfl) rfl ?_
        refine s_aload_n d_Fa_writeItems_40 rfl (by first | rfl | exact vIsR_rf _) ?_
        refine s_get 2 ((m * 5 + j)) d_Fa_writeItems_41 (hv) rfl rfl i_It 3 (by decide) kf_Fa_128 (Or.inl rfl) rfl ?_
        refine s_callV2r (M1 := M_Pc_find) 0 ((cN X (m * 5 + j))) d_Fa_writeItems_44 (decide_eq_true (hc)) rfl rfl km_Fa_139 kI_Pc_find ks_Pc_Pc_find (by decide) (by first | rfl | exact vRf_cat _) (by first | rfl | exact vRf_cat _) (by decide) kM_Pc_find ki_Pc (by decide) (by decide +kernel) (c_Pc_find hwX hLX hc) ?_
        rw [findS_same hx.1, e14, e15, ec]
        cases hfd : findS W nm (W 14 (m * 5 + j)) (W 15 (m * 5 + j)) 9 (cN W (m * 5 + j)) with
        | none =>
          refine s_astore d_Fa_writeItems_47 (by first | rfl | exact vIsR_rf _) (by decide) rfl ?_
          refine s_aload_n d_Fa_writeItems_49 rfl (by first | rfl | exact vIsR_rf _) ?_
          refine s_aload d_Fa_writeItems_50 rfl (by first | rfl | exact vIsR_rf _) ?_
          refine s_ifnonnull (r := none) (tgt := 60) d_Fa_writeItems_52 (by decide) (fun _ => ?_) (fun _ z => nomatch z)
          refine s_bipush (v := 26) d_Fa_writeItems_55 (by decide) ?_
          refine s_goto (tgt := 79) d_Fa_writeItems_57 (by decide) ?_
          refine s_put 2 ((m * 5 + j)) d_Fa_writeItems_79 (hv) rfl rfl i_It tt_It_ok n_It 4 (by decide) kf_Fa_127 (Or.inl rfl) (Or.inl rfl) rfl rfl rfl cU_iname ?_
          refine s_goto (tgt := 113) d_Fa_writeItems_82 (by decide) ?_
          refine s_keep 3 rfl (go _ ?_)
          refine (wiR_step hm h5 (by omega) hx ?_)
          unfold niC fdS
          rw [if_pos h1W, hfd]; rfl
        | some q =>
          have hq := findS_lt hfd
          have hoq := (hwX.2.2.1 q hq).1
          have eoq : oN X q = oN W q := by unfold oN; rw [hx.1 2 q (by decide)]
          refine s_astore d_Fa_writeItems_47 (by first | rfl | exact vIsR_rf _) (by decide) rfl ?_
          refine s_aload_n d_Fa_writeItems_49 rfl (by first | rfl | exact vIsR_rf _) ?_
          refine s_aload d_Fa_writeItems_50 rfl (by first | rfl | exact vIsR_rf _) ?_
          refine s_ifnonnull (r := some (ad 1 q)) (tgt := 60) d_Fa_writeItems_52 (by decide) (fun z => nomatch z) (fun _ _ => ?_)
          refine s_aload_n d_Fa_writeItems_60 rfl (by first | rfl | exact vIsR_rf _) ?_
          refine s_aload d_Fa_writeItems_61 rfl (by first | rfl | exact vIsR_rf _) ?_
          refine s_get 1 (q) d_Fa_writeItems_63 (decide_eq_true (hq)) rfl rfl i_Pm 0 (by decide) kf_Fa_59 (Or.inl rfl) rfl ?_
          refine s_aload d_Fa_writeItems_66 rfl (by first | rfl | exact vIsR_rf _) ?_
          refine s_get 1 (q) d_Fa_writeItems_68 (decide_eq_true (hq)) rfl rfl i_Pm 5 (by decide) kf_Fa_63 (Or.inl rfl) rfl ?_
          refine s_aload d_Fa_writeItems_71 rfl (by first | rfl | exact vIsR_rf _) ?_
          refine s_get 1 (q) d_Fa_writeItems_73 (decide_eq_true (hq)) rfl rfl i_Pm 3 (by decide) kf_Fa_66 (Or.inl rfl) rfl ?_
          refine s_callV3r (M1 := M_Fa_newNameOf) 5 4 d_Fa_writeItems_76 rfl rfl rfl km_Fa_88 kI_Fa_newNameOf ks_Fa_Fa_newNameOf (by decide) (by first | rfl | exact vRf_cat _) (by first | rfl | exact vRf_cat _) (by first | rfl | exact vRf_cat _) (by decide) kM_Fa_newNameOf ki_Fa (by decide) (by decide +kernel) (c_Fa_newNameOf (W := W) hw hoq (hz.1.1 _ hoq) hz.2.2.1 hn) ?_
          rw [hx.1 3 q (by decide), hx.1 4 q (by decide), eoq, fo_ro hw hq]
          refine s_put 2 ((m * 5 + j)) d_Fa_writeItems_79 (hv) rfl rfl i_It tt_It_ok n_It 4 (by decide) kf_Fa_127 (Or.inl rfl) (Or.inl rfl) rfl rfl rfl cU_iname ?_
          refine s_goto (tgt := 113) d_Fa_writeItems_82 (by decide) ?_
          refine s_keep 3 rfl (go _ ?_)
          refine (wiR_step hm h5 (by omega) hx ?_)
          unfold niC fdS
          rw [if_pos h1W, hfd]; rfl
      · rw [if_neg h1]
        have h1W : ¬ W 12 (m * 5 + j) = 1 := by rw [← e12]; exact h1
        refine s_ifnull (r := none) (tgt := 85) d_Fa_writeItems_29 (by decide) (fun _ => ?_) (fun _ z => nomatch z)
        refine s_aload_n d_Fa_writeItems_85 rfl (by first | rfl | exact vIsR_rf _) ?_
        refine s_get 2 ((m * 5 + j)) d_Fa_writeItems_86 (hv) rfl rfl i_It 0 (by decide) kf_Fa_124 (Or.inl rfl) rfl ?_
        by_cases h2 : X 12 (m * 5 + j) = 2
        · have h2W : W 12 (m * 5 + j) = 2 := by rw [← e12]; exact h2
          have hoX : oN X m < nc := by rw [eo]; exact ho
          refine s_iconst (v := 2) d_Fa_writeItems_89 (by decide) ?_
          refine s_icmp_ne (tgt := 113) d_Fa_writeItems_90 (by decide) (fun c => absurd (h2) c) (fun _ => ?_)
          refine s_aload_n d_Fa_writeItems_93 rfl (by first | rfl | exact vIsR_rf _) ?_
          refine s_aload_n d_Fa_writeItems_94 rfl (by first | rfl | exact vIsR_rf _) ?_
          refine s_aload_n d_Fa_writeItems_95 rfl (by first | rfl | exact vIsR_rf _) ?_
          refine s_get 1 (m) d_Fa_writeItems_96 (decide_eq_true (hm)) rfl rfl i_Pm 0 (by decide) kf_Fa_59 (Or.inl rfl) rfl ?_
          refine s_aload_n d_Fa_writeItems_99 rfl (by first | rfl | exact vIsR_rf _) ?_
          refine s_get 2 ((m * 5 + j)) d_Fa_writeItems_100 (hv) rfl rfl i_It 4 (by decide) kf_Fa_127 (Or.inl rfl) rfl ?_
          refine s_at 103 rfl ?_
          refine s_aload_n d_Fa_writeItems_103 rfl (by first | rfl | exact vIsR_rf _) ?_
          refine s_get 2 ((m * 5 + j)) d_Fa_writeItems_104 (hv) rfl rfl i_It 3 (by decide) kf_Fa_128 (Or.inl rfl) rfl ?_
          refine s_callV3r (M1 := M_Fa_newNameOf) 5 4 d_Fa_writeItems_107 rfl rfl rfl km_Fa_88 kI_Fa_newNameOf ks_Fa_Fa_newNameOf (by decide) (by first | rfl | exact vRf_cat _) (by first | rfl | exact vRf_cat _) (by first | rfl | exact vRf_cat _) (by decide) kM_Fa_newNameOf ki_Fa (by decide) (by decide +kernel) (c_Fa_newNameOf (W := W) hw hoX (hz.1.1 _ hoX) hz.2.2.1 hn) ?_
          rw [e14, e15, eo]
          refine s_put 2 ((m * 5 + j)) d_Fa_writeItems_110 (hv) rfl rfl i_It tt_It_ok n_It 4 (by decide) kf_Fa_127 (Or.inl rfl) (Or.inl rfl) rfl rfl rfl cU_iname ?_
          refine s_keep 3 rfl (go _ ?_)
          refine (wiR_step hm h5 (by omega) hx ?_)
          unfold niC
          rw [if_neg h1W, if_pos h2W]
        · have h2W : ¬ W 12 (m * 5 + j) = 2 := by rw [← e12]; exact h2
          refine s_iconst (v := 2) d_Fa_writeItems_89 (by decide) ?_
          refine s_icmp_ne (tgt := 113) d_Fa_writeItems_90 (by decide) (fun _ => ?_) (fun c => absurd c (h2))
          refine s_keep 3 rfl (go X ?_)
          refine (wiR_same hm h5 (by omega) hx ?_)
          unfold niC
          rw [if_neg h1W, if_neg h2W]
  refine s_iconst (v := 0) d_Fa_writeItems_0 (by decide) ?_
  refine s_istore_n d_Fa_writeItems_1 (by decide) rfl ?_
  exact loop (iN W m) 0 X (by omega) hx
/-- what rename leaves -/
def rnC (W : Nat → Nat → Int32) (nc nm : Nat) (F : Nat → Int32) (X : Nat → Nat → Int32) : Prop := (∀ m, m < nm → X 3 m = F (roN W nc nm m)) ∧ (∀ m, m < nm → ∀ j, j < iN W m → X 14 (m * 5 + j) = niC W nc nm F m (m * 5 + j)) ∧ ∀ k i, k ≠ 3 → k ≠ 14 → X k i = W k i
theorem c_Fa_writeNames {F : Nat → Int32} {g : Int32} (hw : wW W nc nm) (hLW : cR W nc nm L) (hz : zFa W nc nm g Z) (hn : zNew W nc nm F Z) : VS G M_Fa_writeNames 6 170 0 [(0, .ref (ad 5 4))] [] nc nm ad W Z L 0 0 (fun r X' Z' L' => r = .inl none ∧ Z' = Z ∧ L' = L ∧ rnC W nc nm F X') := by
  have h24 := hw.2.1
  have h5 : ∀ q, q < nm → iN W q ≤ 5 := fun q hq => (hw.2.2.2.1 q hq).1
  have l2 : ∀ k m (X : Nat → Nat → Int32), m + k = nm → (∀ q, q < m → X 3 q = F (roN W nc nm q)) → (∀ q, m ≤ q → X 3 q = W 3 q) → (∀ q, q < nm → ∀ j, j < iN W q → X 14 (q * 5 + j) = niC W nc nm F q (q * 5 + j)) → (∀ k i, k ≠ 3 → k ≠ 14 → X k i = W k i) → VS G M_Fa_writeNames 6 170 42 [(0, .ref (ad 5 4)), (1, .int (nI m))] [] nc nm ad X Z L 0 0 (fun r X' Z' L' => r = .inl none ∧ Z' = Z ∧ L' = L ∧ rnC W nc nm F X') := by
    intro k
    induction k with
    | zero =>
      intro m X hm h3 h3b h14 hk
      have hL : cR X nc nm L := cR_same (fun i => hk 2 i (by decide) (by decide)) hLW
      refine s_iload_n d_Fa_writeNames_42 rfl ?_
      refine s_aload_n d_Fa_writeNames_43 rfl (by first | rfl | exact vIsR_rf _) ?_
      refine s_get 5 4 d_Fa_writeNames_44 rfl rfl rfl i_Fa 0 (by decide) kf_Fa_9 (Or.inl rfl) rfl ?_
      refine s_get 5 1 d_Fa_writeNames_47 rfl rfl rfl i_Pr 1 (by decide) kf_Fa_42 (Or.inl rfl) rfl ?_
      refine s_metSize d_Fa_writeNames_50 km_Fa_48 hL ?_
      refine s_icmp_ge (tgt := 97) d_Fa_writeNames_53 (by decide) (fun _ => ?_) (fun c => absurd (nI_le (by omega) (by omega)) c)
      exact s_vret d_Fa_writeNames_97 rfl ⟨rfl, rfl, rfl, fun q hq => h3 q (by omega), h14, hk⟩
    | succ k ih =>
      intro m X hm h3 h3b h14 hk
      have hL : cR X nc nm L := cR_same (fun i => hk 2 i (by decide) (by decide)) hLW
      have hmn : m < nm := by omega
      have eo : oN X m = oN W m := by unfold oN; rw [hk 2 m (by decide) (by decide)]
      have ho : oN X m < nc := by rw [eo]; exact (hw.2.2.1 m hmn).1
      refine s_iload_n d_Fa_writeNames_42 rfl ?_
      refine s_aload_n d_Fa_writeNames_43 rfl (by first | rfl | exact vIsR_rf _) ?_
      refine s_get 5 4 d_Fa_writeNames_44 rfl rfl rfl i_Fa 0 (by decide) kf_Fa_9 (Or.inl rfl) rfl ?_
      refine s_get 5 1 d_Fa_writeNames_47 rfl rfl rfl i_Pr 1 (by decide) kf_Fa_42 (Or.inl rfl) rfl ?_
      refine s_metSize d_Fa_writeNames_50 km_Fa_48 hL ?_
      refine s_icmp_ge (tgt := 97) d_Fa_writeNames_53 (by decide) (fun c => absurd c (nI_ge (by omega) (by omega))) (fun _ => ?_)
      refine s_aload_n d_Fa_writeNames_56 rfl (by first | rfl | exact vIsR_rf _) ?_
      refine s_get 5 4 d_Fa_writeNames_57 rfl rfl rfl i_Fa 0 (by decide) kf_Fa_9 (Or.inl rfl) rfl ?_
      refine s_get 5 1 d_Fa_writeNames_60 rfl rfl rfl i_Pr 1 (by decide) kf_Fa_42 (Or.inl rfl) rfl ?_
      refine s_iload_n d_Fa_writeNames_63 rfl ?_
      refine s_metGet d_Fa_writeNames_64 km_Fa_53 hL (m) rfl (hmn) ?_
      refine s_cast 1 (m) d_Fa_writeNames_67 (decide_eq_true (hmn)) rfl rfl kc_Fa_57 kx_Pm_Pm ?_
      refine s_astore_n d_Fa_writeNames_70 (by first | rfl | exact vIsR_rf _) (by decide) rfl ?_
      refine s_at 71 rfl ?_
      refine s_aload_n d_Fa_writeNames_71 rfl (by first | rfl | exact vIsR_rf _) ?_
      refine s_aload_n d_Fa_writeNames_72 rfl (by first | rfl | exact vIsR_rf _) ?_
      refine s_aload_n d_Fa_writeNames_73 rfl (by first | rfl | exact vIsR_rf _) ?_
      refine s_get 1 (m) d_Fa_writeNames_74 (decide_eq_true (hmn)) rfl rfl i_Pm 0 (by decide) kf_Fa_59 (Or.inl rfl) rfl ?_
      refine s_aload_n d_Fa_writeNames_77 rfl (by first | rfl | exact vIsR_rf _) ?_
      refine s_get 1 (m) d_Fa_writeNames_78 (decide_eq_true (hmn)) rfl rfl i_Pm 5 (by decide) kf_Fa_63 (Or.inl rfl) rfl ?_
      refine s_aload_n d_Fa_writeNames_81 rfl (by first | rfl | exact vIsR_rf _) ?_
      refine s_get 1 (m) d_Fa_writeNames_82 (decide_eq_true (hmn)) rfl rfl i_Pm 3 (by decide) kf_Fa_66 (Or.inl rfl) rfl ?_
      refine s_callV3r (M1 := M_Fa_newNameOf) 5 4 d_Fa_writeNames_85 rfl rfl rfl km_Fa_88 kI_Fa_newNameOf ks_Fa_Fa_newNameOf (by decide) (by first | rfl | exact vRf_cat _) (by first | rfl | exact vRf_cat _) (by first | rfl | exact vRf_cat _) (by decide) kM_Fa_newNameOf ki_Fa (by decide) (by decide +kernel) (c_Fa_newNameOf (W := W) hw ho (hz.1.1 _ ho) hz.2.2.1 hn) ?_
      rw [h3b m (Nat.le_refl _), hk 4 m (by decide) (by decide), eo, fo_ro hw hmn]
      refine s_put 1 (m) d_Fa_writeNames_88 (decide_eq_true (hmn)) rfl rfl i_Pm tt_Pm_ok n_Pm 5 (by decide) kf_Fa_63 (Or.inl rfl) (Or.inl rfl) rfl rfl rfl cU_name ?_
      refine s_iincw (w := 1) d_Fa_writeNames_91 rfl (by decide) (by decide) rfl ?_
      refine s_goto (tgt := 42) d_Fa_writeNames_94 (by decide) ?_
      rw [nI_1]
      refine s_keep 2 rfl (ih (m + 1) _ (by omega) (fun q hq => ?_) (fun q hq => ?_) (fun q hq j hj => by rw [mW_k (by decide)]; exact h14 q hq j hj) (fun k i a b => by rw [mW_k a]; exact hk k i a b))
      · by_cases e : q = m
        · subst e; exact mW_at
        · rw [mW_i e]; exact h3 q (by omega)
      · rw [mW_i (by omega)]; exact h3b q (by omega)
  have l1 : ∀ k m (X : Nat → Nat → Int32), m + k = nm → wiR W nc nm F (m * 5) X → VS G M_Fa_writeNames 6 170 2 [(0, .ref (ad 5 4)), (1, .int (nI m))] [] nc nm ad X Z L 0 0 (fun r X' Z' L' => r = .inl none ∧ Z' = Z ∧ L' = L ∧ rnC W nc nm F X') := by
    intro k
    induction k with
    | zero =>
      intro m X hm hx
      have hL : cR X nc nm L := cR_same (fun i => hx.1 2 i (by decide)) hLW
      refine s_iload_n d_Fa_writeNames_2 rfl ?_
      refine s_aload_n d_Fa_writeNames_3 rfl (by first | rfl | exact vIsR_rf _) ?_
      refine s_get 5 4 d_Fa_writeNames_4 rfl rfl rfl i_Fa 0 (by decide) kf_Fa_9 (Or.inl rfl) rfl ?_
      refine s_get 5 1 d_Fa_writeNames_7 rfl rfl rfl i_Pr 1 (by decide) kf_Fa_42 (Or.inl rfl) rfl ?_
      refine s_metSize d_Fa_writeNames_10 km_Fa_48 hL ?_
      refine s_icmp_ge (tgt := 40) d_Fa_writeNames_13 (by decide) (fun _ => ?_) (fun c => absurd (nI_le (by omega) (by omega)) c)
      refine s_iconst (v := 0) d_Fa_writeNames_40 (by decide) ?_
      refine s_istore_n d_Fa_writeNames_41 (by decide) rfl ?_
      refine l2 nm 0 X (by omega) (fun q h => absurd h (Nat.not_lt_zero q)) (fun q _ => hx.1 3 q (by decide)) (fun q hq j hj => ?_) (fun k i _ b => hx.1 k i b)
      have := h5 q hq
      rw [hx.2 q hq j hj, if_pos (by omega)]
    | succ k ih =>
      intro m X hm hx
      have hL : cR X nc nm L := cR_same (fun i => hx.1 2 i (by decide)) hLW
      have hmn : m < nm := by omega
      refine s_iload_n d_Fa_writeNames_2 rfl ?_
      refine s_aload_n d_Fa_writeNames_3 rfl (by first | rfl | exact vIsR_rf _) ?_
      refine s_get 5 4 d_Fa_writeNames_4 rfl rfl rfl i_Fa 0 (by decide) kf_Fa_9 (Or.inl rfl) rfl ?_
      refine s_get 5 1 d_Fa_writeNames_7 rfl rfl rfl i_Pr 1 (by decide) kf_Fa_42 (Or.inl rfl) rfl ?_
      refine s_metSize d_Fa_writeNames_10 km_Fa_48 hL ?_
      refine s_icmp_ge (tgt := 40) d_Fa_writeNames_13 (by decide) (fun c => absurd c (nI_ge (by omega) (by omega))) (fun _ => ?_)
      refine s_aload_n d_Fa_writeNames_16 rfl (by first | rfl | exact vIsR_rf _) ?_
      refine s_aload_n d_Fa_writeNames_17 rfl (by first | rfl | exact vIsR_rf _) ?_
      refine s_get 5 4 d_Fa_writeNames_18 rfl rfl rfl i_Fa 0 (by decide) kf_Fa_9 (Or.inl rfl) rfl ?_
      refine s_get 5 1 d_Fa_writeNames_21 rfl rfl rfl i_Pr 1 (by decide) kf_Fa_42 (Or.inl rfl) rfl ?_
      refine s_iload_n d_Fa_writeNames_24 rfl ?_
      refine s_metGet d_Fa_writeNames_25 km_Fa_53 hL (m) rfl (hmn) ?_
      refine s_cast 1 (m) d_Fa_writeNames_28 (decide_eq_true (hmn)) rfl rfl kc_Fa_57 kx_Pm_Pm ?_
      refine s_at 31 rfl ?_
      refine s_callV1 (M1 := M_Fa_writeItems) 5 4 d_Fa_writeNames_31 rfl rfl rfl km_Fa_84 kI_Fa_writeItems ks_Fa_Fa_writeItems (by decide) (by first | rfl | exact vRf_cat _) (by decide) kM_Fa_writeItems ki_Fa (by decide) (by decide +kernel) (c_Fa_writeItems hw hLW hz hn hmn hx) rfl (fun v X9 Z9 L9 z => ?_) (fun E X9 Z9 L9 z => nomatch z.1)
      obtain ⟨z1, rfl, rfl, z4⟩ := z
      cases z1
      refine s_iincw (w := 1) d_Fa_writeNames_34 rfl (by decide) (by decide) rfl ?_
      refine s_goto (tgt := 2) d_Fa_writeNames_37 (by decide) ?_
      rw [nI_1]
      exact ih (m + 1) X9 (by omega) z4
  refine s_iconst (v := 0) d_Fa_writeNames_0 (by decide) ?_
  refine s_istore_n d_Fa_writeNames_1 (by decide) rfl ?_
  refine l1 nm 0 W (by omega) ⟨fun _ _ _ => rfl, fun q hq j hj => by rw [if_neg (by omega)]⟩
theorem c_Cs_rename {g : Int32} (hw : wW X nc nm) (hN : ∀ m, m < nm → ∃ v, v < 26 ∧ X 3 m = nI v) (hL : cR X nc nm L) (hz : zK Z nc g) : VS G M_Cs_rename 8 240 0 [(0, .ref (ad 5 0))] [] nc nm ad X Z L 0 0 (fun r X' Z' L' => r = .inl (some (.int (nI (cntB (rtC X nc nm) nm)))) ∧ L' = L ∧ zK Z' nc g ∧ rnC X nc nm (frC X nc nm nm) X') := by
  refine s_aload_n d_Cs_rename_0 rfl (by first | rfl | exact vIsR_rf _) ?_
  refine s_get 5 0 d_Cs_rename_1 rfl rfl rfl i_Cs 3 (by decide) kf_Cs_35 (Or.inl rfl) rfl ?_
  refine s_callV0 (M1 := M_Fa_form) 5 4 d_Cs_rename_4 rfl rfl rfl km_Cs_132 kI_Fa_form ks_Fa_Fa_form (by decide) (by decide) kM_Fa_form ki_Fa (by decide) (by decide +kernel) (c_Fa_form hw hL hz) rfl (fun v X9 Z9 L9 z => ?_) (fun E X9 Z9 L9 z => nomatch z.1)
  obtain ⟨z1, rfl, rfl, z4⟩ := z
  cases z1
  refine s_aload_n d_Cs_rename_7 rfl (by first | rfl | exact vIsR_rf _) ?_
  refine s_get 5 0 d_Cs_rename_8 rfl rfl rfl i_Cs 3 (by decide) kf_Cs_35 (Or.inl rfl) rfl ?_
  refine s_callV0 (M1 := M_Fa_giveNames) 5 4 d_Cs_rename_11 rfl rfl rfl km_Cs_135 kI_Fa_giveNames ks_Fa_Fa_giveNames (by decide) (by decide) kM_Fa_giveNames ki_Fa (by decide) (by decide +kernel) (c_Fa_giveNames hw hN hL z4) rfl (fun v X8 Z8 L8 z => ?_) (fun E X8 Z8 L8 z => nomatch z.1)
  obtain ⟨z1, rfl, rfl, z5, z6⟩ := z
  cases z1
  refine s_aload_n d_Cs_rename_14 rfl (by first | rfl | exact vIsR_rf _) ?_
  refine s_get 5 0 d_Cs_rename_15 rfl rfl rfl i_Cs 3 (by decide) kf_Cs_35 (Or.inl rfl) rfl ?_
  refine s_callV0 (M1 := M_Fa_writeNames) 5 4 d_Cs_rename_18 rfl rfl rfl km_Cs_138 kI_Fa_writeNames ks_Fa_Fa_writeNames (by decide) (by decide) kM_Fa_writeNames ki_Fa (by decide) (by decide +kernel) (c_Fa_writeNames hw hL z5 z6) rfl (fun v X7 Z7 L7 z => ?_) (fun E X7 Z7 L7 z => nomatch z.1)
  obtain ⟨z1, rfl, rfl, z7⟩ := z
  cases z1
  refine s_aload_n d_Cs_rename_21 rfl (by first | rfl | exact vIsR_rf _) ?_
  refine s_get 5 0 d_Cs_rename_22 rfl rfl rfl i_Cs 3 (by decide) kf_Cs_35 (Or.inl rfl) rfl ?_
  refine s_get 5 4 d_Cs_rename_25 rfl rfl rfl i_Fa 7 (by decide) kf_Cs_141 (Or.inl rfl) rfl ?_
  rw [z5.2.2.1.1]
  exact s_iret d_Cs_rename_28 rfl rfl ⟨rfl, rfl, z5.1, z7⟩
end VFa4
