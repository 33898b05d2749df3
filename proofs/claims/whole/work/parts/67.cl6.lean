/-! The class: Runner and run. -/
section VC6
variable {G : vG} {nc nm : Nat} {ad : Nat → Nat → Nat} {X Z : Nat → Nat → Int32} {L : Nat → Nat → List Nat}
def zU (Z : Nat → Nat → Int32) (s : rS) : Nat → Nat → Int32 := fun k i => if k = 3 ∧ i = 2 then s.2 else if k = 3 ∧ i = 3 then nI s.1 else Z k i
theorem zU_d {s : rS} : zU Z s 3 3 = nI s.1 := rfl
theorem zU_o {s : rS} : zU Z s 3 2 = s.2 := rfl
theorem zU_wd {s : rS} {n : Nat} : mW (zU Z s) 3 3 (nI n) = zU Z (n, s.2) := by
  funext k i
  by_cases h : k = 3 ∧ i = 3
  · obtain ⟨rfl, rfl⟩ := h; rw [mW_at]; rfl
  · simp only [mW, zU, if_neg h]
theorem zU_wo {s : rS} {v : Int32} : mW (zU Z s) 3 2 v = zU Z (s.1, v) := by
  funext k i
  by_cases h : k = 3 ∧ i = 2
  · obtain ⟨rfl, rfl⟩ := h; rw [mW_at]; rfl
  · simp only [mW, zU, if_neg h]
def eOf (e : Int32) : String := if e = 3 then eIs else eNs
def ruX (e : Int32) (X1 : Nat → Nat → Int32) (L1 : Nat → Nat → List Nat) (Z : Nat → Nat → Int32) : sQ0 := fun r X' Z' L' => r = .inr (eOf e) ∧ X' = X1 ∧ L' = L1 ∧ ∃ s', Z' = zU Z s'
abbrev peL (ad : Nat → Nat → Nat) (k : Nat) (n r : Int32) (D : Nat) : List (Nat × Value) := [(0, .ref (ad 5 2)), (1, .ref (ad 0 k)), (2, .int n), (3, .int r), (4, .int (nI D))]
def ruP (G : vG) (nc nm : Nat) (ad : Nat → Nat → Nat) (X : Nat → Nat → Int32) (L : Nat → Nat → List Nat) (d : Nat) : Prop :=
  ∀ (k : Nat) (n r : Int32) (s : rS) (Z : Nat → Nat → Int32) (D : Nat), k < nc → s.1 ≤ 300 → D + d = 17 →
    (∀ s', perF X nm d k n r s = .inr s' → s'.1 ≤ 300 ∧ VS G M_Ru_perform (2 * d + 8) (50 * d + 150) 0 (peL ad k n r D) [] nc nm ad X (zU Z s) L 0 0 (sRet none X (zU Z s') L)) ∧
    (∀ e, perF X nm d k n r s = .inl e → VS G M_Ru_perform (2 * d + 8) (50 * d + 150) 0 (peL ad k n r D) [] nc nm ad X (zU Z s) L 1 6 (ruX e X L Z))
abbrev piL (ad : Nat → Nat → Nat) (i k D : Nat) : List (Nat × Value) := [(0, .ref (ad 5 2)), (1, .ref (ad 2 i)), (2, .ref (ad 0 k)), (3, .int (nI D))]
def ruI (G : vG) (nc nm : Nat) (ad : Nat → Nat → Nat) (X : Nat → Nat → Int32) (L : Nat → Nat → List Nat) (d : Nat) : Prop :=
  ∀ (m j k : Nat) (s : rS) (Z : Nat → Nat → Int32) (D : Nat), m < nm → j < iN X m → k < nc → s.1 ≤ 300 → D + d = 16 →
    (∀ s', oneF X (perF X nm d) k (m * 5 + j) s = .inr s' → s'.1 ≤ 300 ∧ VS G M_Ru_performItem (2 * d + 9) (50 * d + 176) 0 (piL ad (m * 5 + j) k D) [] nc nm ad X (zU Z s) L 0 0 (sRet none X (zU Z s') L)) ∧
    (∀ e, oneF X (perF X nm d) k (m * 5 + j) s = .inl e → VS G M_Ru_performItem (2 * d + 9) (50 * d + 176) 0 (piL ad (m * 5 + j) k D) [] nc nm ad X (zU Z s) L 1 6 (ruX e X L Z))
theorem ruI_of {d : Nat} (hw : wW X nc nm) (hP : ruP G nc nm ad X L d) : ruI G nc nm ad X L d := by
  intro m j k s Z D hm hj hk hs hD
  have h5 := (hw.2.2.2.1 m hm).1
  have hv := cV2 (nc := nc) hm hj (by omega)
  by_cases h300 : s.1 = 300
  · refine ⟨fun s' h => by simp [oneF, h300] at h, fun e h => ?_⟩
    have he : e = 3 := by simp [oneF, h300] at h; exact h.symm
    subst he
    refine s_aload_n d_Ru_performItem_0 rfl (by first | rfl | exact vIsR_rf _) ?_
    refine s_get 5 2 d_Ru_performItem_1 rfl rfl rfl i_Ru 1 (by decide) kf_Ru_15 (Or.inl rfl) rfl ?_
    rw [zU_d]
    refine s_sipush (v := 300) d_Ru_performItem_4 (by decide) ?_
    refine s_icmp_lt (tgt := 20) d_Ru_performItem_7 (by decide) (fun c => absurd c ((show ¬ nI s.1 < 300 by rw [h300]; decide))) (fun _ => ?_)
    exact s_throw d_Ru_performItem_10 d_Ru_performItem_13 d_Ru_performItem_14 d_Ru_performItem_16 d_Ru_performItem_19 (by decide) kc_Ru_22 ki_Is (text := "too many ITEMS in all") (List.mem_of_getElem? (i := 6) rfl) tw_Ru_26 rfl (by first | decide | omega) (by first | exact Nat.le_of_ble_eq_true rfl | omega) ⟨rfl, rfl, rfl, s, rfl⟩
  · have hlt : nI s.1 < 300 := nI_lt (b := 300) (by omega) (by omega)
    -- what comes first, whatever the room
    have head : ∀ (mc ms : Nat) (Q : sQ0), VS G M_Ru_performItem (2 * d + 9) (50 * d + 176) 34 (piL ad (m * 5 + j) k D) [.int (X 12 (m * 5 + j))] nc nm ad X (zU Z (s.1 + 1, s.2)) L mc ms Q → VS G M_Ru_performItem (2 * d + 9) (50 * d + 176) 0 (piL ad (m * 5 + j) k D) [] nc nm ad X (zU Z s) L mc ms Q := by
      intro mc ms Q hk
      refine s_aload_n d_Ru_performItem_0 rfl (by first | rfl | exact vIsR_rf _) ?_
      refine s_get 5 2 d_Ru_performItem_1 rfl rfl rfl i_Ru 1 (by decide) kf_Ru_15 (Or.inl rfl) rfl ?_
      rw [zU_d]
      refine s_sipush (v := 300) d_Ru_performItem_4 (by decide) ?_
      refine s_icmp_lt (tgt := 20) d_Ru_performItem_7 (by decide) (fun _ => ?_) (fun c => absurd (hlt) c)
      refine s_aload_n d_Ru_performItem_20 rfl (by first | rfl | exact vIsR_rf _) ?_
      refine s_dup d_Ru_performItem_21 (by first | rfl | exact vRf_cat _) ?_
      refine s_get 5 2 d_Ru_performItem_22 rfl rfl rfl i_Ru 1 (by decide) kf_Ru_15 (Or.inl rfl) rfl ?_
      rw [zU_d]
      refine s_iconst (v := 1) d_Ru_performItem_25 (by decide) ?_
      refine s_iadd d_Ru_performItem_26 ?_
      rw [nI_1]
      refine s_put 5 2 d_Ru_performItem_27 rfl rfl rfl i_Ru tt_Ru_ok n_Ru 1 (by decide) kf_Ru_15 (Or.inl rfl) (Or.inl rfl) rfl rfl rfl cU_dn ?_
      rw [zU_wd]
      refine s_aload_n d_Ru_performItem_30 rfl (by first | rfl | exact vIsR_rf _) ?_
      refine s_get 2 (m * 5 + j) d_Ru_performItem_31 (hv) rfl rfl i_It 0 (by decide) kf_Ru_64 (Or.inl rfl) rfl ?_
      exact hk
    by_cases h0 : X 12 (m * 5 + j) = 0
    · refine ⟨fun s' h => ?_, fun e h => by simp [oneF, h300, h0] at h⟩
      have he : s' = (s.1 + 1, s.2 * 31 + X 13 (m * 5 + j)) := by simp [oneF, h300, h0] at h; exact h.symm
      subst he
      refine ⟨by show s.1 + 1 ≤ 300; omega, head 0 0 _ ?_⟩
      rw [h0]
      refine s_if_ne (tgt := 56) d_Ru_performItem_34 (by decide) (fun c => absurd (rfl) c) (fun _ => ?_)
      refine s_aload_n d_Ru_performItem_37 rfl (by first | rfl | exact vIsR_rf _) ?_
      refine s_bipush (v := 31) d_Ru_performItem_38 (by decide) ?_
      refine s_aload_n d_Ru_performItem_40 rfl (by first | rfl | exact vIsR_rf _) ?_
      refine s_get 5 2 d_Ru_performItem_41 rfl rfl rfl i_Ru 0 (by decide) kf_Ru_9 (Or.inl rfl) rfl ?_
      rw [zU_o]
      refine s_imul d_Ru_performItem_44 ?_
      refine s_aload_n d_Ru_performItem_45 rfl (by first | rfl | exact vIsR_rf _) ?_
      refine s_get 2 (m * 5 + j) d_Ru_performItem_46 (hv) rfl rfl i_It 1 (by decide) kf_Ru_67 (Or.inl rfl) rfl ?_
      rw [h0, if_neg (by decide), Int32.mul_comm]
      refine s_iadd d_Ru_performItem_49 ?_
      refine s_put 5 2 d_Ru_performItem_50 rfl rfl rfl i_Ru tt_Ru_ok n_Ru 0 (by decide) kf_Ru_9 (Or.inl rfl) (Or.inl rfl) rfl rfl rfl cU_oc ?_
      rw [zU_wo]
      refine s_goto (tgt := 90) d_Ru_performItem_53 (by decide) ?_
      exact s_vret d_Ru_performItem_90 rfl ⟨rfl, rfl, rfl, rfl⟩
    · have h1 : oneF X (perF X nm d) k (m * 5 + j) s = perF X nm d (if X 12 (m * 5 + j) = 1 then cN X (m * 5 + j) else k) (X 14 (m * 5 + j)) (X 15 (m * 5 + j)) (s.1 + 1, s.2) := by simp [oneF, h300, h0]
      have hkk : (if X 12 (m * 5 + j) = 1 then cN X (m * 5 + j) else k) < nc := by
        by_cases e1 : X 12 (m * 5 + j) = 1
        · rw [if_pos e1]; exact (hw.2.2.2.2.2 m hm j hj e1).1
        · rw [if_neg e1]; exact hk
      generalize hg : (if X 12 (m * 5 + j) = 1 then cN X (m * 5 + j) else k) = kk at h1 hkk
      -- up to the call
      have mid : ∀ (mc ms : Nat) (Q : sQ0), VS G M_Ru_performItem (2 * d + 9) (50 * d + 176) 87 (piL ad (m * 5 + j) k D ++ [(4, .ref (ad 0 kk))]) [.int (nI (D + 1)), .int (X 15 (m * 5 + j)), .int (X 14 (m * 5 + j)), .ref (ad 0 kk), .ref (ad 5 2)] nc nm ad X (zU Z (s.1 + 1, s.2)) L mc ms Q → VS G M_Ru_performItem (2 * d + 9) (50 * d + 176) 0 (piL ad (m * 5 + j) k D) [] nc nm ad X (zU Z s) L mc ms Q := by
        intro mc ms Q hQ
        refine head mc ms Q ?_
        have tail : VS G M_Ru_performItem (2 * d + 9) (50 * d + 176) 71 (piL ad (m * 5 + j) k D) [.ref (ad 0 kk)] nc nm ad X (zU Z (s.1 + 1, s.2)) L mc ms Q := by
          refine s_astore d_Ru_performItem_71 (by first | rfl | exact vIsR_rf _) (by decide) rfl ?_
          refine s_aload_n d_Ru_performItem_73 rfl (by first | rfl | exact vIsR_rf _) ?_
          refine s_aload d_Ru_performItem_74 rfl (by first | rfl | exact vIsR_rf _) ?_
          refine s_aload_n d_Ru_performItem_76 rfl (by first | rfl | exact vIsR_rf _) ?_
          refine s_get 2 (m * 5 + j) d_Ru_performItem_77 (hv) rfl rfl i_It 4 (by decide) kf_Ru_74 (Or.inl rfl) rfl ?_
          refine s_aload_n d_Ru_performItem_80 rfl (by first | rfl | exact vIsR_rf _) ?_
          refine s_get 2 (m * 5 + j) d_Ru_performItem_81 (hv) rfl rfl i_It 3 (by decide) kf_Ru_77 (Or.inl rfl) rfl ?_
          refine s_iload_n d_Ru_performItem_84 rfl ?_
          refine s_at 85 rfl ?_
          refine s_iconst (v := 1) d_Ru_performItem_85 (by decide) ?_
          refine s_iadd d_Ru_performItem_86 ?_
          rw [nI_1]
          exact hQ
        refine s_if_ne (tgt := 56) d_Ru_performItem_34 (by decide) (fun _ => ?_) (fun c => absurd c (h0))
        refine s_aload_n d_Ru_performItem_56 rfl (by first | rfl | exact vIsR_rf _) ?_
        refine s_get 2 (m * 5 + j) d_Ru_performItem_57 (hv) rfl rfl i_It 2 (by decide) kf_Ru_70 (Or.inl rfl) rfl ?_
        by_cases e1 : X 12 (m * 5 + j) = 1
        · rw [if_pos e1] at hg
          rw [if_pos e1]
          refine s_ifnonnull (r := some (ad 0 (cN X (m * 5 + j)))) (tgt := 67) d_Ru_performItem_60 (by decide) (fun z => nomatch z) (fun _ _ => ?_)
          refine s_aload_n d_Ru_performItem_67 rfl (by first | rfl | exact vIsR_rf _) ?_
          refine s_get 2 (m * 5 + j) d_Ru_performItem_68 (hv) rfl rfl i_It 2 (by decide) kf_Ru_70 (Or.inl rfl) rfl ?_
          rw [if_pos e1, hg]
          exact tail
        · rw [if_neg e1] at hg
          rw [if_neg e1]
          refine s_ifnonnull (r := none) (tgt := 67) d_Ru_performItem_60 (by decide) (fun _ => ?_) (fun _ z => nomatch z)
          refine s_aload_n d_Ru_performItem_63 rfl (by first | rfl | exact vIsR_rf _) ?_
          refine s_goto (tgt := 71) d_Ru_performItem_64 (by decide) ?_
          rw [← hg] at tail
          exact tail
      obtain ⟨p1, p2⟩ := hP kk (X 14 (m * 5 + j)) (X 15 (m * 5 + j)) (s.1 + 1, s.2) Z (D + 1) hkk (by show s.1 + 1 ≤ 300; omega) (by omega)
      rw [h1]
      refine ⟨fun s' h => ⟨(p1 s' h).1, mid 0 0 _ ?_⟩, fun e h => mid 1 6 _ ?_⟩
      · refine s_callV4u (M1 := M_Ru_perform) 5 2 d_Ru_performItem_87 rfl rfl rfl km_Ru_18 kI_Ru_perform ks_Ru_Ru_perform (by decide) (by first | rfl | exact vRf_cat _) (by first | rfl | exact vRf_cat _) (by first | rfl | exact vRf_cat _) (by first | rfl | exact vRf_cat _) (by decide) kM_Ru_perform ki_Ru (by decide) (by decide +kernel) (p1 s' h).2 (b4 := by show 8 + (7 + 11) + (50 * d + 150) ≤ 50 * d + 176; omega) ?_
        exact s_vret d_Ru_performItem_90 rfl ⟨rfl, rfl, rfl, rfl⟩
      · refine s_callV4 (M1 := M_Ru_perform) 5 2 d_Ru_performItem_87 rfl rfl rfl km_Ru_18 kI_Ru_perform ks_Ru_Ru_perform (by decide) (by first | rfl | exact vRf_cat _) (by first | rfl | exact vRf_cat _) (by first | rfl | exact vRf_cat _) (by first | rfl | exact vRf_cat _) (by decide) kM_Ru_perform ki_Ru (by decide) (by decide +kernel) (p2 e h) (b4 := by show 8 + (7 + 11) + (50 * d + 150) ≤ 50 * d + 176; omega) rfl (fun v X9 Z9 L9 z => nomatch z.1) (fun E X9 Z9 L9 z => z)
theorem ruP_all (hw : wW X nc nm) (hL : cR X nc nm L) : ∀ d, ruP G nc nm ad X L d := by
  intro d
  induction d with
  | zero =>
    intro k n r s Z D hk hs hD
    refine ⟨fun s' h => (nomatch h), fun e h => ?_⟩
    have he : e = 3 := by simp [perF] at h; exact h.symm
    subst he
    refine s_iload d_Ru_perform_0 rfl ?_
    refine s_bipush (v := 16) d_Ru_perform_2 (by decide) ?_
    refine s_icmp_le (tgt := 17) d_Ru_perform_4 (by decide) (fun c => absurd c (nI_ge (a := 16) (by omega) (by omega))) (fun _ => ?_)
    exact s_throw d_Ru_perform_7 d_Ru_perform_10 d_Ru_perform_11 d_Ru_perform_13 d_Ru_perform_16 (by decide) kc_Ru_22 ki_Is (text := "too many RUNNING within one another") (List.mem_of_getElem? (i := 4) rfl) tw_Ru_26 rfl (by first | decide | omega) (by first | exact Nat.le_of_ble_eq_true rfl | omega) ⟨rfl, rfl, rfl, s, rfl⟩
  | succ d ihP =>
    intro k n r s Z D hk hs hD
    have hI := ruI_of hw ihP
    have head : ∀ (mc ms : Nat) (Q : sQ0), VS G M_Ru_perform (2 * (d + 1) + 8) (50 * (d + 1) + 150) 23 (peL ad k n r D) [va_rf ((findS X nm n r 9 k).map (ad 1))] nc nm ad X (zU Z s) L mc ms Q → VS G M_Ru_perform (2 * (d + 1) + 8) (50 * (d + 1) + 150) 0 (peL ad k n r D) [] nc nm ad X (zU Z s) L mc ms Q := by
      intro mc ms Q hQ
      refine s_iload d_Ru_perform_0 rfl ?_
      refine s_bipush (v := 16) d_Ru_perform_2 (by decide) ?_
      refine s_icmp_le (tgt := 17) d_Ru_perform_4 (by decide) (fun _ => ?_) (fun c => absurd (nI_le (b := 16) (by omega) (by omega)) c)
      refine s_aload_n d_Ru_perform_17 rfl (by first | rfl | exact vIsR_rf _) ?_
      refine s_iload_n d_Ru_perform_18 rfl ?_
      refine s_iload_n d_Ru_perform_19 rfl ?_
      refine s_callV2r (M1 := M_Pc_find) 0 (k) d_Ru_perform_20 (decide_eq_true (hk)) rfl rfl km_Ru_29 kI_Pc_find ks_Pc_Pc_find (by decide) (by first | rfl | exact vRf_cat _) (by first | rfl | exact vRf_cat _) (by decide) kM_Pc_find ki_Pc (by decide) (by decide +kernel) (c_Pc_find hw hL hk) (b4 := by show 8 + (5 + 11) + 90 ≤ 50 * (d + 1) + 150; omega) ?_
      exact hQ
    cases hf : findS X nm n r 9 k with
    | none =>
      rw [hf] at head
      have e0 : perF X nm (d + 1) k n r s = .inl 2 := by simp only [perF, hf]
      rw [e0]
      refine ⟨fun s' h => (nomatch h), fun e h => ?_⟩
      cases h
      refine head 1 6 _ ?_
      refine s_astore d_Ru_perform_23 (by first | rfl | exact vIsR_rf _) (by decide) rfl ?_
      refine s_aload d_Ru_perform_25 rfl (by first | rfl | exact vIsR_rf _) ?_
      refine s_ifnonnull (r := none) (tgt := 40) d_Ru_perform_27 (by decide) (fun _ => ?_) (fun _ z => nomatch z)
      exact s_throwN (ix := 13) (b := b_Ns_init) (by decide +kernel) (by decide +kernel) (by decide +kernel) (by decide +kernel) d_Ru_perform_30 d_Ru_perform_33 d_Ru_perform_34 d_Ru_perform_36 d_Ru_perform_39 (by decide) kc_Ru_35 ki_Ns (text := "FINDING gives none") (List.mem_of_getElem? (i := 5) rfl) tw_Ru_39 rfl (by first | decide | omega) (by first | exact Nat.le_of_ble_eq_true rfl | omega) ⟨rfl, rfl, rfl, s, rfl⟩
    | some m =>
      rw [hf] at head
      have hm := findS_lt hf
      have h5 := (hw.2.2.2.1 m hm).1
      have e0 : perF X nm (d + 1) k n r s = itsF X (perF X nm d) k m (iN X m) 0 s := by simp only [perF, hf]
      rw [e0]
      have loop : ∀ c j (s : rS), j + c = iN X m → s.1 ≤ 300 →
          (∀ s', itsF X (perF X nm d) k m c j s = .inr s' → s'.1 ≤ 300 ∧ VS G M_Ru_perform (2 * (d + 1) + 8) (50 * (d + 1) + 150) 43 (peL ad k n r D ++ [(5, .ref (ad 1 m)), (6, .int (nI j))]) [] nc nm ad X (zU Z s) L 0 0 (sRet none X (zU Z s') L)) ∧
          (∀ e, itsF X (perF X nm d) k m c j s = .inl e → VS G M_Ru_perform (2 * (d + 1) + 8) (50 * (d + 1) + 150) 43 (peL ad k n r D ++ [(5, .ref (ad 1 m)), (6, .int (nI j))]) [] nc nm ad X (zU Z s) L 1 6 (ruX e X L Z)) := by
        intro c
        induction c with
        | zero =>
          intro j s hj hs
          refine ⟨fun s' h => ?_, fun e h => (nomatch h)⟩
          cases h
          refine ⟨hs, ?_⟩
          refine s_iload d_Ru_perform_43 rfl ?_
          refine s_aload d_Ru_perform_45 rfl (by first | rfl | exact vIsR_rf _) ?_
          refine s_get 1 (m) d_Ru_perform_47 (decide_eq_true (hm)) rfl rfl i_Pm 4 (by decide) kf_Ru_40 (Or.inl rfl) rfl ?_
          refine s_itSize (m) d_Ru_perform_50 km_Ru_46 (hm) ?_
          refine s_icmp_ge (tgt := 82) d_Ru_perform_53 (by decide) (fun _ => ?_) (fun c => absurd (nI_le (by omega) (by omega)) c)
          exact s_vret d_Ru_perform_82 rfl ⟨rfl, rfl, rfl, rfl⟩
        | succ c ih =>
          intro j s hj hs
          have hji : j < iN X m := by omega
          have hv := cV2 (nc := nc) hm hji (by omega)
          have e1 : itsF X (perF X nm d) k m (c + 1) j s = (match oneF X (perF X nm d) k (m * 5 + j) s with | .inl e => .inl e | .inr s' => itsF X (perF X nm d) k m c (j + 1) s') := rfl
          obtain ⟨i1, i2⟩ := hI m j k s Z D hm hji hk hs (by omega)
          have go : ∀ (mc ms : Nat) (Q : sQ0), VS G M_Ru_perform (2 * (d + 1) + 8) (50 * (d + 1) + 150) 73 (peL ad k n r D ++ [(5, .ref (ad 1 m)), (6, .int (nI j))]) [.int (nI D), .ref (ad 0 k), .ref (ad 2 (m * 5 + j)), .ref (ad 5 2)] nc nm ad X (zU Z s) L mc ms Q → VS G M_Ru_perform (2 * (d + 1) + 8) (50 * (d + 1) + 150) 43 (peL ad k n r D ++ [(5, .ref (ad 1 m)), (6, .int (nI j))]) [] nc nm ad X (zU Z s) L mc ms Q := by
            intro mc ms Q hQ
            refine s_iload d_Ru_perform_43 rfl ?_
            refine s_aload d_Ru_perform_45 rfl (by first | rfl | exact vIsR_rf _) ?_
            refine s_get 1 (m) d_Ru_perform_47 (decide_eq_true (hm)) rfl rfl i_Pm 4 (by decide) kf_Ru_40 (Or.inl rfl) rfl ?_
            refine s_itSize (m) d_Ru_perform_50 km_Ru_46 (hm) ?_
            refine s_icmp_ge (tgt := 82) d_Ru_perform_53 (by decide) (fun c => absurd c (nI_ge (by omega) (by omega))) (fun _ => ?_)
            refine s_aload_n d_Ru_perform_56 rfl (by first | rfl | exact vIsR_rf _) ?_
            refine s_aload d_Ru_perform_57 rfl (by first | rfl | exact vIsR_rf _) ?_
            refine s_get 1 (m) d_Ru_perform_59 (decide_eq_true (hm)) rfl rfl i_Pm 4 (by decide) kf_Ru_40 (Or.inl rfl) rfl ?_
            refine s_iload d_Ru_perform_62 rfl ?_
            refine s_itGet (m) d_Ru_perform_64 km_Ru_52 (hm) (j) rfl (hji) ?_
            refine s_cast 2 (m * 5 + j) d_Ru_perform_67 (hv) rfl rfl kc_Ru_56 kx_It_It ?_
            refine s_aload_n d_Ru_perform_70 rfl (by first | rfl | exact vIsR_rf _) ?_
            refine s_iload d_Ru_perform_71 rfl ?_
            exact hQ
          rw [e1]
          cases ho : oneF X (perF X nm d) k (m * 5 + j) s with
          | inl e0 =>
            refine ⟨fun s' h => (nomatch h), fun e h => ?_⟩
            cases h
            refine go 1 6 _ ?_
            refine s_callV3 (M1 := M_Ru_performItem) 5 2 d_Ru_perform_73 rfl rfl rfl km_Ru_58 kI_Ru_performItem ks_Ru_Ru_performItem (by decide) (by first | rfl | exact vRf_cat _) (by first | rfl | exact vRf_cat _) (by first | rfl | exact vRf_cat _) (by decide) kM_Ru_performItem ki_Ru (by decide) (by decide +kernel) (i2 e0 ho) (b4 := by show 8 + (5 + 11) + (50 * d + 176) ≤ 50 * (d + 1) + 150; omega) rfl (fun v X9 Z9 L9 z => nomatch z.1) (fun E X9 Z9 L9 z => z)
          | inr s1 =>
            obtain ⟨n1, n2⟩ := ih (j + 1) s1 (by omega) (i1 s1 ho).1
            have step : ∀ (mc ms : Nat) (Q : sQ0), VS G M_Ru_perform (2 * (d + 1) + 8) (50 * (d + 1) + 150) 43 (peL ad k n r D ++ [(5, .ref (ad 1 m)), (6, .int (nI (j + 1)))]) [] nc nm ad X (zU Z s1) L mc ms Q → VS G M_Ru_perform (2 * (d + 1) + 8) (50 * (d + 1) + 150) 43 (peL ad k n r D ++ [(5, .ref (ad 1 m)), (6, .int (nI j))]) [] nc nm ad X (zU Z s) L mc ms Q := by
              intro mc ms Q hQ
              refine go mc ms Q ?_
              refine s_callV3u (M1 := M_Ru_performItem) 5 2 d_Ru_perform_73 rfl rfl rfl km_Ru_58 kI_Ru_performItem ks_Ru_Ru_performItem (by decide) (by first | rfl | exact vRf_cat _) (by first | rfl | exact vRf_cat _) (by first | rfl | exact vRf_cat _) (by decide) kM_Ru_performItem ki_Ru (by decide) (by decide +kernel) (i1 s1 ho).2 (b4 := by show 8 + (5 + 11) + (50 * d + 176) ≤ 50 * (d + 1) + 150; omega) ?_
              refine s_iincw (w := 1) d_Ru_perform_76 rfl (by decide) (by decide) rfl ?_
              refine s_goto (tgt := 43) d_Ru_perform_79 (by decide) ?_
              rw [nI_1]
              exact hQ
            exact ⟨fun s' h => ⟨(n1 s' h).1, step 0 0 _ (n1 s' h).2⟩, fun e h => step 1 6 _ (n2 e h)⟩
      obtain ⟨l1, l2⟩ := loop (iN X m) 0 s (by omega) hs
      have fin : ∀ (mc ms : Nat) (Q : sQ0), VS G M_Ru_perform (2 * (d + 1) + 8) (50 * (d + 1) + 150) 43 (peL ad k n r D ++ [(5, .ref (ad 1 m)), (6, .int (nI 0))]) [] nc nm ad X (zU Z s) L mc ms Q → VS G M_Ru_perform (2 * (d + 1) + 8) (50 * (d + 1) + 150) 0 (peL ad k n r D) [] nc nm ad X (zU Z s) L mc ms Q := by
        intro mc ms Q hQ
        refine head mc ms Q ?_
        refine s_astore d_Ru_perform_23 (by first | rfl | exact vIsR_rf _) (by decide) rfl ?_
        refine s_aload d_Ru_perform_25 rfl (by first | rfl | exact vIsR_rf _) ?_
        refine s_ifnonnull (r := some (ad 1 m)) (tgt := 40) d_Ru_perform_27 (by decide) (fun z => nomatch z) (fun _ _ => ?_)
        refine s_iconst (v := 0) d_Ru_perform_40 (by decide) ?_
        refine s_istore d_Ru_perform_41 (by decide) rfl ?_
        exact hQ
      exact ⟨fun s' h => ⟨(l1 s' h).1, fin 0 0 _ (l1 s' h).2⟩, fun e h => fin 1 6 _ (l2 e h)⟩
theorem zU_0 : mW (mW Z 3 2 0) 3 3 0 = zU Z (0, 0) := by
  funext k i
  by_cases h : k = 3 ∧ i = 3
  · obtain ⟨rfl, rfl⟩ := h; rw [mW_at]; rfl
  · by_cases h2 : k = 3 ∧ i = 2
    · obtain ⟨rfl, rfl⟩ := h2; rfl
    · simp only [mW, zU, if_neg h, if_neg h2]
theorem c_Ru_outcomeOf_ok {c : Nat} {n r : Int32} {s : rS} (hw : wW X nc nm) (hL : cR X nc nm L) (hc : c < nc) (h : perF X nm 16 c n r (0, 0) = .inr s) : VS G M_Ru_outcomeOf 41 980 0 [(0, .ref (ad 5 2)), (1, .ref (ad 0 c)), (2, .int n), (3, .int r)] [] nc nm ad X Z L 0 0 (sRet (some (.int s.2)) X (zU Z s) L) := by
  refine s_aload_n d_Ru_outcomeOf_0 rfl (by first | rfl | exact vIsR_rf _) ?_
  refine s_iconst (v := 0) d_Ru_outcomeOf_1 (by decide) ?_
  refine s_put 5 2 d_Ru_outcomeOf_2 rfl rfl rfl i_Ru tt_Ru_ok n_Ru 0 (by decide) kf_Ru_9 (Or.inl rfl) (Or.inl rfl) rfl rfl rfl cU_oc ?_
  refine s_aload_n d_Ru_outcomeOf_5 rfl (by first | rfl | exact vIsR_rf _) ?_
  refine s_iconst (v := 0) d_Ru_outcomeOf_6 (by decide) ?_
  refine s_put 5 2 d_Ru_outcomeOf_7 rfl rfl rfl i_Ru tt_Ru_ok n_Ru 1 (by decide) kf_Ru_15 (Or.inl rfl) (Or.inl rfl) rfl rfl rfl cU_dn ?_
  rw [zU_0]
  refine s_aload_n d_Ru_outcomeOf_10 rfl (by first | rfl | exact vIsR_rf _) ?_
  refine s_aload_n d_Ru_outcomeOf_11 rfl (by first | rfl | exact vIsR_rf _) ?_
  refine s_iload_n d_Ru_outcomeOf_12 rfl ?_
  refine s_iload_n d_Ru_outcomeOf_13 rfl ?_
  refine s_iconst (v := 1) d_Ru_outcomeOf_14 (by decide) ?_
  refine s_callV4u (M1 := M_Ru_perform) 5 2 d_Ru_outcomeOf_15 rfl rfl rfl km_Ru_18 kI_Ru_perform ks_Ru_Ru_perform (by decide) (by first | rfl | exact vRf_cat _) (by first | rfl | exact vRf_cat _) (by first | rfl | exact vRf_cat _) (by first | rfl | exact vRf_cat _) (by decide) kM_Ru_perform ki_Ru (by decide) (by decide +kernel) ((ruP_all hw hL 16 c n r (0, 0) Z 1 hc (by decide) rfl).1 s h).2 ?_
  refine s_aload_n d_Ru_outcomeOf_18 rfl (by first | rfl | exact vIsR_rf _) ?_
  refine s_get 5 2 d_Ru_outcomeOf_19 rfl rfl rfl i_Ru 0 (by decide) kf_Ru_9 (Or.inl rfl) rfl ?_
  rw [zU_o]
  exact s_iret d_Ru_outcomeOf_22 rfl rfl ⟨rfl, rfl, rfl, rfl⟩
theorem c_Ru_outcomeOf_er {c : Nat} {n r e : Int32} (hw : wW X nc nm) (hL : cR X nc nm L) (hc : c < nc) (h : perF X nm 16 c n r (0, 0) = .inl e) : VS G M_Ru_outcomeOf 41 980 0 [(0, .ref (ad 5 2)), (1, .ref (ad 0 c)), (2, .int n), (3, .int r)] [] nc nm ad X Z L 1 6 (ruX e X L Z) := by
  refine s_aload_n d_Ru_outcomeOf_0 rfl (by first | rfl | exact vIsR_rf _) ?_
  refine s_iconst (v := 0) d_Ru_outcomeOf_1 (by decide) ?_
  refine s_put 5 2 d_Ru_outcomeOf_2 rfl rfl rfl i_Ru tt_Ru_ok n_Ru 0 (by decide) kf_Ru_9 (Or.inl rfl) (Or.inl rfl) rfl rfl rfl cU_oc ?_
  refine s_aload_n d_Ru_outcomeOf_5 rfl (by first | rfl | exact vIsR_rf _) ?_
  refine s_iconst (v := 0) d_Ru_outcomeOf_6 (by decide) ?_
  refine s_put 5 2 d_Ru_outcomeOf_7 rfl rfl rfl i_Ru tt_Ru_ok n_Ru 1 (by decide) kf_Ru_15 (Or.inl rfl) (Or.inl rfl) rfl rfl rfl cU_dn ?_
  rw [zU_0]
  refine s_aload_n d_Ru_outcomeOf_10 rfl (by first | rfl | exact vIsR_rf _) ?_
  refine s_aload_n d_Ru_outcomeOf_11 rfl (by first | rfl | exact vIsR_rf _) ?_
  refine s_iload_n d_Ru_outcomeOf_12 rfl ?_
  refine s_iload_n d_Ru_outcomeOf_13 rfl ?_
  refine s_iconst (v := 1) d_Ru_outcomeOf_14 (by decide) ?_
  refine s_callV4 (M1 := M_Ru_perform) 5 2 d_Ru_outcomeOf_15 rfl rfl rfl km_Ru_18 kI_Ru_perform ks_Ru_Ru_perform (by decide) (by first | rfl | exact vRf_cat _) (by first | rfl | exact vRf_cat _) (by first | rfl | exact vRf_cat _) (by first | rfl | exact vRf_cat _) (by decide) kM_Ru_perform ki_Ru (by decide) (by decide +kernel) ((ruP_all hw hL 16 c n r (0, 0) Z 1 hc (by decide) rfl).2 e h) rfl (fun v X9 Z9 L9 z => nomatch z.1) (fun E X9 Z9 L9 z => z)
theorem s_run_go {o n r : Int32} {Q : sQ0} (hc : nc ≤ 8) (hL : cR X nc nm L) (k : VS G M_Cs_run 42 1010 27 [(0, .ref (ad 5 0)), (1, .int o), (2, .int n), (3, .int r)] [.int (bI (inB o 0 (nI nc - 1) && inB n 0 25 && inB r 0 2))] nc nm ad X Z L 1 6 Q) : VS G M_Cs_run 42 1010 0 [(0, .ref (ad 5 0)), (1, .int o), (2, .int n), (3, .int r)] [] nc nm ad X Z L 1 6 Q := by
  have no : (inB o 0 (nI nc - 1) && inB n 0 25 && inB r 0 2) = false → VS G M_Cs_run 42 1010 26 [(0, .ref (ad 5 0)), (1, .int o), (2, .int n), (3, .int r)] [] nc nm ad X Z L 1 6 Q := by
    intro h
    rw [h] at k
    refine s_iconst (v := 0) d_Cs_run_26 (by decide) ?_
    exact k
  refine s_aload_n d_Cs_run_0 rfl (by first | rfl | exact vIsR_rf _) ?_
  refine s_iload_n d_Cs_run_1 rfl ?_
  refine s_callV1r (M1 := M_Cs_isClass) 5 0 d_Cs_run_2 rfl rfl rfl km_Cs_43 kI_Cs_isClass ks_Cs_Cs_isClass (by decide) (by first | rfl | exact vRf_cat _) (by decide) kM_Cs_isClass ki_Cs (by decide) (by decide +kernel) (c_Cs_isClass hc hL) ?_
  cases h1 : inB o 0 (nI nc - 1) with
  | false =>
    refine s_if_eq (tgt := 26) d_Cs_run_5 (by decide) (fun _ => ?_) (fun c => absurd (rfl) c)
    exact no (by rw [h1]; rfl)
  | true =>
    refine s_if_eq (tgt := 26) d_Cs_run_5 (by decide) (fun c => absurd c (by decide)) (fun _ => ?_)
    refine s_iload_n d_Cs_run_8 rfl ?_
    refine s_callS1r (M1 := M_Cs_isName) d_Cs_run_9 km_Cs_81 kS_Cs_isName (by decide) (by first | rfl | exact vRf_cat _) (by decide) kM_Cs_isName ki_Cs (by decide) (by decide +kernel) (c_Cs_isName) ?_
    cases h2 : inB n 0 25 with
    | false =>
      refine s_if_eq (tgt := 26) d_Cs_run_12 (by decide) (fun _ => ?_) (fun c => absurd (rfl) c)
      exact no (by rw [h2, Bool.and_false, Bool.false_and])
    | true =>
      refine s_if_eq (tgt := 26) d_Cs_run_12 (by decide) (fun c => absurd c (by decide)) (fun _ => ?_)
      refine s_iload_n d_Cs_run_15 rfl ?_
      refine s_callS1r (M1 := M_Cs_isArity) d_Cs_run_16 km_Cs_84 kS_Cs_isArity (by decide) (by first | rfl | exact vRf_cat _) (by decide) kM_Cs_isArity ki_Cs (by decide) (by decide +kernel) (c_Cs_isArity) ?_
      cases h3 : inB r 0 2 with
      | false =>
        refine s_if_eq (tgt := 26) d_Cs_run_19 (by decide) (fun _ => ?_) (fun c => absurd (rfl) c)
        exact no (by rw [h3, Bool.and_false])
      | true =>
        rw [h1, h2, h3] at k
        refine s_if_eq (tgt := 26) d_Cs_run_19 (by decide) (fun c => absurd c (by decide)) (fun _ => ?_)
        refine s_iconst (v := 1) d_Cs_run_22 (by decide) ?_
        refine s_goto (tgt := 27) d_Cs_run_23 (by decide) ?_
        exact k
theorem c_Cs_run_bad {o n r : Int32} {g : Int32} (hc : nc ≤ 8) (hL : cR X nc nm L) (hz : zK Z nc g) (hb : (inB o 0 (nI nc - 1) && inB n 0 25 && inB r 0 2) = false) : VS G M_Cs_run 42 1010 0 [(0, .ref (ad 5 0)), (1, .int o), (2, .int n), (3, .int r)] [] nc nm ad X Z L 1 6 (cKx eIa X L nc g) := by
  refine s_run_go hc hL ?_
  rw [hb]
  refine s_callS1 (M1 := M_Cs_require) d_Cs_run_27 km_Cs_47 kS_Cs_require (by decide) (by first | rfl | exact vRf_cat _) (by decide) kM_Cs_require ki_Cs (by decide) (by decide +kernel) (c_Cs_require_f) rfl (fun v X9 Z9 L9 z => nomatch z.1) (fun E X9 Z9 L9 z => by obtain ⟨z1, rfl, rfl, rfl⟩ := z; exact ⟨z1, rfl, rfl, hz⟩)
theorem zK_zU {g : Int32} {s : rS} (h : zK Z nc g) : zK (zU Z s) nc g := ⟨fun c hc => by rw [← h.1 c hc]; rfl, h.2.1, h.2.2⟩
theorem c_Cs_run_ok {c : Nat} {n r : Int32} {g : Int32} {s : rS} (hw : wW X nc nm) (hL : cR X nc nm L) (hz : zK Z nc g) (hc : c < nc) (hb : (inB (nI c) 0 (nI nc - 1) && inB n 0 25 && inB r 0 2) = true) (h : perF X nm 16 c n r (0, 0) = .inr s) : VS G M_Cs_run 42 1010 0 [(0, .ref (ad 5 0)), (1, .int (nI c)), (2, .int n), (3, .int r)] [] nc nm ad X Z L 1 6 (cK (some (.int s.2)) X L nc g) := by
  refine s_run_go hw.1.1 hL ?_
  rw [hb]
  refine s_callS1u (M1 := M_Cs_require) d_Cs_run_27 km_Cs_47 kS_Cs_require (by decide) (by first | rfl | exact vRf_cat _) (by decide) kM_Cs_require ki_Cs (by decide) (by decide +kernel) (c_Cs_require_t) ?_
  refine s_aload_n d_Cs_run_30 rfl (by first | rfl | exact vIsR_rf _) ?_
  refine s_get 5 0 d_Cs_run_31 rfl rfl rfl i_Cs 1 (by decide) kf_Cs_19 (Or.inl rfl) rfl ?_
  refine s_aload_n d_Cs_run_34 rfl (by first | rfl | exact vIsR_rf _) ?_
  refine s_get 5 0 d_Cs_run_35 rfl rfl rfl i_Cs 0 (by decide) kf_Cs_10 (Or.inl rfl) rfl ?_
  refine s_get 5 1 d_Cs_run_38 rfl rfl rfl i_Pr 0 (by decide) kf_Cs_51 (Or.inl rfl) rfl ?_
  refine s_iload_n d_Cs_run_41 rfl ?_
  refine s_clsGet d_Cs_run_42 km_Cs_68 hL (c) rfl (hc) ?_
  refine s_at 45 rfl ?_
  refine s_cast 0 (c) d_Cs_run_45 (decide_eq_true (hc)) rfl rfl kc_Cs_72 kx_Pc_Pc ?_
  refine s_iload_n d_Cs_run_48 rfl ?_
  refine s_iload_n d_Cs_run_49 rfl ?_
  refine s_callV3r (M1 := M_Ru_outcomeOf) 5 2 d_Cs_run_50 rfl rfl rfl km_Cs_122 kI_Ru_outcomeOf ks_Ru_Ru_outcomeOf (by decide) (by first | rfl | exact vRf_cat _) (by first | rfl | exact vRf_cat _) (by first | rfl | exact vRf_cat _) (by decide) kM_Ru_outcomeOf ki_Ru (by decide) (by decide +kernel) (c_Ru_outcomeOf_ok hw hL hc h) ?_
  exact s_iret d_Cs_run_53 rfl rfl ⟨rfl, rfl, rfl, zK_zU hz⟩
theorem c_Cs_run_er {c : Nat} {n r e : Int32} {g : Int32} (hw : wW X nc nm) (hL : cR X nc nm L) (hz : zK Z nc g) (hc : c < nc) (hb : (inB (nI c) 0 (nI nc - 1) && inB n 0 25 && inB r 0 2) = true) (h : perF X nm 16 c n r (0, 0) = .inl e) : VS G M_Cs_run 42 1010 0 [(0, .ref (ad 5 0)), (1, .int (nI c)), (2, .int n), (3, .int r)] [] nc nm ad X Z L 1 6 (cKx (eOf e) X L nc g) := by
  refine s_run_go hw.1.1 hL ?_
  rw [hb]
  refine s_callS1u (M1 := M_Cs_require) d_Cs_run_27 km_Cs_47 kS_Cs_require (by decide) (by first | rfl | exact vRf_cat _) (by decide) kM_Cs_require ki_Cs (by decide) (by decide +kernel) (c_Cs_require_t) ?_
  refine s_aload_n d_Cs_run_30 rfl (by first | rfl | exact vIsR_rf _) ?_
  refine s_get 5 0 d_Cs_run_31 rfl rfl rfl i_Cs 1 (by decide) kf_Cs_19 (Or.inl rfl) rfl ?_
  refine s_aload_n d_Cs_run_34 rfl (by first | rfl | exact vIsR_rf _) ?_
  refine s_get 5 0 d_Cs_run_35 rfl rfl rfl i_Cs 0 (by decide) kf_Cs_10 (Or.inl rfl) rfl ?_
  refine s_get 5 1 d_Cs_run_38 rfl rfl rfl i_Pr 0 (by decide) kf_Cs_51 (Or.inl rfl) rfl ?_
  refine s_iload_n d_Cs_run_41 rfl ?_
  refine s_clsGet d_Cs_run_42 km_Cs_68 hL (c) rfl (hc) ?_
  refine s_at 45 rfl ?_
  refine s_cast 0 (c) d_Cs_run_45 (decide_eq_true (hc)) rfl rfl kc_Cs_72 kx_Pc_Pc ?_
  refine s_iload_n d_Cs_run_48 rfl ?_
  refine s_iload_n d_Cs_run_49 rfl ?_
  refine s_callV3 (M1 := M_Ru_outcomeOf) 5 2 d_Cs_run_50 rfl rfl rfl km_Cs_122 kI_Ru_outcomeOf ks_Ru_Ru_outcomeOf (by decide) (by first | rfl | exact vRf_cat _) (by first | rfl | exact vRf_cat _) (by first | rfl | exact vRf_cat _) (by decide) kM_Ru_outcomeOf ki_Ru (by decide) (by decide +kernel) (c_Ru_outcomeOf_er hw hL hc h) rfl (fun v X9 Z9 L9 z => nomatch z.1) (fun E X9 Z9 L9 z => by obtain ⟨z1, rfl, rfl, s', rfl⟩ := z; exact ⟨z1, rfl, rfl, zK_zU hz⟩)
end VC6
