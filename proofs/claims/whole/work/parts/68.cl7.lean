/-! The class: shrink. -/
section VC7
variable {G : vG} {M : vM} {fr lo pc mc ms : Nat} {lv : List (Nat × Value)} {st : List Value} {nc nm : Nat} {ad : Nat → Nat → Nat} {X Z : Nat → Nat → Int32} {L : Nat → Nat → List Nat} {Q : sQ0}
def lU (L : Nat → Nat → List Nat) (k i : Nat) (xs : List Nat) : Nat → Nat → List Nat := fun k' i' => if k' = k ∧ i' = i then xs else L k' i'
theorem lU_at {k i : Nat} {xs : List Nat} : lU L k i xs k i = xs := by simp [lU]
theorem lU_k {k i k' i' : Nat} {xs : List Nat} (h : k' ≠ k) : lU L k i xs k' i' = L k' i' := by simp [lU, h]
theorem lU_i {k i k' i' : Nat} {xs : List Nat} (h : i' ≠ i) : lU L k i xs k' i' = L k' i' := by simp [lU, h]
theorem lU_lU {k i : Nat} {xs ys : List Nat} : lU (lU L k i xs) k i ys = lU L k i ys := by
  funext k' i'
  simp only [lU]
  by_cases h : k' = k ∧ i' = i
  · rw [if_pos h, if_pos h]
  · rw [if_neg h, if_neg h, if_neg h]
theorem lU_id {k i : Nat} : lU L k i (L k i) = L := by
  funext k' i'
  simp only [lU]
  by_cases h : k' = k ∧ i' = i
  · rw [if_pos h, h.1, h.2]
  · rw [if_neg h]
/-- a list's role: which cell it is and which entry of L -/
def lRole (G : vG) (nc nm : Nat) (ad : Nat → Nat → Nat) (X Z : Nat → Nat → Int32) (q i k i' ci : Nat) (f : Nat → Nat) : Prop := cV X nc nm q i = true ∧ (∀ L, cE G ad X Z L q i = .inr (ci, (L k i').map f)) ∧ ∀ L xs p j, cV X nc nm p j = true → (p ≠ q ∨ j ≠ i) → cE G ad X Z (lU L k i' xs) p j = cE G ad X Z L p j
theorem lRole_m : lRole G nc nm ad X Z 5 6 1 0 4 (ad 1) := by
  refine ⟨rfl, fun _ => rfl, fun L xs p j hp hd => ?_⟩
  rcases p with _ | _ | _ | _ | _ | _ | p
  · rfl
  · rfl
  · rfl
  · simp [cE, lU]
  · rfl
  · rcases j with _ | _ | _ | _ | _ | _ | _ | j
    · rfl
    · rfl
    · rfl
    · rfl
    · rfl
    · simp [cE, cE5, lU]
    · exact absurd hd (by decide)
    · rfl
  · cases hp
theorem lRole_c : lRole G nc nm ad X Z 5 5 0 0 3 (ad 0) := by
  refine ⟨rfl, fun _ => rfl, fun L xs p j hp hd => ?_⟩
  rcases p with _ | _ | _ | _ | _ | _ | p
  · rfl
  · rfl
  · rfl
  · simp [cE, lU]
  · rfl
  · rcases j with _ | _ | _ | _ | _ | _ | _ | j
    · rfl
    · rfl
    · rfl
    · rfl
    · rfl
    · exact absurd hd (by decide)
    · simp [cE, cE5, lU]
    · rfl
  · cases hp
theorem lRole_o {c : Nat} (hc : c < nc) : lRole G nc nm ad X Z 3 c 2 c 4 (ad 1) := by
  refine ⟨decide_eq_true hc, fun _ => rfl, fun L xs p j hp hd => ?_⟩
  rcases p with _ | _ | _ | _ | _ | _ | p
  · rfl
  · rfl
  · rfl
  · have hne : j ≠ c := fun z => hd.elim (fun y => y rfl) (fun y => y z)
    simp [cE, lU, hne]
  · rfl
  · rcases j with _ | _ | _ | _ | _ | _ | _ | j
    · rfl
    · rfl
    · rfl
    · rfl
    · rfl
    · simp [cE, cE5, lU]
    · simp [cE, cE5, lU]
    · rfl
  · cases hp
theorem map_eraseIdx {f : Nat → Nat} : ∀ (xs : List Nat) (n : Nat), (xs.map f).eraseIdx n = (xs.eraseIdx n).map f
  | [], n => by simp
  | x :: xs, 0 => rfl
  | x :: xs, n + 1 => by simp only [List.map_cons, List.eraseIdx_cons_succ]; rw [map_eraseIdx xs n]
theorem s_rem {idx k i' ci : Nat} {f : Nat → Nat} {x : Int32} {qc : vw_C} (q i : Nat) (d : decode M.2.1 pc = .ok (.invokevirtual idx, 3)) (hw : Cond.methodLink M.1.cls idx M_Al_remove.1 ∈ vT) (hr : lRole G nc nm ad X Z q i k i' ci f) (n : Nat) (hx : x = nI n) (hn : n < (L k i').length) (hc : vCl[ci]? = some qc) (hca : Cond.castable qc.1 "java/lang/Object" ∈ vT) (kk : VS G M fr lo (pc + 3) lv (.ref (f ((L k i').getD n 0)) :: st) nc nm ad X Z (lU L k i' ((L k i').eraseIdx n)) mc ms Q) (b3 : 2 + 1 ≤ fr := by first | exact Nat.le_of_ble_eq_true rfl | omega) (b4 : 8 + (M_Al_remove.2.2.1 + 11) + 110 ≤ lo := by first | exact Nat.le_of_ble_eq_true rfl | omega) (b5 : (st.map fun v => v.category).sum ≤ 8 := by first | exact Nat.le_of_ble_eq_true rfl | simp [Value.category, vRf_cat]) : VS G M fr lo pc lv (.int x :: .ref (ad q i) :: st) nc nm ad X Z L mc ms Q := by
  intro h hP
  subst hx
  obtain ⟨⟨fs, e1⟩, e2⟩ := hP.l hr.1 (hr.2.1 L)
  obtain ⟨F, h1, h2, h3⟩ := hP
  have h4 := h2 q i hr.1
  rw [hr.2.1 L] at h4
  have hn' : n < ((L k i').map f).length := by rw [List.length_map]; exact hn
  refine v_callV1 (M1 := M_Al_remove) d e1 e2 rfl hw kI_Al_remove ks_Al_Al_remove (by decide) rfl (by decide) kM_Al_remove ki_Al (by decide) (by decide +kernel) (a_remove h1 h4 hn' hc hca) (fun v h' z => ?_) (fun E h' z => ?_) (Nat.zero_le _) (Nat.zero_le _) b3 b4 b5
  · obtain ⟨F', z1, z2, rfl⟩ := z
    cases z2
    have hm : ((L k i').map f).getD n 0 = f ((L k i').getD n 0) := map_getD hn
    show V G M fr lo (pc + 3) lv (.ref (((L k i').map f).getD n 0) :: st) h' mc ms _
    rw [hm]
    refine kk h' ⟨_, z1, fun p j hp => ?_, h3⟩
    by_cases hd : p = q ∧ j = i
    · obtain ⟨rfl, rfl⟩ := hd
      rw [va_up_self, hr.2.1, lU_at, map_eraseIdx]
    · rw [va_up_ne _ _ (fun w => hd (h3 p j q i hp hr.1 w)), h2 p j hp, hr.2.2 L _ p j hp (by omega)]
  · obtain ⟨F', z1, z2, -⟩ := z
    cases z2
theorem take_snoc {xs : List Nat} {m : Nat} (h : m < xs.length) (ys : List Nat) : xs.take (m + 1) ++ ys = xs.take m ++ xs.getD m 0 :: ys := by
  have e : xs.getD m 0 = xs[m] := by simp [List.getD, h]
  rw [e, List.take_succ_eq_append_getElem h, List.append_assoc]
  rfl
theorem app_getD {xs ys : List Nat} {m e : Nat} (h : xs.length = m) : (xs ++ e :: ys).getD m 0 = e := by
  subst h; simp [List.getD]
theorem app_erase {xs ys : List Nat} {m e : Nat} (h : xs.length = m) : (xs ++ e :: ys).eraseIdx m = xs ++ ys := by
  subst h
  rw [List.eraseIdx_append_of_length_le (Nat.le_refl _), Nat.sub_self]
  rfl
theorem c_Pr_dropDead {q i k i' : Nat} {t : tT} (hr : lRole G nc nm ad X (zT Z nc nm t) q i k i' 4 (ad 1)) (hel : ∀ x ∈ L k i', x < nm) (hlen : (L k i').length ≤ 24) : VS G M_Pr_dropDead 3 135 0 [(0, .ref (ad q i))] [] nc nm ad X (zT Z nc nm t) L 0 0 (sRet none X (zT Z nc nm t) (lU L k i' ((L k i').filter t.2.1))) := by
  have loop : ∀ m ys, m ≤ (L k i').length → ys = ((L k i').drop m).filter t.2.1 → VS G M_Pr_dropDead 3 135 7 [(0, .ref (ad q i)), (1, .int (nI m - 1))] [] nc nm ad X (zT Z nc nm t) (lU L k i' ((L k i').take m ++ ys)) 0 0 (sRet none X (zT Z nc nm t) (lU L k i' ((L k i').filter t.2.1))) := by
    intro m
    induction m with
    | zero =>
      intro ys _ hy
      refine s_iload_n d_Pr_dropDead_7 rfl ?_
      refine s_if_lt (tgt := 37) d_Pr_dropDead_8 (by decide) (fun _ => ?_) (fun c => absurd (by decide) c)
      rw [List.take_zero, List.nil_append, hy, List.drop_zero]
      exact s_vret d_Pr_dropDead_37 rfl ⟨rfl, rfl, rfl, rfl⟩
    | succ m ih =>
      intro ys hm hy
      have hml : m < (L k i').length := by omega
      have hme : (L k i').getD m 0 < nm := hel _ (getD_mem hml)
      have htl : ((L k i').take m).length = m := by rw [List.length_take]; omega
      have hll : m < ((L k i').take m ++ (L k i').getD m 0 :: ys).length := by rw [List.length_append, htl, List.length_cons]; omega
      rw [take_snoc hml, nI_pred]
      refine s_iload_n d_Pr_dropDead_7 rfl ?_
      refine s_if_lt (tgt := 37) d_Pr_dropDead_8 (by decide) (fun c => absurd c (nI_pos (by omega))) (fun _ => ?_)
      refine s_aload_n d_Pr_dropDead_11 rfl (by first | rfl | exact vIsR_rf _) ?_
      refine s_iload_n d_Pr_dropDead_12 rfl ?_
      refine s_lget q i d_Pr_dropDead_13 km_Pr_23 hr.1 (hr.2.1 _) m rfl (by rw [List.length_map, lU_at]; exact hll) (ad 1 ((L k i').getD m 0)) (by rw [lU_at, map_getD hll, app_getD htl]) ?_
      refine s_cast 1 (((L k i').getD m 0)) d_Pr_dropDead_16 (decide_eq_true (hme)) rfl rfl kc_Pr_27 kx_Pm_Pm ?_
      refine s_get 1 (((L k i').getD m 0)) d_Pr_dropDead_19 (decide_eq_true (hme)) rfl rfl i_Pm 7 (by decide) kf_Pr_29 (Or.inl rfl) rfl ?_
      rw [zT_2 hme]
      cases hl : t.2.1 ((L k i').getD m 0) with
      | true =>
        refine s_if_ne (tgt := 31) d_Pr_dropDead_22 (by decide) (fun _ => ?_) (fun c => absurd c (by decide))
        refine s_iincw (w := (-1)) d_Pr_dropDead_31 rfl (by decide) (by decide) rfl ?_
        refine s_goto (tgt := 7) d_Pr_dropDead_34 (by decide) ?_
        rw [show nI m + (-1) = nI m - 1 from (Int32.sub_eq_add_neg _ _).symm]
        exact ih ((L k i').getD m 0 :: ys) (by omega) (by rw [drop_getD hml, List.filter_cons, if_pos hl, hy])
      | false =>
        refine s_if_ne (tgt := 31) d_Pr_dropDead_22 (by decide) (fun c => absurd (rfl) c) (fun _ => ?_)
        refine s_aload_n d_Pr_dropDead_25 rfl (by first | rfl | exact vIsR_rf _) ?_
        refine s_iload_n d_Pr_dropDead_26 rfl ?_
        refine s_rem (q) (i) d_Pr_dropDead_27 km_Pr_47 hr (m) rfl (by rw [lU_at]; exact hll) rfl kx_Pm_Ob ?_
        rw [lU_at, lU_lU, app_erase htl]
        refine s_pop d_Pr_dropDead_30 (by first | rfl | exact vRf_cat _) ?_
        refine s_iincw (w := (-1)) d_Pr_dropDead_31 rfl (by decide) (by decide) rfl ?_
        refine s_goto (tgt := 7) d_Pr_dropDead_34 (by decide) ?_
        rw [show nI m + (-1) = nI m - 1 from (Int32.sub_eq_add_neg _ _).symm]
        exact ih ys (by omega) (by rw [drop_getD hml, List.filter_cons, if_neg (by rw [hl]; decide), hy])
  refine s_aload_n d_Pr_dropDead_0 rfl (by first | rfl | exact vIsR_rf _) ?_
  refine s_size q i d_Pr_dropDead_1 km_Pr_19 hr.1 (hr.2.1 L) ?_
  rw [List.length_map]
  refine s_iconst (v := 1) d_Pr_dropDead_4 (by decide) ?_
  refine s_isub d_Pr_dropDead_5 ?_
  refine s_istore_n d_Pr_dropDead_6 (by decide) rfl ?_
  have := loop (L k i').length [] (Nat.le_refl _) (by rw [List.drop_length]; rfl)
  rw [List.take_length, List.append_nil, lU_id] at this
  exact this
theorem aboveS_self {d : Nat} : aboveS X d 9 d = true := by simp [aboveS]
/-- the list of the classes while the c-th is looked at -/
def clS (sb : Nat → Bool) (nc c : Nat) : List Nat := List.range c ++ (List.range' c (nc - c)).filter sb
theorem clS_0 {sb : Nat → Bool} : clS sb nc 0 = (List.range nc).filter sb := by rw [clS, List.range_zero, List.nil_append, Nat.sub_zero, List.range_eq_range']
theorem clS_n {sb : Nat → Bool} : clS sb nc nc = List.range nc := by rw [clS, Nat.sub_self]; simp
theorem clS_s {sb : Nat → Bool} {c : Nat} : clS sb nc (c + 1) = List.range c ++ c :: (List.range' (c + 1) (nc - (c + 1))).filter sb := by
  rw [clS, List.range_succ, List.append_assoc]; rfl
theorem clS_t {sb : Nat → Bool} {c : Nat} (hc : c < nc) (h : sb c = true) : clS sb nc (c + 1) = clS sb nc c := by
  rw [clS_s, clS, show nc - c = (nc - (c + 1)) + 1 by omega, List.range'_succ, List.filter_cons, if_pos h]
theorem clS_f {sb : Nat → Bool} {c : Nat} (hc : c < nc) (h : sb c = false) : (clS sb nc (c + 1)).eraseIdx c = clS sb nc c := by
  rw [clS_s, app_erase (List.length_range), clS, show nc - c = (nc - (c + 1)) + 1 by omega, List.range'_succ, List.filter_cons, if_neg (by rw [h]; decide)]
theorem clS_mem {sb : Nat → Bool} {c x : Nat} (hc : c ≤ nc) : x ∈ clS sb nc c ↔ x < nc ∧ (x < c ∨ sb x = true) := by
  rw [clS, List.mem_append, List.mem_range, List.mem_filter, List.mem_range'_1]
  constructor
  · rintro (h | ⟨⟨h1, h2⟩, h3⟩)
    · exact ⟨by omega, Or.inl h⟩
    · exact ⟨by omega, Or.inr h3⟩
  · rintro ⟨h1, h2⟩
    by_cases hx : x < c
    · exact Or.inl hx
    · exact Or.inr ⟨⟨by omega, by omega⟩, h2.resolve_left hx⟩
theorem c_Pr_isMadeOrAboveMade {a : Nat} {t : tT} (hw : wP X nc) (ha : a < nc) (hel : ∀ x ∈ L 0 0, x < nc) (hall : ∀ d, d < nc → t.1 d = true → d ∈ L 0 0) (hlen : (L 0 0).length ≤ 8) : VS G M_Pr_isMadeOrAboveMade 3 64 0 [(0, .ref (ad 5 1)), (1, .ref (ad 0 a))] [] nc nm ad X (zT Z nc nm t) L 0 0 (sRet (some (.int (bI (stB X t.1 nc a)))) X (zT Z nc nm t) L) := by
  have loop : ∀ r j, j + r = (L 0 0).length → (∀ i, i < j → (t.1 ((L 0 0).getD i 0) && aboveS X a 9 ((L 0 0).getD i 0)) = false) → VS G M_Pr_isMadeOrAboveMade 3 64 2 [(0, .ref (ad 5 1)), (1, .ref (ad 0 a)), (2, .int (nI j))] [] nc nm ad X (zT Z nc nm t) L 0 0 (sRet (some (.int (bI (stB X t.1 nc a)))) X (zT Z nc nm t) L) := by
    intro r
    induction r with
    | zero =>
      intro j hj hno
      have e : stB X t.1 nc a = false := by
        cases hs : stB X t.1 nc a with
        | false => rfl
        | true =>
          obtain ⟨d, h1, h2⟩ := anyB_iff.mp hs
          rw [Bool.and_eq_true] at h2
          obtain ⟨i, hi, e1⟩ := List.mem_iff_getElem.mp (hall d h1 h2.1)
          have := hno i (by omega)
          have e2 : (L 0 0).getD i 0 = d := by simp [List.getD, hi, e1]
          rw [e2, h2.1, h2.2] at this
          cases this
      refine s_iload_n d_Pr_isMadeOrAboveMade_2 rfl ?_
      refine s_aload_n d_Pr_isMadeOrAboveMade_3 rfl (by first | rfl | exact vIsR_rf _) ?_
      refine s_get 5 1 d_Pr_isMadeOrAboveMade_4 rfl rfl rfl i_Pr 0 (by decide) kf_Pr_10 (Or.inl rfl) rfl ?_
      refine s_size 5 5 d_Pr_isMadeOrAboveMade_7 km_Pr_19 rfl rfl ?_
      rw [List.length_map]
      refine s_icmp_ge (tgt := 48) d_Pr_isMadeOrAboveMade_10 (by decide) (fun _ => ?_) (fun c => absurd (nI_le (by omega) (by omega)) c)
      rw [e]
      refine s_iconst (v := 0) d_Pr_isMadeOrAboveMade_48 (by decide) ?_
      exact s_iret d_Pr_isMadeOrAboveMade_49 rfl rfl ⟨rfl, rfl, rfl, rfl⟩
    | succ r ih =>
      intro j hj hno
      have hjl : j < (L 0 0).length := by omega
      have hd : (L 0 0).getD j 0 < nc := hel _ (getD_mem hjl)
      have nx : (t.1 ((L 0 0).getD j 0) && aboveS X a 9 ((L 0 0).getD j 0)) = false → VS G M_Pr_isMadeOrAboveMade 3 64 42 [(0, .ref (ad 5 1)), (1, .ref (ad 0 a)), (2, .int (nI j)), (3, .ref (ad 0 ((L 0 0).getD j 0)))] [] nc nm ad X (zT Z nc nm t) L 0 0 (sRet (some (.int (bI (stB X t.1 nc a)))) X (zT Z nc nm t) L) := by
        intro h
        refine s_iincw (w := 1) d_Pr_isMadeOrAboveMade_42 rfl (by decide) (by decide) rfl ?_
        refine s_goto (tgt := 2) d_Pr_isMadeOrAboveMade_45 (by decide) ?_
        rw [nI_1]
        refine s_keep 3 rfl (ih (j + 1) (by omega) (fun i hi => ?_))
        by_cases e : i = j
        · subst e; exact h
        · exact hno i (by omega)
      refine s_iload_n d_Pr_isMadeOrAboveMade_2 rfl ?_
      refine s_aload_n d_Pr_isMadeOrAboveMade_3 rfl (by first | rfl | exact vIsR_rf _) ?_
      refine s_get 5 1 d_Pr_isMadeOrAboveMade_4 rfl rfl rfl i_Pr 0 (by decide) kf_Pr_10 (Or.inl rfl) rfl ?_
      refine s_size 5 5 d_Pr_isMadeOrAboveMade_7 km_Pr_19 rfl rfl ?_
      rw [List.length_map]
      refine s_icmp_ge (tgt := 48) d_Pr_isMadeOrAboveMade_10 (by decide) (fun c => absurd c (nI_ge (by omega) (by omega))) (fun _ => ?_)
      refine s_aload_n d_Pr_isMadeOrAboveMade_13 rfl (by first | rfl | exact vIsR_rf _) ?_
      refine s_get 5 1 d_Pr_isMadeOrAboveMade_14 rfl rfl rfl i_Pr 0 (by decide) kf_Pr_10 (Or.inl rfl) rfl ?_
      refine s_iload_n d_Pr_isMadeOrAboveMade_17 rfl ?_
      refine s_lget 5 5 d_Pr_isMadeOrAboveMade_18 km_Pr_23 rfl rfl (j) rfl (by rw [List.length_map]; exact hjl) _ (map_getD hjl) ?_
      refine s_cast 0 (((L 0 0).getD j 0)) d_Pr_isMadeOrAboveMade_21 (decide_eq_true (hd)) rfl rfl kc_Pr_33 kx_Pc_Pc ?_
      refine s_astore_n d_Pr_isMadeOrAboveMade_24 (by first | rfl | exact vIsR_rf _) (by decide) rfl ?_
      refine s_aload_n d_Pr_isMadeOrAboveMade_25 rfl (by first | rfl | exact vIsR_rf _) ?_
      refine s_get 0 (((L 0 0).getD j 0)) d_Pr_isMadeOrAboveMade_26 (decide_eq_true (hd)) rfl rfl i_Pc 4 (by decide) kf_Pr_35 (Or.inl rfl) rfl ?_
      rw [zT_1 hd]
      cases h1 : t.1 ((L 0 0).getD j 0) with
      | false =>
        refine s_if_eq (tgt := 42) d_Pr_isMadeOrAboveMade_29 (by decide) (fun _ => ?_) (fun c => absurd (rfl) c)
        exact nx (by rw [h1]; rfl)
      | true =>
        refine s_if_eq (tgt := 42) d_Pr_isMadeOrAboveMade_29 (by decide) (fun c => absurd c (by decide)) (fun _ => ?_)
        refine s_aload_n d_Pr_isMadeOrAboveMade_32 rfl (by first | rfl | exact vIsR_rf _) ?_
        refine s_aload_n d_Pr_isMadeOrAboveMade_33 rfl (by first | rfl | exact vIsR_rf _) ?_
        refine s_callV1r (M1 := M_Pc_isOrIsBelow) 0 (((L 0 0).getD j 0)) d_Pr_isMadeOrAboveMade_34 (decide_eq_true (hd)) rfl rfl km_Pr_54 kI_Pc_isOrIsBelow ks_Pc_Pc_isOrIsBelow (by decide) (by first | rfl | exact vRf_cat _) (by decide) kM_Pc_isOrIsBelow ki_Pc (by decide) (by decide +kernel) (c_Pc_isOrIsBelow hw hd ha) ?_
        cases h2 : aboveS X a 9 ((L 0 0).getD j 0) with
        | false =>
          refine s_if_eq (tgt := 42) d_Pr_isMadeOrAboveMade_37 (by decide) (fun _ => ?_) (fun c => absurd (rfl) c)
          exact nx (by rw [h1, h2]; rfl)
        | true =>
          refine s_if_eq (tgt := 42) d_Pr_isMadeOrAboveMade_37 (by decide) (fun c => absurd c (by decide)) (fun _ => ?_)
          refine s_iconst (v := 1) d_Pr_isMadeOrAboveMade_40 (by decide) ?_
          rw [show stB X t.1 nc a = true from anyB_t hd (by rw [h1, h2]; rfl)]
          exact s_iret d_Pr_isMadeOrAboveMade_41 rfl rfl ⟨rfl, rfl, rfl, rfl⟩
  refine s_iconst (v := 0) d_Pr_isMadeOrAboveMade_0 (by decide) ?_
  refine s_istore_n d_Pr_isMadeOrAboveMade_1 (by decide) rfl ?_
  exact loop (L 0 0).length 0 (by omega) (fun i hi => absurd hi (Nat.not_lt_zero i))
/-- what stands in the lists behind the dropping -/
def dpL (X : Nat → Nat → Int32) (nc nm : Nat) (t : tT) (c : Nat) (L : Nat → Nat → List Nat) : Prop := L 0 0 = clS (stB X t.1 nc) nc c ∧ L 1 0 = (List.range nm).filter t.2.1 ∧ (∀ d, d < c → L 2 d = ownL X nm d) ∧ ∀ d, c ≤ d → d < nc → L 2 d = (ownL X nm d).filter t.2.1
def sel (sb : Nat → Bool) (n j : Nat) : Nat := ((List.range n).filter sb).getD j 0
theorem filt_len {sb : Nat → Bool} : ∀ n, ((List.range n).filter sb).length = cntB sb n
  | 0 => rfl
  | n + 1 => by
    rw [List.range_succ, List.filter_append, List.length_append, filt_len n]
    show _ = cntB sb n + _
    congr 1
    rw [List.filter_cons]
    cases sb n <;> rfl
theorem getD_left {xs ys : List Nat} {i : Nat} (h : i < xs.length) : (xs ++ ys).getD i 0 = xs.getD i 0 := by
  simp [List.getD, List.getElem?_append_left h]
theorem sel_cnt {sb : Nat → Bool} : ∀ {n k : Nat}, k < n → sb k = true → sel sb n (cntB sb k) = k
  | n + 1, k, hk, h => by
    unfold sel
    rw [List.range_succ, List.filter_append]
    by_cases hkn : k = n
    · subst hkn
      rw [List.filter_cons, if_pos h, app_getD (filt_len k)]
    · have hl := cntB_step (show k < n by omega) h
      have := sel_cnt (show k < n by omega) h
      unfold sel at this
      rw [getD_left (by rw [filt_len]; exact hl)]
      exact this
theorem sel_onto {sb : Nat → Bool} {n j : Nat} (hj : j < cntB sb n) : sel sb n j < n ∧ sb (sel sb n j) = true ∧ cntB sb (sel sb n j) = j := by
  obtain ⟨i, h1, h2, h3⟩ := cntB_onto hj
  rw [← h3, sel_cnt h1 h2]
  exact ⟨h1, h2, rfl⟩
theorem cntB_inj {sb : Nat → Bool} {a b : Nat} (ha : sb a = true) (hb : sb b = true) (h : cntB sb a = cntB sb b) : a = b := by
  rcases Nat.lt_trichotomy a b with q | q | q
  · have := cntB_step q ha; omega
  · exact q
  · have := cntB_step q hb; omega
/-- what dropUnreached leaves -/
def dpQ (X : Nat → Nat → Int32) (nc nm : Nat) (t : tT) (Z : Nat → Nat → Int32) : sQ0 := fun r X' Z' L' => r = .inl none ∧ X' = X ∧ dpL X nc nm t 0 L' ∧ (∀ k, k < nc → stB X t.1 nc k = true → Z' 0 k = nI (cntB (stB X t.1 nc) k)) ∧ ∀ q i, q ≠ 0 → Z' q i = zT Z nc nm t q i
theorem c_Pr_dropUnreached {t : tT} (hw : wW X nc nm) (hL : cR X nc nm L) : VS G M_Pr_dropUnreached 4 180 0 [(0, .ref (ad 5 1))] [] nc nm ad X (zT Z nc nm t) L 0 0 (dpQ X nc nm t Z) := by
  have h8 := hw.1.1
  have h24 := hw.2.1
  have ownlen : ∀ c, (ownL X nm c).length ≤ 24 := fun c => by
    have := List.length_filter_le (fun m => decide (oN X m = c)) (List.range nm)
    rw [List.length_range] at this
    unfold ownL; omega
  -- the numbers
  have l3 : ∀ r j (L : Nat → Nat → List Nat) (Z1 : Nat → Nat → Int32), j + r = cntB (stB X t.1 nc) nc → dpL X nc nm t 0 L → (∀ k, k < nc → stB X t.1 nc k = true → cntB (stB X t.1 nc) k < j → Z1 0 k = nI (cntB (stB X t.1 nc) k)) → (∀ q i, q ≠ 0 → Z1 q i = zT Z nc nm t q i) → VS G M_Pr_dropUnreached 4 180 65 [(0, .ref (ad 5 1)), (1, .int (nI j))] [] nc nm ad X Z1 L 0 0 (dpQ X nc nm t Z) := by
    intro r
    induction r with
    | zero =>
      intro j L Z1 hj hD hz hq
      refine s_iload_n d_Pr_dropUnreached_65 rfl ?_
      refine s_aload_n d_Pr_dropUnreached_66 rfl (by first | rfl | exact vIsR_rf _) ?_
      refine s_get 5 1 d_Pr_dropUnreached_67 rfl rfl rfl i_Pr 0 (by decide) kf_Pr_10 (Or.inl rfl) rfl ?_
      refine s_size 5 5 d_Pr_dropUnreached_70 km_Pr_19 rfl rfl ?_
      rw [List.length_map, hD.1, clS_0, filt_len]
      have := cntB_le (stB X t.1 nc) nc
      refine s_icmp_ge (tgt := 97) d_Pr_dropUnreached_73 (by decide) (fun _ => ?_) (fun c => absurd (nI_le (by omega) (by omega)) c)
      exact s_vret d_Pr_dropUnreached_97 rfl ⟨rfl, rfl, hD, fun k hk hs => hz k hk hs (by have := cntB_step hk hs; omega), hq⟩
    | succ r ih =>
      intro j L Z1 hj hD hz hq
      have hle := cntB_le (stB X t.1 nc) nc
      have hl0 : L 0 0 = (List.range nc).filter (stB X t.1 nc) := by rw [hD.1, clS_0]
      have hjl : j < (L 0 0).length := by rw [hl0, filt_len]; omega
      obtain ⟨s1, s2, s3⟩ := sel_onto (sb := stB X t.1 nc) (n := nc) (j := j) (by omega)
      have hse : (L 0 0).getD j 0 = sel (stB X t.1 nc) nc j := by rw [hl0]; rfl
      refine s_iload_n d_Pr_dropUnreached_65 rfl ?_
      refine s_aload_n d_Pr_dropUnreached_66 rfl (by first | rfl | exact vIsR_rf _) ?_
      refine s_get 5 1 d_Pr_dropUnreached_67 rfl rfl rfl i_Pr 0 (by decide) kf_Pr_10 (Or.inl rfl) rfl ?_
      refine s_size 5 5 d_Pr_dropUnreached_70 km_Pr_19 rfl rfl ?_
      rw [List.length_map]
      refine s_icmp_ge (tgt := 97) d_Pr_dropUnreached_73 (by decide) (fun c => absurd c (nI_ge (by omega) (by rw [hl0, filt_len]; omega))) (fun _ => ?_)
      refine s_aload_n d_Pr_dropUnreached_76 rfl (by first | rfl | exact vIsR_rf _) ?_
      refine s_get 5 1 d_Pr_dropUnreached_77 rfl rfl rfl i_Pr 0 (by decide) kf_Pr_10 (Or.inl rfl) rfl ?_
      refine s_iload_n d_Pr_dropUnreached_80 rfl ?_
      refine s_lget 5 5 d_Pr_dropUnreached_81 km_Pr_23 rfl rfl (j) rfl (by rw [List.length_map]; exact hjl) _ (map_getD hjl) ?_
      rw [hse]
      refine s_cast 0 (sel (stB X t.1 nc) nc j) d_Pr_dropUnreached_84 (decide_eq_true (s1)) rfl rfl kc_Pr_33 kx_Pc_Pc ?_
      refine s_iload_n d_Pr_dropUnreached_87 rfl ?_
      refine s_put 0 (sel (stB X t.1 nc) nc j) d_Pr_dropUnreached_88 (decide_eq_true (s1)) rfl rfl i_Pc tt_Pc_ok n_Pc 3 (by decide) kf_Pr_50 (Or.inl rfl) (Or.inl rfl) rfl rfl rfl cU_num ?_
      refine s_iincw (w := 1) d_Pr_dropUnreached_91 rfl (by decide) (by decide) rfl ?_
      refine s_goto (tgt := 65) d_Pr_dropUnreached_94 (by decide) ?_
      rw [nI_1]
      refine ih (j + 1) L _ (by omega) hD (fun k hk hs hc => ?_) (fun q i h => by rw [mW_k h]; exact hq q i h)
      by_cases e : k = sel (stB X t.1 nc) nc j
      · subst e; rw [mW_at, s3]
      · rw [mW_i e]
        refine hz k hk hs ?_
        rcases Nat.lt_or_ge (cntB (stB X t.1 nc) k) j with z | z
        · exact z
        · exact absurd (cntB_inj hs s2 (by omega)) e
  -- the classes, from the last to the first
  have l2 : ∀ c (L : Nat → Nat → List Nat), c ≤ nc → dpL X nc nm t c L → VS G M_Pr_dropUnreached 4 180 17 [(0, .ref (ad 5 1)), (1, .int (nI c - 1))] [] nc nm ad X (zT Z nc nm t) L 0 0 (dpQ X nc nm t Z) := by
    intro c
    induction c with
    | zero =>
      intro L _ hD
      refine s_iload_n d_Pr_dropUnreached_17 rfl ?_
      refine s_if_lt (tgt := 63) d_Pr_dropUnreached_18 (by decide) (fun _ => ?_) (fun c => absurd (by decide) c)
      refine s_iconst (v := 0) d_Pr_dropUnreached_63 (by decide) ?_
      refine s_istore_n d_Pr_dropUnreached_64 (by decide) rfl ?_
      exact l3 (cntB (stB X t.1 nc) nc) 0 L _ (by omega) hD (fun k _ _ h => absurd h (Nat.not_lt_zero _)) (fun _ _ _ => rfl)
    | succ c ih =>
      intro L hcn hD
      have hc : c < nc := by omega
      have hll : c < (L 0 0).length := by rw [hD.1, clS_s, List.length_append, List.length_range, List.length_cons]; omega
      have hge : (L 0 0).getD c 0 = c := by rw [hD.1, clS_s, app_getD List.length_range]
      have hoc : L 2 c = ownL X nm c := hD.2.2.1 c (by omega)
      rw [nI_pred]
      refine s_iload_n d_Pr_dropUnreached_17 rfl ?_
      refine s_if_lt (tgt := 63) d_Pr_dropUnreached_18 (by decide) (fun c => absurd c (nI_pos (by omega))) (fun _ => ?_)
      refine s_aload_n d_Pr_dropUnreached_21 rfl (by first | rfl | exact vIsR_rf _) ?_
      refine s_get 5 1 d_Pr_dropUnreached_22 rfl rfl rfl i_Pr 0 (by decide) kf_Pr_10 (Or.inl rfl) rfl ?_
      refine s_iload_n d_Pr_dropUnreached_25 rfl ?_
      refine s_lget 5 5 d_Pr_dropUnreached_26 km_Pr_23 rfl rfl (c) rfl (by rw [List.length_map]; exact hll) _ (map_getD hll) ?_
      rw [hge]
      refine s_cast 0 (c) d_Pr_dropUnreached_29 (decide_eq_true (hc)) rfl rfl kc_Pr_33 kx_Pc_Pc ?_
      refine s_astore_n d_Pr_dropUnreached_32 (by first | rfl | exact vIsR_rf _) (by decide) rfl ?_
      refine s_aload_n d_Pr_dropUnreached_33 rfl (by first | rfl | exact vIsR_rf _) ?_
      refine s_get 0 (c) d_Pr_dropUnreached_34 (decide_eq_true (hc)) rfl rfl i_Pc 2 (by decide) kf_Pr_42 (Or.inl rfl) rfl ?_
      refine s_callS1u (M1 := M_Pr_dropDead) d_Pr_dropUnreached_37 km_Pr_38 kS_Pr_dropDead (by decide) (by first | rfl | exact vRf_cat _) (by decide) kM_Pr_dropDead ki_Pr (by decide) (by decide +kernel) (c_Pr_dropDead (lRole_o hc) (by rw [hoc]; exact fun x hx => ownL_lt hx) (by rw [hoc]; exact ownlen c)) ?_
      -- the lists behind this
      have hD1 : ∀ L1 : Nat → Nat → List Nat, (∀ d, L1 2 d = lU L 2 c ((L 2 c).filter t.2.1) 2 d) → L1 1 0 = L 1 0 → L1 0 0 = clS (stB X t.1 nc) nc c → dpL X nc nm t c L1 := by
        intro L1 g2 g1 g0
        refine ⟨g0, by rw [g1]; exact hD.2.1, fun d hd => ?_, fun d h1 h2 => ?_⟩
        · rw [g2, lU_i (by omega)]; exact hD.2.2.1 d (by omega)
        · rw [g2]
          by_cases e : d = c
          · subst e; rw [lU_at, hoc]
          · rw [lU_i e]; exact hD.2.2.2 d (by omega) h2
      have e0 : lU L 2 c ((L 2 c).filter t.2.1) 0 0 = clS (stB X t.1 nc) nc (c + 1) := by rw [lU_k (by decide)]; exact hD.1
      have hlen8 : (lU L 2 c ((L 2 c).filter t.2.1) 0 0).length ≤ 8 := by
        rw [e0, clS_s, List.length_append, List.length_range, List.length_cons]
        have := List.length_filter_le (stB X t.1 nc) (List.range' (c + 1) (nc - (c + 1)))
        rw [List.length_range'] at this
        omega
      refine s_aload_n d_Pr_dropUnreached_40 rfl (by first | rfl | exact vIsR_rf _) ?_
      refine s_aload_n d_Pr_dropUnreached_41 rfl (by first | rfl | exact vIsR_rf _) ?_
      refine s_callV1r (M1 := M_Pr_isMadeOrAboveMade) 5 1 d_Pr_dropUnreached_42 rfl rfl rfl km_Pr_43 kI_Pr_isMadeOrAboveMade ks_Pr_Pr_isMadeOrAboveMade (by decide) (by first | rfl | exact vRf_cat _) (by decide) kM_Pr_isMadeOrAboveMade ki_Pr (by decide) (by decide +kernel) (c_Pr_isMadeOrAboveMade hw.1 hc (by rw [e0]; exact fun x hx => ((clS_mem (by omega)).mp hx).1) (fun d h1 h2 => by rw [e0]; exact (clS_mem (by omega)).mpr ⟨h1, Or.inr (anyB_t h1 (by rw [h2, aboveS_self]; rfl))⟩) hlen8) ?_
      cases hs : stB X t.1 nc c with
      | true =>
        refine s_if_ne (tgt := 57) d_Pr_dropUnreached_45 (by decide) (fun _ => ?_) (fun c => absurd c (by decide))
        refine s_iincw (w := (-1)) d_Pr_dropUnreached_57 rfl (by decide) (by decide) rfl ?_
        refine s_goto (tgt := 17) d_Pr_dropUnreached_60 (by decide) ?_
        rw [show nI c + (-1) = nI c - 1 from (Int32.sub_eq_add_neg _ _).symm]
        exact s_keep 2 rfl (ih _ (by omega) (hD1 _ (fun _ => rfl) (lU_k (by decide)) (by rw [e0]; exact clS_t hc hs)))
      | false =>
        refine s_if_ne (tgt := 57) d_Pr_dropUnreached_45 (by decide) (fun c => absurd (rfl) c) (fun _ => ?_)
        refine s_aload_n d_Pr_dropUnreached_48 rfl (by first | rfl | exact vIsR_rf _) ?_
        refine s_get 5 1 d_Pr_dropUnreached_49 rfl rfl rfl i_Pr 0 (by decide) kf_Pr_10 (Or.inl rfl) rfl ?_
        refine s_iload_n d_Pr_dropUnreached_52 rfl ?_
        refine s_rem (5) (5) d_Pr_dropUnreached_53 km_Pr_47 lRole_c (c) rfl (by rw [lU_k (by decide)]; exact hll) rfl kx_Pc_Ob ?_
        refine s_pop d_Pr_dropUnreached_56 (by first | rfl | exact vRf_cat _) ?_
        refine s_iincw (w := (-1)) d_Pr_dropUnreached_57 rfl (by decide) (by decide) rfl ?_
        refine s_goto (tgt := 17) d_Pr_dropUnreached_60 (by decide) ?_
        rw [show nI c + (-1) = nI c - 1 from (Int32.sub_eq_add_neg _ _).symm]
        exact s_keep 2 rfl (ih _ (by omega) (hD1 _ (fun _ => lU_k (by decide)) (by rw [lU_k (by decide), lU_k (by decide)]) (by rw [lU_at, e0]; exact clS_f hc hs)))
  refine s_aload_n d_Pr_dropUnreached_0 rfl (by first | rfl | exact vIsR_rf _) ?_
  refine s_get 5 1 d_Pr_dropUnreached_1 rfl rfl rfl i_Pr 1 (by decide) kf_Pr_16 (Or.inl rfl) rfl ?_
  refine s_callS1u (M1 := M_Pr_dropDead) d_Pr_dropUnreached_4 km_Pr_38 kS_Pr_dropDead (by decide) (by first | rfl | exact vRf_cat _) (by decide) kM_Pr_dropDead ki_Pr (by decide) (by decide +kernel) (c_Pr_dropDead lRole_m (by rw [hL.2.1]; exact fun x hx => List.mem_range.mp hx) (by rw [hL.2.1, List.length_range]; exact h24)) ?_
  refine s_aload_n d_Pr_dropUnreached_7 rfl (by first | rfl | exact vIsR_rf _) ?_
  refine s_get 5 1 d_Pr_dropUnreached_8 rfl rfl rfl i_Pr 0 (by decide) kf_Pr_10 (Or.inl rfl) rfl ?_
  refine s_size 5 5 d_Pr_dropUnreached_11 km_Pr_19 rfl rfl ?_
  rw [List.length_map, lU_k (by decide), hL.1, List.length_range]
  refine s_iconst (v := 1) d_Pr_dropUnreached_14 (by decide) ?_
  refine s_isub d_Pr_dropUnreached_15 ?_
  refine s_istore_n d_Pr_dropUnreached_16 (by decide) rfl ?_
  refine l2 nc _ (Nat.le_refl _) ⟨by rw [lU_k (by decide), hL.1, clS_n], by rw [lU_at, hL.2.1], fun d hd => by rw [lU_k (by decide)]; exact hL.2.2 d hd, fun d h1 h2 => by omega⟩
theorem c_Cs_shrink {g : Int32} (hw : wW X nc nm) (hL : cR X nc nm L) (hz : zK Z nc g) : VS G M_Cs_shrink 9 240 0 [(0, .ref (ad 5 0))] [] nc nm ad X Z L 0 0 (fun r X' Z' L' => r = .inl (some (.int (nI (nm - cntB (liveF X nc nm).2.1 nm)))) ∧ X' = X ∧ dpL X nc nm (liveF X nc nm) 0 L' ∧ (∀ k, k < nc → shSt X nc nm k = true → Z' 0 k = nI (cntB (shSt X nc nm) k)) ∧ (∃ b, Z' 3 1 = bI b) ∧ Z' 3 0 = g + nI (nm - cntB (liveF X nc nm).2.1 nm)) := by
  obtain ⟨b, hb⟩ := hz.2.1
  have hle := cntB_le (liveF X nc nm).2.1 nm
  refine s_aload_n d_Cs_shrink_0 rfl (by first | rfl | exact vIsR_rf _) ?_
  refine s_get 5 0 d_Cs_shrink_1 rfl rfl rfl i_Cs 0 (by decide) kf_Cs_10 (Or.inl rfl) rfl ?_
  refine s_get 5 1 d_Cs_shrink_4 rfl rfl rfl i_Pr 1 (by decide) kf_Cs_87 (Or.inl rfl) rfl ?_
  refine s_metSize d_Cs_shrink_7 km_Cs_55 hL ?_
  refine s_istore_n d_Cs_shrink_10 (by decide) rfl ?_
  refine s_aload_n d_Cs_shrink_11 rfl (by first | rfl | exact vIsR_rf _) ?_
  refine s_get 5 0 d_Cs_shrink_12 rfl rfl rfl i_Cs 2 (by decide) kf_Cs_28 (Or.inl rfl) rfl ?_
  refine s_callV0u (M1 := M_Re_mark) 5 3 d_Cs_shrink_15 rfl rfl rfl km_Cs_126 kI_Re_mark ks_Re_Re_mark (by decide) (by decide) kM_Re_mark ki_Re (by decide) (by decide +kernel) (c_Re_mark hw hL hb) ?_
  refine s_at 18 rfl ?_
  refine s_aload_n d_Cs_shrink_18 rfl (by first | rfl | exact vIsR_rf _) ?_
  refine s_get 5 0 d_Cs_shrink_19 rfl rfl rfl i_Cs 0 (by decide) kf_Cs_10 (Or.inl rfl) rfl ?_
  refine s_callV0 (M1 := M_Pr_dropUnreached) 5 1 d_Cs_shrink_22 rfl rfl rfl km_Cs_129 kI_Pr_dropUnreached ks_Pr_Pr_dropUnreached (by decide) (by decide) kM_Pr_dropUnreached ki_Pr (by decide) (by decide +kernel) (c_Pr_dropUnreached (t := liveF X nc nm) hw hL) rfl (fun v X9 Z9 L9 z => ?_) (fun E X9 Z9 L9 z => nomatch z.1)
  obtain ⟨z1, rfl, hD, z3, z4⟩ := z
  cases z1
  refine s_iload_n d_Cs_shrink_25 rfl ?_
  refine s_aload_n d_Cs_shrink_26 rfl (by first | rfl | exact vIsR_rf _) ?_
  refine s_get 5 0 d_Cs_shrink_27 rfl rfl rfl i_Cs 0 (by decide) kf_Cs_10 (Or.inl rfl) rfl ?_
  refine s_get 5 1 d_Cs_shrink_30 rfl rfl rfl i_Pr 1 (by decide) kf_Cs_87 (Or.inl rfl) rfl ?_
  refine s_size 5 6 d_Cs_shrink_33 km_Cs_55 rfl rfl ?_
  rw [List.length_map, hD.2.1, filt_len]
  refine s_isub d_Cs_shrink_36 ?_
  rw [pk_sub hle]
  refine s_istore_n d_Cs_shrink_37 (by decide) rfl ?_
  refine s_aload_n d_Cs_shrink_38 rfl (by first | rfl | exact vIsR_rf _) ?_
  refine s_dup d_Cs_shrink_39 (by first | rfl | exact vRf_cat _) ?_
  refine s_get 5 0 d_Cs_shrink_40 rfl rfl rfl i_Cs 4 (by decide) kf_Cs_39 (Or.inl rfl) rfl ?_
  rw [z4 3 0 (by decide), show zT Z nc nm (liveF X9 nc nm) 3 0 = g by rw [← hz.2.2]; simp [zT]]
  refine s_iload_n d_Cs_shrink_43 rfl ?_
  refine s_iadd d_Cs_shrink_44 ?_
  refine s_put 5 0 d_Cs_shrink_45 rfl rfl rfl i_Cs tt_Cs_ok n_Cs 4 (by decide) kf_Cs_39 (Or.inl rfl) (Or.inl rfl) rfl rfl rfl cU_gone ?_
  refine s_iload_n d_Cs_shrink_48 rfl ?_
  exact s_iret d_Cs_shrink_49 rfl rfl ⟨rfl, rfl, hD, fun k hk hs => by rw [mW_k (by decide)]; exact z3 k hk hs, ⟨(liveF X9 nc nm).2.2, by rw [mW_i (by decide), z4 3 1 (by decide), zT_3]⟩, by rw [mW_at]⟩
end VC7
