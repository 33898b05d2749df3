/-! The law: how it starts, and its loop. -/
section VLl
variable {G : vG} {x am o : Nat} {X : Nat → Nat → Int32}
theorem aR_none {f0 : Nat → va_E} : aR G (fun _ => none) ([], f0) := ⟨fun _ => none, fun a e h => (nomatch h), fun a ci xs h => (nomatch h), fun a z b h => (nomatch h), fun a a' z z' b h => (nomatch h)⟩
def csP (i : Nat) : Nat := [12, 11, 8, 7, 6, 10, 9, 5, 4, 3, 2, 1, 0].getD i 0
theorem cs_start {f : Nat → Nat} {h : vH} (hn : aN (fun _ => none) (csX G f)) (hR : aR G (aL (fun _ => none) (csX G f)) h) : kS G (f 0) 0 0 X 0 h := by
  have key : ∀ i, i < 13 → (csX G f)[csP i]? = some (f i, cE5 G (fun _ i => f i) (fun _ _ => 0) (fun _ _ => []) i) := by
    intro i hi
    rcases (show i = 0 ∨ i = 1 ∨ i = 2 ∨ i = 3 ∨ i = 4 ∨ i = 5 ∨ i = 6 ∨ i = 7 ∨ i = 8 ∨ i = 9 ∨ i = 10 ∨ i = 11 ∨ i = 12 by omega) with rfl | rfl | rfl | rfl | rfl | rfl | rfl | rfl | rfl | rfl | rfl | rfl | rfl <;> rfl
  have key2 : ∀ i, i < 13 → ((csX G f).map Prod.fst)[csP i]? = some (f i) := fun i hi => by rw [List.getElem?_map, key i hi]; rfl
  have inj : ∀ i, i < 13 → ∀ j, j < 13 → csP i = csP j → i = j := by decide
  have lt : ∀ i, i < 13 → csP i < 13 := by decide
  have hv : ∀ k i, cV X 0 0 k i = true → k = 5 ∧ i < 13 := by
    intro k i hv
    rcases k with _ | _ | _ | _ | _ | _ | k
    · simp [cV] at hv
    · simp [cV] at hv
    · simp [cV] at hv
    · simp [cV] at hv
    · simp [cV] at hv
    · rw [cV_5, decide_eq_true_eq] at hv; exact ⟨rfl, hv⟩
    · cases hv
  refine ⟨fun _ i => f i, fun _ _ => 0, fun _ _ => [], ⟨_, hR, fun k i hk => ?_, fun k i k' i' hk hk' e => ?_⟩, ⟨rfl, rfl, fun c hc => absurd hc (Nat.not_lt_zero c)⟩, ⟨fun c hc => absurd hc (Nat.not_lt_zero c), ⟨false, rfl⟩, rfl⟩, rfl⟩
  · obtain ⟨rfl, hi⟩ := hv k i hk
    simp only [cE]
    exact aL_at hn.1 (key i hi)
  · obtain ⟨rfl, hi⟩ := hv k i hk
    obtain ⟨rfl, hi'⟩ := hv k' i' hk'
    have e2 : f i = f i' := e
    refine ⟨rfl, inj i hi i' hi' ?_⟩
    refine (List.getElem?_inj (by rw [List.length_map]; exact lt i hi) hn.1).mp ?_
    rw [key2 i hi, key2 i' hi', e2]
def moPs (k : Nat) : Nat := if k < 16 then 26 - k else 30 - k
theorem mo_start {f : Nat → Nat} {h : vH} (hn : aN (fun _ => none) (moX G am f)) (hR : aR G (aL (fun _ => none) (moX G am f)) h) : oS G am (fun _ _ => 0) (fun _ => 0) h := by
  have dj : ∀ k, mArr k = true → k = 0 ∨ k = 1 ∨ k = 2 ∨ k = 3 ∨ k = 4 ∨ k = 5 ∨ k = 6 ∨ k = 7 ∨ k = 8 ∨ k = 9 ∨ k = 10 ∨ k = 11 ∨ k = 12 ∨ k = 13 ∨ k = 14 ∨ k = 15 ∨ k = 20 ∨ k = 21 ∨ k = 22 ∨ k = 23 ∨ k = 24 ∨ k = 25 ∨ k = 26 ∨ k = 27 ∨ k = 28 ∨ k = 29 ∨ k = 30 := by
    intro k hk
    simp only [mArr, Bool.and_eq_true, decide_eq_true_eq, Bool.not_eq_true', Bool.and_eq_false_iff, decide_eq_false_iff_not] at hk
    omega
  have key : ∀ k, mArr k = true → (moX G am f)[moPs k]? = some (f k, .inl (.inl (G.2.1 (mCls k), mLen k, .inl (fun _ => 0)))) := by
    intro k hk
    rcases dj k hk with rfl | rfl | rfl | rfl | rfl | rfl | rfl | rfl | rfl | rfl | rfl | rfl | rfl | rfl | rfl | rfl | rfl | rfl | rfl | rfl | rfl | rfl | rfl | rfl | rfl | rfl | rfl <;> rfl
  have key2 : ∀ k, mArr k = true → ((moX G am f).map Prod.fst)[moPs k]? = some (f k) := fun k hk => by rw [List.getElem?_map, key k hk]; rfl
  have h0 : aL (fun _ => none) (moX G am f) am = some (.inl (.inr (8, mFl f (fun _ => 0)))) := aL_at (n := 27) hn.1 rfl
  refine ⟨f, hR.m h0, hR.o h0, fun k hk => ⟨hR.m (aL_at hn.1 (key k hk)), hR.o (aL_at hn.1 (key k hk))⟩, fun j k hj hk e => ?_⟩
  have l1 : moPs j < 28 := by rcases dj j hj with rfl | rfl | rfl | rfl | rfl | rfl | rfl | rfl | rfl | rfl | rfl | rfl | rfl | rfl | rfl | rfl | rfl | rfl | rfl | rfl | rfl | rfl | rfl | rfl | rfl | rfl | rfl <;> decide
  have e3 : moPs j = moPs k := by
    refine (List.getElem?_inj (by rw [List.length_map]; exact l1) hn.1).mp ?_
    rw [key2 j hj, key2 k hk, e]
  simp only [mArr, Bool.and_eq_true, decide_eq_true_eq, Bool.not_eq_true', Bool.and_eq_false_iff, decide_eq_false_iff_not] at hj hk
  unfold moPs at e3
  split at e3 <;> split at e3 <;> omega
theorem nI_sub6 {N : Nat} (h : N ≤ 3072) : (nI N - 6).toInt = (N : Int) - 6 := by
  rw [Int32.toInt_sub, nI_toInt (by omega), show (6 : Int32).toInt = 6 from rfl, Int.bmod_def]
  omega
theorem lw_loop : ∀ r i s, i + 6 * r + s = G.2.2.2.2.2.1 → s < 6 → G.2.2.2.2.2.1 ≤ 3072 → VW G M_Lw_law 45 1100 23 (lwL G x am o i) [] (lwJ G x am o) (r * 4) (r * 140) (fun z _ => z = .inl (some (.int 1))) := by
  intro r
  induction r with
  | zero =>
    intro i s hN hs h3
    refine w_iload d_Lw_law_23 rfl ?_
    refine w_aload_n d_Lw_law_25 rfl (by first | rfl | exact vIsR_rf _) ?_
    refine w_slen d_Lw_law_26 ?_
    refine w_bipush (v := 6) d_Lw_law_27 (by decide) ?_
    refine w_isub d_Lw_law_29 ?_
    have hc : Int32.ofNat G.2.2.2.2.2.1 - 6 < nI i := by
      rw [Int32.lt_iff_toInt_lt, show Int32.ofNat G.2.2.2.2.2.1 = nI G.2.2.2.2.2.1 from rfl, nI_sub6 h3, nI_toInt (by omega)]
      omega
    refine w_icmp_gt (tgt := 769) d_Lw_law_30 (by decide) (fun _ => ?_) (fun c => absurd (hc) c)
    refine w_iconst (v := 1) d_Lw_law_769 (by decide) ?_
    refine w_iret d_Lw_law_770 rfl rfl ?_
    exact fun h _ => rfl
  | succ r ih =>
    intro i s hN hs h3
    have hc : ¬ Int32.ofNat G.2.2.2.2.2.1 - 6 < nI i := by
      rw [Int32.lt_iff_toInt_lt, show Int32.ofNat G.2.2.2.2.2.1 = nI G.2.2.2.2.2.1 from rfl, nI_sub6 h3, nI_toInt (by omega)]
      omega
    have hi : ∀ d, d < 6 → vp_in (nI (i + d)) G.2.2.2.2.2.1 := fun d hd => vp_in_nI (by omega) (by omega)
    have hsc : scI G i := ⟨by rw [show nI i + 1 = nI (i + 1) from nI_add i 1]; exact hi 1 (by omega), by rw [show nI i + 2 = nI (i + 2) from nI_add i 2]; exact hi 2 (by omega), by rw [show nI i + 3 = nI (i + 3) from nI_add i 3]; exact hi 3 (by omega), by rw [show nI i + 4 = nI (i + 4) from nI_add i 4]; exact hi 4 (by omega), by rw [show nI i + 5 = nI (i + 5) from nI_add i 5]; exact hi 5 (by omega)⟩
    have nx : VW G M_Lw_law 45 1100 763 (lwL G x am o i) [] (lwJ G x am o) ((r + 1) * 4 - 4) ((r + 1) * 140 - 140) (fun z _ => z = .inl (some (.int 1))) := by
      rw [show (r + 1) * 4 - 4 = r * 4 by omega, show (r + 1) * 140 - 140 = r * 140 by omega]
      refine w_iincw (w := 6) d_Lw_law_763 rfl (by decide) (by decide) rfl ?_
      refine w_goto (tgt := 23) d_Lw_law_766 (by decide) ?_
      rw [show nI i + 6 = nI (i + 6) from nI_add i 6]
      exact ih (i + 6) s (by omega) hs h3
    refine w_iload d_Lw_law_23 rfl ?_
    refine w_aload_n d_Lw_law_25 rfl (by first | rfl | exact vIsR_rf _) ?_
    refine w_slen d_Lw_law_26 ?_
    refine w_bipush (v := 6) d_Lw_law_27 (by decide) ?_
    refine w_isub d_Lw_law_29 ?_
    refine w_icmp_gt (tgt := 769) d_Lw_law_30 (by decide) (fun c => absurd c (hc)) (fun _ => ?_)
    refine w_aload_n d_Lw_law_33 rfl (by first | rfl | exact vIsR_rf _) ?_
    refine w_iload d_Lw_law_34 rfl ?_
    refine w_sld d_Lw_law_36 (hi 0 (by omega)) ?_
    refine w_bipush (v := 15) d_Lw_law_37 (by decide) ?_
    refine w_iand d_Lw_law_39 ?_
    obtain ⟨j, hj, e⟩ := pk_andE (G.2.2.2.2.2.2 (nI i).toNatClampNeg) (m := 15) 4 rfl
    rw [e]
    have b1 : 4 ≤ (r + 1) * 4 := by omega
    have b2 : 140 ≤ (r + 1) * 140 := by omega
    rcases (show j = 0 ∨ j = 1 ∨ j = 2 ∨ j = 3 ∨ j = 4 ∨ j = 5 ∨ j = 6 ∨ j = 7 ∨ j = 8 ∨ j = 9 ∨ j = 10 ∨ j = 11 ∨ j = 12 ∨ j = 13 ∨ j = 14 ∨ j = 15 by omega) with rfl | rfl | rfl | rfl | rfl | rfl | rfl | rfl | rfl | rfl | rfl | rfl | rfl | rfl | rfl | rfl
    · refine w_tableIn (tgt := 100) (off := 60) d_Lw_law_40 (by decide) (by decide) (by decide) (by decide) (fun h hW => ?_)
      obtain ⟨nc, nm, X, Y, g, w, hj, hl⟩ := hW
      exact lw_add hsc b1 b2 hj nx h hl
    · refine w_tableIn (tgt := 156) (off := 116) d_Lw_law_40 (by decide) (by decide) (by decide) (by decide) (fun h hW => ?_)
      obtain ⟨nc, nm, X, Y, g, w, hj, hl⟩ := hW
      exact lw_method hsc b1 b2 hj nx h hl
    · refine w_tableIn (tgt := 236) (off := 196) d_Lw_law_40 (by decide) (by decide) (by decide) (by decide) (fun h hW => ?_)
      obtain ⟨nc, nm, X, Y, g, w, hj, hl⟩ := hW
      exact lw_item hsc b1 b2 hj nx h hl
    · refine w_tableIn (tgt := 340) (off := 300) d_Lw_law_40 (by decide) (by decide) (by decide) (by decide) (fun h hW => ?_)
      obtain ⟨nc, nm, X, Y, g, w, hj, hl⟩ := hW
      exact lw_keep_go rfl hsc b1 b2 hj nx h hl
    · refine w_tableIn (tgt := 404) (off := 364) d_Lw_law_40 (by decide) (by decide) (by decide) (by decide) (fun h hW => ?_)
      obtain ⟨nc, nm, X, Y, g, w, hj, hl⟩ := hW
      exact lw_run hsc b1 b2 hj nx h hl
    · refine w_tableIn (tgt := 484) (off := 444) d_Lw_law_40 (by decide) (by decide) (by decide) (by decide) (fun h hW => ?_)
      obtain ⟨nc, nm, X, Y, g, w, hj, hl⟩ := hW
      exact lw_shrink hsc b1 b2 hj nx h hl
    · refine w_tableIn (tgt := 497) (off := 457) d_Lw_law_40 (by decide) (by decide) (by decide) (by decide) (fun h hW => ?_)
      obtain ⟨nc, nm, X, Y, g, w, hj, hl⟩ := hW
      exact lw_rename hsc b1 b2 hj nx h hl
    · refine w_tableIn (tgt := 510) (off := 470) d_Lw_law_40 (by decide) (by decide) (by decide) (by decide) (fun h hW => ?_)
      obtain ⟨nc, nm, X, Y, g, w, hj, hl⟩ := hW
      exact lw_told hsc b1 b2 hj nx h hl
    · refine w_tableIn (tgt := 578) (off := 538) d_Lw_law_40 (by decide) (by decide) (by decide) (by decide) (fun h hW => ?_)
      obtain ⟨nc, nm, X, Y, g, w, hj, hl⟩ := hW
      exact lw_inside hsc b1 b2 hj nx h hl
    · refine w_tableIn (tgt := 658) (off := 618) d_Lw_law_40 (by decide) (by decide) (by decide) (by decide) (fun h hW => ?_)
      obtain ⟨nc, nm, X, Y, g, w, hj, hl⟩ := hW
      exact lw_trace hsc b1 b2 hj nx h hl
    · refine w_tableIn (tgt := 738) (off := 698) d_Lw_law_40 (by decide) (by decide) (by decide) (by decide) (fun h hW => ?_)
      obtain ⟨nc, nm, X, Y, g, w, hj, hl⟩ := hW
      exact lw_count hsc b1 b2 hj nx h hl
    · exact w_tableOut (tgt := 763) d_Lw_law_40 (by decide) (by decide) (VW.wide (Nat.le_refl _) (Nat.le_refl _) (by omega) (by omega) nx)
    · exact w_tableOut (tgt := 763) d_Lw_law_40 (by decide) (by decide) (VW.wide (Nat.le_refl _) (Nat.le_refl _) (by omega) (by omega) nx)
    · exact w_tableOut (tgt := 763) d_Lw_law_40 (by decide) (by decide) (VW.wide (Nat.le_refl _) (Nat.le_refl _) (by omega) (by omega) nx)
    · exact w_tableOut (tgt := 763) d_Lw_law_40 (by decide) (by decide) (VW.wide (Nat.le_refl _) (Nat.le_refl _) (by omega) (by omega) nx)
    · exact w_tableOut (tgt := 763) d_Lw_law_40 (by decide) (by decide) (VW.wide (Nat.le_refl _) (Nat.le_refl _) (by omega) (by omega) nx)
theorem c_Lw_law {f0 : Nat → va_E} (h3 : G.2.2.2.2.2.1 ≤ 3072) : V G M_Lw_law 45 1100 0 [(0, .ref G.2.2.2.2.1)] [] ([], f0) 3000 100000 (fun z _ => z = .inl (some (.int 1))) := by
  refine v_new (ci := 7) (fs := [.null, .null, .null, .null, .int 0]) d_Lw_law_0 rfl i_Cs tt_Cs_ok kc_Lw_8 kn_Cs ki_Cs (fun j hj => by rcases (show j = 0 ∨ j = 1 ∨ j = 2 ∨ j = 3 ∨ j = 4 by omega) with rfl | rfl | rfl | rfl | rfl <;> rfl) (fun x hx => ?_)
  refine v_dup d_Lw_law_3 rfl ?_
  have n1 : aN (fun _ => none) [(x, oE 7 [.null, .null, .null, .null, .int 0])] := ⟨by simp, fun _ _ => rfl⟩
  have r1 : aR G (aL (fun _ => none) [(x, oE 7 [.null, .null, .null, .null, .int 0])]) ([] ++ [x], va_up f0 x (.inr (7, [.null, .null, .null, .null, .int 0]))) := aR_none.new hx _
  refine v_callIF (M1 := M_Cs_init) (As := []) (st := [.ref x]) (fr1 := 5) (lo1 := 140) (mc1 := 12) (ms1 := 148) (h1x := ([] ++ [x], va_up f0 x (.inr (7, [.null, .null, .null, .null, .int 0])))) d_Lw_law_4 rfl rfl rfl (Or.inl km_Lw_44) kI_Cs_init ⟨by decide, (by intro v hv; simp only [List.mem_cons, List.not_mem_nil, or_false] at hv; rcases hv with rfl <;> rfl), Nat.le_of_ble_eq_true rfl, kM_Cs_init, ki_Cs, by decide, by decide, Nat.le_of_ble_eq_true rfl, by decide, by decide⟩ (show _ = some 0 from by decide +kernel) rfl (fun a ha => ⟨ha, rfl⟩) (by simp) (c_Cs_init (B := fun _ => none) (xs := []) n1 _ r1) (fun v hc h1 hq hg => ?_) (fun E hc h1 hq hg => ?_) (by decide) (by decide)
  · obtain ⟨B', xs', hn, hR, z1, rfl, f, rfl, rfl⟩ := hq
    cases z1
    rw [List.append_nil] at hn hR
    have hk : kS G (f 0) 0 0 (fun _ _ => 0) 0 hc := cs_start hn hR
    obtain ⟨g1, g2, g3, g4⟩ := hg
    have hm1 : ∀ a, a ∈ h1.1 ↔ a ∈ hc.1 := fun a => by
      rw [g2 a]
      exact ⟨fun z => z.elim id (fun z => absurd z.1 z.2), Or.inl⟩
    refine v_astore_n d_Lw_law_7 (by first | rfl | exact vIsR_rf _) (by decide) rfl ?_
    refine v_new (ci := 8) (fs := [.null, .null, .null, .null, .null, .null, .null, .null, .null, .null, .null, .null, .null, .null, .null, .null, .int 0, .int 0, .int 0, .int 0, .null, .null, .null, .null, .null, .null, .null, .null, .null, .null, .null]) d_Lw_law_8 rfl i_Mo tt_Mo_ok kc_Lw_45 kn_Mo ki_Mo (fun j hj => by rcases (show j = 0 ∨ j = 1 ∨ j = 2 ∨ j = 3 ∨ j = 4 ∨ j = 5 ∨ j = 6 ∨ j = 7 ∨ j = 8 ∨ j = 9 ∨ j = 10 ∨ j = 11 ∨ j = 12 ∨ j = 13 ∨ j = 14 ∨ j = 15 ∨ j = 16 ∨ j = 17 ∨ j = 18 ∨ j = 19 ∨ j = 20 ∨ j = 21 ∨ j = 22 ∨ j = 23 ∨ j = 24 ∨ j = 25 ∨ j = 26 ∨ j = 27 ∨ j = 28 ∨ j = 29 ∨ j = 30 by omega) with rfl | rfl | rfl | rfl | rfl | rfl | rfl | rfl | rfl | rfl | rfl | rfl | rfl | rfl | rfl | rfl | rfl | rfl | rfl | rfl | rfl | rfl | rfl | rfl | rfl | rfl | rfl | rfl | rfl | rfl | rfl <;> rfl) (fun q hq => ?_)
    refine v_dup d_Lw_law_11 rfl ?_
    have n2 : aN (fun _ => none) [(q, oE 8 [.null, .null, .null, .null, .null, .null, .null, .null, .null, .null, .null, .null, .null, .null, .null, .null, .int 0, .int 0, .int 0, .int 0, .null, .null, .null, .null, .null, .null, .null, .null, .null, .null, .null])] := ⟨by simp, fun _ _ => rfl⟩
    have r2 : aR G (aL (fun _ => none) [(q, oE 8 [.null, .null, .null, .null, .null, .null, .null, .null, .null, .null, .null, .null, .null, .null, .null, .null, .int 0, .int 0, .int 0, .int 0, .null, .null, .null, .null, .null, .null, .null, .null, .null, .null, .null])]) ([] ++ [q], va_up f0 q (.inr (8, [.null, .null, .null, .null, .null, .null, .null, .null, .null, .null, .null, .null, .null, .null, .null, .null, .int 0, .int 0, .int 0, .int 0, .null, .null, .null, .null, .null, .null, .null, .null, .null, .null, .null]))) := aR_none.new (fun z => nomatch z) _
    refine v_callIF (M1 := M_Mo_init) (As := []) (st := [.ref q]) (fr1 := 4) (lo1 := 100) (mc1 := 27) (ms1 := 1643) (h1x := ([] ++ [q], va_up f0 q (.inr (8, [.null, .null, .null, .null, .null, .null, .null, .null, .null, .null, .null, .null, .null, .null, .null, .null, .int 0, .int 0, .int 0, .int 0, .null, .null, .null, .null, .null, .null, .null, .null, .null, .null, .null])))) d_Lw_law_12 rfl rfl rfl (Or.inl km_Lw_47) kI_Mo_init ⟨by decide, (by intro v hv; simp only [List.mem_cons, List.not_mem_nil, or_false] at hv; rcases hv with rfl <;> rfl), Nat.le_of_ble_eq_true rfl, kM_Mo_init, ki_Mo, by decide, by decide, Nat.le_of_ble_eq_true rfl, by decide, by decide⟩ (show _ = some 0 from by decide +kernel) rfl (fun a ha => ?_) (by simp) (c_Mo_init (B := fun _ => none) (xs := []) n2 _ r2) (fun v hm h2 hq2 hg2 => ?_) (fun E hm h2 hq2 hg2 => ?_) (by decide) (by decide)
    · have e : a = q := by simpa using ha
      subst e
      exact ⟨List.mem_append_right _ (List.mem_singleton.mpr rfl), (va_up_self _ _ _).trans (va_up_self _ _ _).symm⟩
    · obtain ⟨B', xs', hn2, hR2, z1, rfl, f2, rfl⟩ := hq2
      cases z1
      rw [List.append_nil] at hn2 hR2
      have ho : oS G q (fun _ _ => 0) (fun _ => 0) hm := mo_start hn2 hR2
      obtain ⟨k1, k2, k3, k4⟩ := hg2
      have hqc : ∀ a, a ∈ hc.1 → a ≠ q := fun a ha e => hq (by rw [← e]; exact (hm1 a).mpr ha)
      have hin : ∀ a, a ∈ hc.1 → a ∈ h1.1 ++ [q] ∧ a ∉ ([] ++ [q] : List Nat) := fun a ha => ⟨List.mem_append_left _ ((hm1 a).mpr ha), fun z => hqc a ha (by simpa using z)⟩
      refine v_astore_n d_Lw_law_15 (by first | rfl | exact vIsR_rf _) (by decide) rfl ?_
      refine v_iconst (v := 1) d_Lw_law_16 (by decide) ?_
      refine v_newl (n := 1) d_Lw_law_17 rfl (by decide) (fun o ho2 => ?_)
      refine v_astore_n d_Lw_law_19 (by first | rfl | exact vIsR_rf _) (by decide) rfl ?_
      refine v_iconst (v := 0) d_Lw_law_20 (by decide) ?_
      refine v_istore d_Lw_law_21 (by decide) rfl ?_
      have hlw : lwJ G (f 0) q o (h2.1 ++ [o], va_up h2.2 o (.inl (G.2.1 2, 1, .inr (.inl (fun _ => 0))))) := by
        have hcm : ∀ a, a ∈ hc.1 → a ∈ h2.1 ∧ a ∉ hm.1 ∧ h2.2 a = hc.2 a := fun a ha => by
          obtain ⟨i1, i2⟩ := hin a ha
          obtain ⟨j1, j2⟩ := k4 a i1 i2
          refine ⟨(k2 a).mpr (Or.inr ⟨i1, i2⟩), j2, ?_⟩
          rw [j1]
          show va_up h1.2 q _ a = _
          rw [va_up_ne _ _ (hqc a ha), g3 a ha]
        refine ⟨0, 0, fun _ _ => 0, fun _ => 0, 0, fun _ => 0, ⟨⟨⟨⟨by omega, fun c hc => absurd hc (Nat.not_lt_zero c)⟩, by omega, fun m hm => absurd hm (Nat.not_lt_zero m), fun m hm => absurd hm (Nat.not_lt_zero m), fun m hm => absurd hm (Nat.not_lt_zero m), fun m hm => absurd hm (Nat.not_lt_zero m)⟩, fun m hm => absurd hm (Nat.not_lt_zero m), fun m hm => absurd hm (Nat.not_lt_zero m), fun m hm => absurd hm (Nat.not_lt_zero m)⟩, rfl, rfl, rfl⟩, hc, hm, g1, k1, fun a => ?_, fun a ha => ⟨(hcm a ha).2.1, fun e => ho2 (by rw [← e]; exact (hcm a ha).1), ?_⟩, fun a ha => ⟨fun e => ho2 (by rw [← e]; exact (k2 a).mpr (Or.inl ha)), ?_⟩, va_up_self _ _ _, hk, ho⟩
        · show a ∈ h2.1 ++ [o] ↔ _
          rw [List.mem_append, List.mem_singleton, k2 a]
          constructor
          · rintro ((z | ⟨z1, z2⟩) | z)
            · exact Or.inr (Or.inl z)
            · rcases List.mem_append.mp z1 with z1 | z1
              · exact Or.inl ((hm1 a).mp z1)
              · exact absurd (by simpa using z1) (fun e => z2 (by simpa using e))
            · exact Or.inr (Or.inr z)
          · rintro (z | z | z)
            · exact Or.inl (Or.inr (hin a z))
            · exact Or.inl (Or.inl z)
            · exact Or.inr z
        · show va_up h2.2 o _ a = _
          rw [va_up_ne _ _ (fun e => ho2 (by rw [← e]; exact (hcm a ha).1))]
          exact (hcm a ha).2.2
        · show va_up h2.2 o _ a = _
          rw [va_up_ne _ _ (fun e => ho2 (by rw [← e]; exact (k2 a).mpr (Or.inl ha)))]
          exact k3 a ha
      have hd : 0 + 6 * (G.2.2.2.2.2.1 / 6) + G.2.2.2.2.2.1 % 6 = G.2.2.2.2.2.1 := by omega
      exact V.wide (Nat.le_refl _) (Nat.le_refl _) (by omega) (by omega) (lw_loop (G := G) (x := f 0) (am := q) (o := o) (G.2.2.2.2.2.1 / 6) 0 (G.2.2.2.2.2.1 % 6) hd (by omega) h3 _ hlw)
    · obtain ⟨B', xs', hn, hR, z1, -⟩ := hq2
      cases z1
  · obtain ⟨B', xs', hn, hR, z1, -⟩ := hq
    cases z1
end VLl
