/-! The class: find, isOrIsBelow, isRelatedTo, part; the marks. -/
section VC2
variable {G : vG} {M : vM} {fr lo pc mc ms : Nat} {lv : List (Nat × Value)} {st : List Value} {nc nm : Nat} {ad : Nat → Nat → Nat} {X Z : Nat → Nat → Int32} {L : Nat → Nat → List Nat} {Q : sQ0}
theorem s_acmpC {d k : Nat} {off : Int} {tgt : Nat} (dd : decode M.2.1 pc = .ok (.if_acmp .ne off, 3)) (ht : (pc : Int) + off = (tgt : Int)) (hd : d < nc) (hk : k < nc) (kt : ¬ d = k → VS G M fr lo tgt lv st nc nm ad X Z L mc ms Q) (kf : d = k → VS G M fr lo (pc + 3) lv st nc nm ad X Z L mc ms Q) : VS G M fr lo pc lv (.ref (ad 0 k) :: .ref (ad 0 d) :: st) nc nm ad X Z L mc ms Q := by
  intro h hP
  obtain ⟨F, h1, h2, h3⟩ := id hP
  exact v_acmp_ne (rx := some (ad 0 d)) (ry := some (ad 0 k)) dd ht (fun z => kt (fun e => z (by rw [e])) h hP) (fun z => kf (h3 0 d 0 k (decide_eq_true hd) (decide_eq_true hk) (Option.some.inj z)).2 h hP)
theorem pS_cases {c : Nat} (hw : wP X nc) (hc : c < nc) : pS X c = none ∨ ∃ d, d < c ∧ pS X c = some d := by
  rcases wP_cases hw hc with h | ⟨d, h1, h2, h3⟩
  · exact Or.inl h.2
  · exact Or.inr ⟨d, h1, h3⟩
theorem c_Pc_find {c : Nat} {n r : Int32} (hw : wW X nc nm) (hL : cR X nc nm L) (hc : c < nc) : VS G M_Pc_find 4 90 0 [(0, .ref (ad 0 c)), (1, .int n), (2, .int r)] [] nc nm ad X Z L 0 0 (sRet (some (va_rf ((findS X nm n r 9 c).map (ad 1)))) X Z L) := by
  have h8 := hw.1.1
  have loop : ∀ f d, d < nc → d < f → VS G M_Pc_find 4 90 2 [(0, .ref (ad 0 c)), (1, .int n), (2, .int r), (3, .ref (ad 0 d))] [] nc nm ad X Z L 0 0 (sRet (some (va_rf ((findS X nm n r f d).map (ad 1)))) X Z L) := by
    intro f
    induction f with
    | zero => intro d _ h; omega
    | succ f ih =>
      intro d hd hf
      refine s_aload_n d_Pc_find_2 rfl (by first | rfl | exact vIsR_rf _) ?_
      refine s_ifnull (r := some (ad 0 d)) (tgt := 30) d_Pc_find_3 (by decide) (fun z => nomatch z) (fun _ _ => ?_)
      refine s_aload_n d_Pc_find_6 rfl (by first | rfl | exact vIsR_rf _) ?_
      refine s_iload_n d_Pc_find_7 rfl ?_
      refine s_iload_n d_Pc_find_8 rfl ?_
      refine s_callV2r (M1 := M_Pc_own) 0 (d) d_Pc_find_9 (decide_eq_true (hd)) rfl rfl km_Pc_47 kI_Pc_own ks_Pc_Pc_own (by decide) (by first | rfl | exact vRf_cat _) (by first | rfl | exact vRf_cat _) (by decide) kM_Pc_own ki_Pc (by decide) (by decide +kernel) (c_Pc_own (n := n) (r := r) hw hL hd) ?_
      cases ho : ownS X nm (nI d) n r with
      | some m =>
        rw [show findS X nm n r (f + 1) d = some m by simp only [findS, ho]]
        refine s_astore d_Pc_find_12 (by first | rfl | exact vIsR_rf _) (by decide) rfl ?_
        refine s_aload d_Pc_find_14 rfl (by first | rfl | exact vIsR_rf _) ?_
        refine s_ifnull (r := some (ad 1 m)) (tgt := 22) d_Pc_find_16 (by decide) (fun z => nomatch z) (fun _ _ => ?_)
        refine s_aload d_Pc_find_19 rfl (by first | rfl | exact vIsR_rf _) ?_
        exact s_aret d_Pc_find_21 rfl (Or.inl ⟨_, rfl⟩) (by first | rfl | exact vIsR_rf _) ⟨rfl, rfl, rfl, rfl⟩
      | none =>
        refine s_astore d_Pc_find_12 (by first | rfl | exact vIsR_rf _) (by decide) rfl ?_
        refine s_aload d_Pc_find_14 rfl (by first | rfl | exact vIsR_rf _) ?_
        refine s_ifnull (r := none) (tgt := 22) d_Pc_find_16 (by decide) (fun _ => ?_) (fun _ z => nomatch z)
        rcases pS_cases hw.1 hd with h1 | ⟨e, h1, h2⟩
        · rw [show findS X nm n r (f + 1) d = none by simp only [findS, ho, h1]]
          refine s_aload_n d_Pc_find_22 rfl (by first | rfl | exact vIsR_rf _) ?_
          refine s_get 0 (d) d_Pc_find_23 (decide_eq_true (hd)) rfl rfl i_Pc 0 (by decide) kf_Pc_7 (Or.inl rfl) rfl ?_
          rw [h1]
          refine s_astore_n d_Pc_find_26 (by first | rfl | exact vIsR_rf _) (by decide) rfl ?_
          refine s_goto (tgt := 2) d_Pc_find_27 (by decide) ?_
          refine s_aload_n d_Pc_find_2 rfl (by first | rfl | exact vIsR_rf _) ?_
          refine s_ifnull (r := none) (tgt := 30) d_Pc_find_3 (by decide) (fun _ => ?_) (fun _ z => nomatch z)
          refine s_null d_Pc_find_30 ?_
          exact s_aret d_Pc_find_31 rfl (Or.inl ⟨_, rfl⟩) (by first | rfl | exact vIsR_rf _) ⟨rfl, rfl, rfl, rfl⟩
        · rw [show findS X nm n r (f + 1) d = findS X nm n r f e by simp only [findS, ho, h2]]
          refine s_aload_n d_Pc_find_22 rfl (by first | rfl | exact vIsR_rf _) ?_
          refine s_get 0 (d) d_Pc_find_23 (decide_eq_true (hd)) rfl rfl i_Pc 0 (by decide) kf_Pc_7 (Or.inl rfl) rfl ?_
          rw [h2]
          refine s_astore_n d_Pc_find_26 (by first | rfl | exact vIsR_rf _) (by decide) rfl ?_
          refine s_goto (tgt := 2) d_Pc_find_27 (by decide) ?_
          exact s_keep 4 rfl (ih e (by omega) (by omega))
  refine s_aload_n d_Pc_find_0 rfl (by first | rfl | exact vIsR_rf _) ?_
  refine s_astore_n d_Pc_find_1 (by first | rfl | exact vIsR_rf _) (by decide) rfl ?_
  exact loop 9 c hc (by omega)
theorem c_Pc_isOrIsBelow {d k : Nat} (hw : wP X nc) (hd : d < nc) (hk : k < nc) : VS G M_Pc_isOrIsBelow 0 0 0 [(0, .ref (ad 0 d)), (1, .ref (ad 0 k))] [] nc nm ad X Z L 0 0 (sRet (some (.int (bI (aboveS X k 9 d)))) X Z L) := by
  have h8 := hw.1
  have loop : ∀ f e, e < nc → e < f → VS G M_Pc_isOrIsBelow 0 0 2 [(0, .ref (ad 0 d)), (1, .ref (ad 0 k)), (2, .ref (ad 0 e))] [] nc nm ad X Z L 0 0 (sRet (some (.int (bI (aboveS X k f e)))) X Z L) := by
    intro f
    induction f with
    | zero => intro e _ h; omega
    | succ f ih =>
      intro e he hf
      refine s_aload_n d_Pc_isOrIsBelow_2 rfl (by first | rfl | exact vIsR_rf _) ?_
      refine s_ifnull (r := some (ad 0 e)) (tgt := 21) d_Pc_isOrIsBelow_3 (by decide) (fun z => nomatch z) (fun _ _ => ?_)
      refine s_aload_n d_Pc_isOrIsBelow_6 rfl (by first | rfl | exact vIsR_rf _) ?_
      refine s_aload_n d_Pc_isOrIsBelow_7 rfl (by first | rfl | exact vIsR_rf _) ?_
      refine s_acmpC (tgt := 13) d_Pc_isOrIsBelow_8 (by decide) he hk (fun c_8 => ?_) (fun c_8 => ?_)
      · rcases pS_cases hw he with h1 | ⟨g, h1, h2⟩
        · rw [show aboveS X k (f + 1) e = false by simp [aboveS, c_8, h1]]
          refine s_aload_n d_Pc_isOrIsBelow_13 rfl (by first | rfl | exact vIsR_rf _) ?_
          refine s_get 0 (e) d_Pc_isOrIsBelow_14 (decide_eq_true (he)) rfl rfl i_Pc 0 (by decide) kf_Pc_7 (Or.inl rfl) rfl ?_
          rw [h1]
          refine s_astore_n d_Pc_isOrIsBelow_17 (by first | rfl | exact vIsR_rf _) (by decide) rfl ?_
          refine s_goto (tgt := 2) d_Pc_isOrIsBelow_18 (by decide) ?_
          refine s_aload_n d_Pc_isOrIsBelow_2 rfl (by first | rfl | exact vIsR_rf _) ?_
          refine s_ifnull (r := none) (tgt := 21) d_Pc_isOrIsBelow_3 (by decide) (fun _ => ?_) (fun _ z => nomatch z)
          refine s_iconst (v := 0) d_Pc_isOrIsBelow_21 (by decide) ?_
          exact s_iret d_Pc_isOrIsBelow_22 rfl rfl ⟨rfl, rfl, rfl, rfl⟩
        · rw [show aboveS X k (f + 1) e = aboveS X k f g by simp [aboveS, c_8, h2]]
          refine s_aload_n d_Pc_isOrIsBelow_13 rfl (by first | rfl | exact vIsR_rf _) ?_
          refine s_get 0 (e) d_Pc_isOrIsBelow_14 (decide_eq_true (he)) rfl rfl i_Pc 0 (by decide) kf_Pc_7 (Or.inl rfl) rfl ?_
          rw [h2]
          refine s_astore_n d_Pc_isOrIsBelow_17 (by first | rfl | exact vIsR_rf _) (by decide) rfl ?_
          refine s_goto (tgt := 2) d_Pc_isOrIsBelow_18 (by decide) ?_
          exact ih g (by omega) (by omega)
      · rw [show aboveS X k (f + 1) e = true by simp [aboveS, c_8]]
        refine s_iconst (v := 1) d_Pc_isOrIsBelow_11 (by decide) ?_
        exact s_iret d_Pc_isOrIsBelow_12 rfl rfl ⟨rfl, rfl, rfl, rfl⟩
  refine s_aload_n d_Pc_isOrIsBelow_0 rfl (by first | rfl | exact vIsR_rf _) ?_
  refine s_astore_n d_Pc_isOrIsBelow_1 (by first | rfl | exact vIsR_rf _) (by decide) rfl ?_
  exact loop 9 d hd (by omega)
theorem c_Pc_isRelatedTo {d k : Nat} (hw : wP X nc) (hd : d < nc) (hk : k < nc) : VS G M_Pc_isRelatedTo 1 30 0 [(0, .ref (ad 0 d)), (1, .ref (ad 0 k))] [] nc nm ad X Z L 0 0 (sRet (some (.int (bI (rlS X k d)))) X Z L) := by
  refine s_aload_n d_Pc_isRelatedTo_0 rfl (by first | rfl | exact vIsR_rf _) ?_
  refine s_aload_n d_Pc_isRelatedTo_1 rfl (by first | rfl | exact vIsR_rf _) ?_
  refine s_callV1r (M1 := M_Pc_isOrIsBelow) 0 (d) d_Pc_isRelatedTo_2 (decide_eq_true (hd)) rfl rfl km_Pc_51 kI_Pc_isOrIsBelow ks_Pc_Pc_isOrIsBelow (by decide) (by first | rfl | exact vRf_cat _) (by decide) kM_Pc_isOrIsBelow ki_Pc (by decide) (by decide +kernel) (c_Pc_isOrIsBelow hw hd hk) ?_
  unfold rlS
  cases h1 : aboveS X k 9 d with
  | true =>
    refine s_if_ne (tgt := 16) d_Pc_isRelatedTo_5 (by decide) (fun _ => ?_) (fun c => absurd c (by decide))
    refine s_iconst (v := 1) d_Pc_isRelatedTo_16 (by decide) ?_
    refine s_goto (tgt := 21) d_Pc_isRelatedTo_17 (by decide) ?_
    exact s_iret d_Pc_isRelatedTo_21 rfl rfl ⟨rfl, rfl, rfl, rfl⟩
  | false =>
    refine s_if_ne (tgt := 16) d_Pc_isRelatedTo_5 (by decide) (fun c => absurd (rfl) c) (fun _ => ?_)
    refine s_aload_n d_Pc_isRelatedTo_8 rfl (by first | rfl | exact vIsR_rf _) ?_
    refine s_aload_n d_Pc_isRelatedTo_9 rfl (by first | rfl | exact vIsR_rf _) ?_
    refine s_callV1r (M1 := M_Pc_isOrIsBelow) 0 (k) d_Pc_isRelatedTo_10 (decide_eq_true (hk)) rfl rfl km_Pc_51 kI_Pc_isOrIsBelow ks_Pc_Pc_isOrIsBelow (by decide) (by first | rfl | exact vRf_cat _) (by decide) kM_Pc_isOrIsBelow ki_Pc (by decide) (by decide +kernel) (c_Pc_isOrIsBelow hw hk hd) ?_
    cases h2 : aboveS X d 9 k with
    | true =>
      refine s_if_eq (tgt := 20) d_Pc_isRelatedTo_13 (by decide) (fun c => absurd c (by decide)) (fun _ => ?_)
      refine s_iconst (v := 1) d_Pc_isRelatedTo_16 (by decide) ?_
      refine s_goto (tgt := 21) d_Pc_isRelatedTo_17 (by decide) ?_
      exact s_iret d_Pc_isRelatedTo_21 rfl rfl ⟨rfl, rfl, rfl, rfl⟩
    | false =>
      refine s_if_eq (tgt := 20) d_Pc_isRelatedTo_13 (by decide) (fun _ => ?_) (fun c => absurd (rfl) c)
      refine s_iconst (v := 0) d_Pc_isRelatedTo_20 (by decide) ?_
      exact s_iret d_Pc_isRelatedTo_21 rfl rfl ⟨rfl, rfl, rfl, rfl⟩
/-- the marks as they stand in the class -/
def zT (Z : Nat → Nat → Int32) (nc nm : Nat) (t : tT) : Nat → Nat → Int32 := fun k i => if k = 1 ∧ i < nc then bI (t.1 i) else if k = 2 ∧ i < nm then bI (t.2.1 i) else if k = 3 ∧ i = 1 then bI t.2.2 else Z k i
theorem zT_1 {t : tT} {i : Nat} (h : i < nc) : zT Z nc nm t 1 i = bI (t.1 i) := by simp [zT, h]
theorem zT_2 {t : tT} {i : Nat} (h : i < nm) : zT Z nc nm t 2 i = bI (t.2.1 i) := by simp [zT, h]
theorem zT_3 {t : tT} : zT Z nc nm t 3 1 = bI t.2.2 := by simp [zT]
theorem zT_w1 {t : tT} {c : Nat} (h : c < nc) {v : Bool} : mW (zT Z nc nm t) 1 c (bI v) = zT Z nc nm (va_up t.1 c v, t.2.1, t.2.2) := by
  funext k i
  by_cases hk : k = 1
  · subst hk
    by_cases hi : i = c
    · subst hi; rw [mW_at, zT_1 h]; exact congrArg bI (va_up_self _ _ _).symm
    · rw [mW_i hi]; simp only [zT]; rw [va_up_ne _ _ hi]
  · rw [mW_k hk]; simp [zT, hk]
theorem zT_w2 {t : tT} {m : Nat} (h : m < nm) {v : Bool} : mW (zT Z nc nm t) 2 m (bI v) = zT Z nc nm (t.1, va_up t.2.1 m v, t.2.2) := by
  funext k i
  by_cases hk : k = 2
  · subst hk
    by_cases hi : i = m
    · subst hi; rw [mW_at, zT_2 h]; exact congrArg bI (va_up_self _ _ _).symm
    · rw [mW_i hi]; simp only [zT]; rw [va_up_ne _ _ hi]
  · rw [mW_k hk]; simp [zT, hk]
theorem zT_w3 {t : tT} {v : Bool} : mW (zT Z nc nm t) 3 1 (bI v) = zT Z nc nm (t.1, t.2.1, v) := by
  funext k i
  by_cases hk : k = 3 ∧ i = 1
  · obtain ⟨rfl, rfl⟩ := hk; rw [mW_at, zT_3]
  · simp only [mW, zT, if_neg hk]
theorem va_up_id {f : Nat → Bool} {k : Nat} {b : Bool} (h : f k = b) : va_up f k b = f := by
  funext i
  by_cases hi : i = k
  · subst hi; rw [va_up_self, h]
  · rw [va_up_ne _ _ hi]
theorem c_Re_markLive {t : tT} {o : Option Nat} (ho : ∀ m, o = some m → m < nm) : VS G M_Re_markLive 0 0 0 [(0, .ref (ad 5 3)), (1, va_rf (o.map (ad 1)))] [] nc nm ad X (zT Z nc nm t) L 0 0 (sRet none X (zT Z nc nm (lvF o t)) L) := by
  cases o with
  | none =>
    refine s_aload_n d_Re_markLive_0 rfl (by first | rfl | exact vIsR_rf _) ?_
    refine s_ifnull (r := none) (tgt := 21) d_Re_markLive_1 (by decide) (fun _ => ?_) (fun _ z => nomatch z)
    exact s_vret d_Re_markLive_21 rfl ⟨rfl, rfl, rfl, rfl⟩
  | some m =>
    have hm := ho m rfl
    refine s_aload_n d_Re_markLive_0 rfl (by first | rfl | exact vIsR_rf _) ?_
    refine s_ifnull (r := some (ad 1 m)) (tgt := 21) d_Re_markLive_1 (by decide) (fun z => nomatch z) (fun _ _ => ?_)
    refine s_aload_n d_Re_markLive_4 rfl (by first | rfl | exact vIsR_rf _) ?_
    refine s_get 1 (m) d_Re_markLive_5 (decide_eq_true (hm)) rfl rfl i_Pm 7 (by decide) kf_Re_54 (Or.inl rfl) rfl ?_
    rw [zT_2 hm]
    cases hl : t.2.1 m with
    | true =>
      refine s_if_ne (tgt := 21) d_Re_markLive_8 (by decide) (fun _ => ?_) (fun c => absurd c (by decide))
      rw [show lvF (some m) t = t by show (t.1, va_up t.2.1 m true, t.2.2 || !t.2.1 m) = t; rw [va_up_id hl, hl, Bool.not_true, Bool.or_false]]
      exact s_vret d_Re_markLive_21 rfl ⟨rfl, rfl, rfl, rfl⟩
    | false =>
      refine s_if_ne (tgt := 21) d_Re_markLive_8 (by decide) (fun c => absurd (rfl) c) (fun _ => ?_)
      refine s_aload_n d_Re_markLive_11 rfl (by first | rfl | exact vIsR_rf _) ?_
      refine s_iconst (v := 1) d_Re_markLive_12 (by decide) ?_
      refine s_put 1 (m) d_Re_markLive_13 (decide_eq_true (hm)) rfl rfl i_Pm tt_Pm_ok n_Pm 7 (by decide) kf_Re_54 (Or.inl rfl) (Or.inl rfl) rfl rfl rfl cU_live ?_
      rw [show (1 : Int32) = bI true from rfl, zT_w2 hm]
      refine s_aload_n d_Re_markLive_16 rfl (by first | rfl | exact vIsR_rf _) ?_
      refine s_iconst (v := 1) d_Re_markLive_17 (by decide) ?_
      refine s_put 5 3 d_Re_markLive_18 rfl rfl rfl i_Re tt_Re_ok n_Re 1 (by decide) kf_Re_15 (Or.inl rfl) (Or.inl rfl) rfl rfl rfl cU_grew ?_
      rw [show (1 : Int32) = bI true from rfl, zT_w3]
      rw [show lvF (some m) t = (t.1, va_up t.2.1 m true, true) by show (t.1, va_up t.2.1 m true, t.2.2 || !t.2.1 m) = _; rw [hl, Bool.not_false, Bool.or_true]]
      exact s_vret d_Re_markLive_21 rfl ⟨rfl, rfl, rfl, rfl⟩
theorem c_Re_markMade {t : tT} {c : Nat} (hc : c < nc) : VS G M_Re_markMade 0 0 0 [(0, .ref (ad 5 3)), (1, .ref (ad 0 c))] [] nc nm ad X (zT Z nc nm t) L 0 0 (sRet none X (zT Z nc nm (mkF c t)) L) := by
  refine s_aload_n d_Re_markMade_0 rfl (by first | rfl | exact vIsR_rf _) ?_
  refine s_get 0 (c) d_Re_markMade_1 (decide_eq_true (hc)) rfl rfl i_Pc 4 (by decide) kf_Re_46 (Or.inl rfl) rfl ?_
  rw [zT_1 hc]
  cases hl : t.1 c with
  | true =>
    refine s_if_ne (tgt := 17) d_Re_markMade_4 (by decide) (fun _ => ?_) (fun c => absurd c (by decide))
    rw [show mkF c t = t by show (va_up t.1 c true, t.2.1, t.2.2 || !t.1 c) = t; rw [va_up_id hl, hl, Bool.not_true, Bool.or_false]]
    exact s_vret d_Re_markMade_17 rfl ⟨rfl, rfl, rfl, rfl⟩
  | false =>
    refine s_if_ne (tgt := 17) d_Re_markMade_4 (by decide) (fun c => absurd (rfl) c) (fun _ => ?_)
    refine s_aload_n d_Re_markMade_7 rfl (by first | rfl | exact vIsR_rf _) ?_
    refine s_iconst (v := 1) d_Re_markMade_8 (by decide) ?_
    refine s_put 0 (c) d_Re_markMade_9 (decide_eq_true (hc)) rfl rfl i_Pc tt_Pc_ok n_Pc 4 (by decide) kf_Re_46 (Or.inl rfl) (Or.inl rfl) rfl rfl rfl cU_made ?_
    rw [show (1 : Int32) = bI true from rfl, zT_w1 hc]
    refine s_aload_n d_Re_markMade_12 rfl (by first | rfl | exact vIsR_rf _) ?_
    refine s_iconst (v := 1) d_Re_markMade_13 (by decide) ?_
    refine s_put 5 3 d_Re_markMade_14 rfl rfl rfl i_Re tt_Re_ok n_Re 1 (by decide) kf_Re_15 (Or.inl rfl) (Or.inl rfl) rfl rfl rfl cU_grew ?_
    rw [show (1 : Int32) = bI true from rfl, zT_w3]
    rw [show mkF c t = (va_up t.1 c true, t.2.1, true) by show (va_up t.1 c true, t.2.1, t.2.2 || !t.1 c) = _; rw [hl, Bool.not_false, Bool.or_true]]
    exact s_vret d_Re_markMade_17 rfl ⟨rfl, rfl, rfl, rfl⟩
end VC2
