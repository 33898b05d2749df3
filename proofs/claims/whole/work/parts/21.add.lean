/-! Lists: what a list is in the pool; adding and taking out. -/
section VAd
variable {G : vG} {h : vH}
abbrev vOA (G : vG) (cap : Nat) (g : Nat → Option Nat) : va_E := .inl (G.2.1 3, cap, .inr (.inr (.inr (.inr g))))
/-- a list object at a: its places bk (none: the empty array that all new lists share), its elements xs -/
def lsAt (G : vG) (h : vH) (a : Nat) (bk : Option Nat) (xs : List Nat) : Prop := a ∈ h.1 ∧ ∃ mcv : Int32, match bk with
  | none => h.2 a = .inr (9, [.ref G.2.2.1, .int 0, .int mcv]) ∧ xs = []
  | some b => ∃ (cap : Nat) (g : Nat → Option Nat), h.2 a = .inr (9, [.ref b, .int (nI xs.length), .int mcv]) ∧ b ∈ h.1 ∧ h.2 b = vOA G cap g ∧ xs.length ≤ cap ∧ 0 < cap ∧ cap < 100 ∧ ∀ i, i < xs.length → g i = some (xs.getD i 0)
def grQ (G : vG) (h : vH) (a : Nat) (sv mcv : Value) (xs : List Nat) : vQ := fun r h' => ∃ (q cap : Nat) (g : Nat → Option Nat), q ∉ h.1 ∧ r = .inl (some (.ref q)) ∧ h'.1 = h.1 ++ [q] ∧ h'.2 a = .inr (9, [.ref q, sv, mcv]) ∧ h'.2 q = vOA G cap g ∧ (∀ c, c ≠ a → c ≠ q → h'.2 c = h.2 c) ∧ xs.length < cap ∧ cap < 100 ∧ ∀ i, i < xs.length → g i = some (xs.getD i 0)
theorem c_Al_grow2_new {a : Nat} {sv mcv : Value} {x : Int32} (hf : h.2 a = .inr (9, [.ref G.2.2.1, sv, mcv])) (ha : a ∈ h.1) (hx : ¬ (10 : Int32) < x) : V G M_Al_grow2 3 120 0 [(0, .ref a), (1, .int x)] [] h 1 60 (grQ G h a sv mcv []) := by
  refine v_aload_n d_Al_grow2_0 rfl (by first | rfl | exact vIsR_rf _) ?_
  refine v_get d_Al_grow2_1 hf ha rfl i_Al 0 (by decide) kf_Al_9 (Or.inl rfl) rfl ?_
  refine v_elen d_Al_grow2_4 ?_
  refine v_istore_n d_Al_grow2_5 (by decide) rfl ?_
  refine v_iload_n d_Al_grow2_6 rfl ?_
  refine v_if_gt (tgt := 20) d_Al_grow2_7 (by decide) (fun c => absurd c (by decide)) (fun _ => ?_)
  refine v_aload_n d_Al_grow2_10 rfl (by first | rfl | exact vIsR_rf _) ?_
  refine v_get d_Al_grow2_11 hf ha rfl i_Al 0 (by decide) kf_Al_9 (Or.inl rfl) rfl ?_
  refine v_gets d_Al_grow2_14 kf_Al_39 ?_
  refine v_acmp_eq (rx := some G.2.2.1) (ry := some G.2.2.1) (tgt := 45) d_Al_grow2_17 (by decide) (fun _ => ?_) (fun c => absurd rfl c)
  refine v_aload_n d_Al_grow2_45 rfl (by first | rfl | exact vIsR_rf _) ?_
  refine v_bipush (v := 10) d_Al_grow2_46 (by decide) ?_
  refine v_iload_n d_Al_grow2_48 rfl ?_
  refine v_mmax d_Al_grow2_49 km_Al_79 ?_
  rw [if_neg hx]
  refine v_newq (n := 10) d_Al_grow2_52 kc_Al_7 (by decide) (by decide) (fun q hq => ?_) (Nat.le_of_ble_eq_true rfl) (Nat.le_of_ble_eq_true rfl)
  have hqa : a ≠ q := fun z => hq (z ▸ ha)
  refine v_dup_x1 d_Al_grow2_55 (by first | rfl | exact vRf_cat _) (by first | rfl | exact vRf_cat _) ?_
  refine v_put d_Al_grow2_56 ((va_up_ne _ _ hqa).trans hf) (List.mem_append_left _ ha) rfl i_Al tt_Al_ok n_Al 0 (by decide) kf_Al_9 (Or.inl rfl) (Or.inl rfl) rfl rfl rfl ?_
  refine v_aret d_Al_grow2_59 rfl (Or.inr ⟨_, rfl⟩) rfl ⟨q, 10, fun _ => none, hq, rfl, rfl, va_up_self _ _ _, (va_up_ne _ _ hqa.symm).trans (va_up_self _ _ _), fun c h1 h2 => (va_up_ne _ _ h1).trans (va_up_ne _ _ h2), by decide, by decide, fun i hi => by cases hi⟩
theorem c_Al_grow2_full {a b ci : Nat} {mcv : Value} {xs : List Nat} {g : Nat → Option Nat} {qc : vw_C} (hf : h.2 a = .inr (9, [.ref b, .int (nI xs.length), mcv])) (ha : a ∈ h.1) (hg : h.2 b = vOA G xs.length g) (hb : b ∈ h.1) (h0 : 0 < xs.length) (h9 : xs.length < 40) (hxs : ∀ i, i < xs.length → g i = some (xs.getD i 0)) (hc : vCl[ci]? = some qc) (hx : Cond.castable qc.1 "java/lang/Object" ∈ vT) (hel : ∀ y ∈ xs, y ∈ h.1 ∧ ∃ fs, h.2 y = .inr (ci, fs)) : V G M_Al_grow2 3 120 0 [(0, .ref a), (1, .int (nI xs.length + 1))] [] h 1 60 (grQ G h a (.int (nI xs.length)) mcv xs) := by
  have hab : a ≠ b := fun z => by rw [z, hg] at hf; cases hf
  refine v_aload_n d_Al_grow2_0 rfl (by first | rfl | exact vIsR_rf _) ?_
  refine v_get d_Al_grow2_1 hf ha rfl i_Al 0 (by decide) kf_Al_9 (Or.inl rfl) rfl ?_
  refine v_alen (k := 3) d_Al_grow2_4 (by decide) hg hb ?_
  refine v_istore_n d_Al_grow2_5 (by decide) rfl ?_
  refine v_iload_n d_Al_grow2_6 rfl ?_
  refine v_if_gt (tgt := 20) d_Al_grow2_7 (by decide) (fun _ => ?_) (fun c => absurd ((nI_lt (a := 0) h0 (by omega))) c)
  have e1 : nI xs.length + 1 - Int32.ofNat xs.length = nI 1 := by
    rw [nI_1]
    have k := pk_sub (a := xs.length + 1) (b := xs.length) (by omega)
    rw [Nat.add_sub_cancel_left] at k
    exact k
  have e2 : Int32.ofNat xs.length >>> ((1 : Int32) &&& 31) = nI (xs.length / 2) := by
    have k := pk_shrN (n := xs.length) (by omega) ((1 : Int32) &&& 31) 1 (by decide)
    rw [Nat.pow_one] at k
    exact k
  obtain ⟨n, hn, hn1, hn2⟩ : ∃ n : Nat, Int32.ofNat xs.length + (if nI 1 < nI (xs.length / 2) then nI (xs.length / 2) else nI 1) = nI n ∧ xs.length < n ∧ n ≤ 60 := by
    by_cases c : 1 < xs.length / 2
    · refine ⟨xs.length + xs.length / 2, ?_, by omega, by omega⟩
      rw [if_pos (nI_lt c (by omega))]
      exact nI_add _ _
    · refine ⟨xs.length + 1, ?_, by omega, by omega⟩
      rw [if_neg (nI_nlt (by omega) (by decide))]
      exact nI_add _ _
  refine v_iload_n d_Al_grow2_20 rfl ?_
  refine v_iload_n d_Al_grow2_21 rfl ?_
  refine v_iload_n d_Al_grow2_22 rfl ?_
  refine v_isub d_Al_grow2_23 ?_
  refine v_iload_n d_Al_grow2_24 rfl ?_
  refine v_iconst (v := 1) d_Al_grow2_25 (by decide) ?_
  refine v_ishr d_Al_grow2_26 ?_
  rw [e1, e2]
  refine v_callS3r (M1 := M_As_newLength) d_Al_grow2_27 km_Al_73 kS_As_newLength (by decide) rfl rfl rfl (by decide) kM_As_newLength ki_As (by decide) (by decide +kernel) (c_As_newLength hn (nI_nle (by omega) (by omega)) (show ¬ nI 2147483639 < nI n from nI_nlt (by omega) (by decide))) ?_
  refine v_istore_n d_Al_grow2_30 (by decide) rfl ?_
  refine v_aload_n d_Al_grow2_31 rfl (by first | rfl | exact vIsR_rf _) ?_
  refine v_aload_n d_Al_grow2_32 rfl (by first | rfl | exact vIsR_rf _) ?_
  refine v_get d_Al_grow2_33 hf ha rfl i_Al 0 (by decide) kf_Al_9 (Or.inl rfl) rfl ?_
  refine v_iload_n d_Al_grow2_36 rfl ?_
  refine v_callS2 (M1 := M_Ar_copyOf) d_Al_grow2_37 km_Al_66 kS_Ar_copyOf (by decide) rfl rfl (by decide) kM_Ar_copyOf ki_Ar (by decide) (by decide +kernel) (c_Ar_copyOf hg hb (Nat.le_of_lt hn1) (by omega) hc hx (fun i hi y hy => hel y (by
    have e9 := (hxs i hi).symm.trans hy
    rw [← Option.some.inj e9, List.getD_eq_getElem?_getD, List.getElem?_eq_getElem hi]
    exact List.getElem_mem hi))) (fun v h2 z => ?_) (fun E h2 z => (by obtain ⟨q, hq, z1, -⟩ := z; cases z1))
  obtain ⟨q, hq, z1, rfl⟩ := z
  cases z1
  have hqa : a ≠ q := fun z => hq (z ▸ ha)
  refine v_dup_x1 d_Al_grow2_40 (by first | rfl | exact vRf_cat _) (by first | rfl | exact vRf_cat _) ?_
  refine v_put d_Al_grow2_41 (((va_up_ne _ _ hqa).trans (va_up_ne _ _ hqa)).trans hf) (List.mem_append_left _ ha) rfl i_Al tt_Al_ok n_Al 0 (by decide) kf_Al_9 (Or.inl rfl) (Or.inl rfl) rfl rfl rfl ?_
  refine v_aret d_Al_grow2_44 rfl (Or.inr ⟨_, rfl⟩) rfl ⟨q, n, _, hq, rfl, rfl, va_up_self _ _ _, (va_up_ne _ _ hqa.symm).trans (va_up_self _ _ _), fun c k1 k2 => ((va_up_ne _ _ k1).trans (va_up_ne _ _ k2)).trans (va_up_ne _ _ k2), hn1, by omega, fun i hi => ?_⟩
  rw [pk_cpy_in (Nat.zero_le _) (by omega), Nat.zero_add, Nat.sub_zero]
  exact hxs i hi
theorem c_Al_grow {a : Nat} {ed : Value} {n : Nat} {mcv : Value} {Q : vQ} (hf : h.2 a = .inr (9, [ed, .int (nI n), mcv])) (ha : a ∈ h.1) (hV : V G M_Al_grow2 3 120 0 [(0, .ref a), (1, .int (nI n + 1))] [] h 1 60 Q) (hq : ∀ r h', Q r h' → ∃ q, r = .inl (some (.ref q))) : V G M_Al_grow 4 150 0 [(0, .ref a)] [] h 1 60 Q := by
  refine v_aload_n d_Al_grow_0 rfl (by first | rfl | exact vIsR_rf _) ?_
  refine v_aload_n d_Al_grow_1 rfl (by first | rfl | exact vIsR_rf _) ?_
  refine v_get d_Al_grow_2 hf ha rfl i_Al 1 (by decide) kf_Al_48 (Or.inl rfl) rfl ?_
  refine v_iconst (v := 1) d_Al_grow_5 (by decide) ?_
  refine v_iadd d_Al_grow_6 ?_
  refine v_callV1 (M1 := M_Al_grow2) d_Al_grow_7 hf ha rfl km_Al_69 kI_Al_grow2 ks_Al_Al_grow2 (by decide) rfl (by decide) kM_Al_grow2 ki_Al (by decide) (by decide +kernel) hV (fun v h2 z => ?_) (fun E h2 z => (by obtain ⟨q, z1⟩ := hq _ _ z; cases z1))
  obtain ⟨q, z1⟩ := hq _ _ z
  cases z1
  exact v_aret d_Al_grow_10 rfl (Or.inr ⟨_, rfl⟩) rfl z
/-- what adding e to the list at a does -/
def adQ (G : vG) (h : vH) (a : Nat) (bk : Option Nat) (xs : List Nat) (v : Option Value) : vQ := fun r h' => r = .inl v ∧ ∃ bk' : Option Nat, lsAt G h' a bk' xs ∧ (∀ c ∈ h.1, c ∈ h'.1) ∧ (∀ c, c ≠ a → bk ≠ some c → c ∈ h.1 → h'.2 c = h.2 c) ∧ (bk' = bk ∨ ∃ q, bk' = some q ∧ q ∉ h.1) ∧ ∀ c ∈ h'.1, c ∈ h.1 ∨ bk' = some c
theorem vGetD_app {xs : List Nat} {e i : Nat} (hi : i < xs.length) : (xs ++ [e]).getD i 0 = xs.getD i 0 := by
  rw [List.getD_eq_getElem?_getD, List.getD_eq_getElem?_getD, List.getElem?_append_left hi]
theorem vGetD_last {xs : List Nat} {e : Nat} : (xs ++ [e]).getD xs.length 0 = e := by
  rw [List.getD_eq_getElem?_getD, List.getElem?_append_right (Nat.le_refl _), Nat.sub_self]
  rfl
def enQ (G : vG) (h : vH) (a b : Nat) (xs : List Nat) : vQ := fun r h' => r = .inl none ∧ lsAt G h' a (some b) xs ∧ h'.1 = h.1 ∧ ∀ c, c ≠ a → c ≠ b → h'.2 c = h.2 c
/-- the end of add: the element is put, the size grows -/
theorem c_Al_add2_end {a b e ci cap fr lo mc ms : Nat} {vs : List Value} {mcv : Int32} {xs : List Nat} {g : Nat → Option Nat} {qc : vw_C} (hf : h.2 a = .inr (9, [.ref b, .int (nI xs.length), .int mcv])) (ha : a ∈ h.1) (hg : h.2 b = vOA G cap g) (hb : b ∈ h.1) (hl : xs.length < cap) (hcap : cap < 100) (hxs : ∀ i, i < xs.length → g i = some (xs.getD i 0)) (he : h.2 e = .inr (ci, vs)) (hem : e ∈ h.1) (hc : vCl[ci]? = some qc) (hx : Cond.castable qc.1 "java/lang/Object" ∈ vT) : V G M_Al_add2 fr lo 11 [(0, .ref a), (1, .ref e), (2, .ref b), (3, .int (nI xs.length))] [] h mc ms (enQ G h a b (xs ++ [e])) := by
  have hab : a ≠ b := fun z => by rw [z, hg] at hf; cases hf
  refine v_aload_n d_Al_add2_11 rfl (by first | rfl | exact vIsR_rf _) ?_
  refine v_iload_n d_Al_add2_12 rfl ?_
  refine v_aload_n d_Al_add2_13 rfl (by first | rfl | exact vIsR_rf _) ?_
  refine v_aast d_Al_add2_14 hg hb he hem hc hx (vp_in_nI hl (by omega)) ?_
  rw [nI_clamp (show xs.length < 2 ^ 31 by omega)]
  refine v_aload_n d_Al_add2_15 rfl (by first | rfl | exact vIsR_rf _) ?_
  refine v_iload_n d_Al_add2_16 rfl ?_
  refine v_iconst (v := 1) d_Al_add2_17 (by decide) ?_
  refine v_iadd d_Al_add2_18 ?_
  refine v_put d_Al_add2_19 ((va_up_ne _ _ hab).trans hf) ha rfl i_Al tt_Al_ok n_Al 1 (by decide) kf_Al_48 (Or.inl rfl) (Or.inl rfl) rfl rfl rfl ?_
  refine v_vret d_Al_add2_22 rfl ⟨rfl, ⟨ha, mcv, cap, va_up g xs.length (some e), ?_, hb, (va_up_ne _ _ hab.symm).trans (va_up_self _ _ _), ?_, by omega, hcap, fun i hi => ?_⟩, rfl, fun c k1 k2 => (va_up_ne _ _ k1).trans (va_up_ne _ _ k2)⟩
  · show va_up _ a _ a = _
    rw [va_up_self, List.length_append, List.length_singleton, nI_1]
  · rw [List.length_append, List.length_singleton]; omega
  · rw [List.length_append, List.length_singleton] at hi
    by_cases hix : i = xs.length
    · rw [hix, va_up_self, vGetD_last]
    · rw [va_up_ne _ _ hix, hxs i (by omega), vGetD_app (by omega)]
theorem c_Al_add2 {a e ci : Nat} {bk : Option Nat} {vs : List Value} {mcv : Int32} {ed : Value} {xs : List Nat} {qc : vw_C} (hls : lsAt G h a bk xs) (hf : h.2 a = .inr (9, [ed, .int (nI xs.length), .int mcv])) (h9 : xs.length < 40) (hel : ∀ y ∈ xs, y ∈ h.1 ∧ ∃ fs, h.2 y = .inr (ci, fs)) (he : h.2 e = .inr (ci, vs)) (hem : e ∈ h.1) (hc : vCl[ci]? = some qc) (hx : Cond.castable qc.1 "java/lang/Object" ∈ vT) : V G M_Al_add2 5 180 0 [(0, .ref a), (1, .ref e), (2, ed), (3, .int (nI xs.length))] [] h 1 60 (adQ G h a bk (xs ++ [e]) none) := by
  obtain ⟨ha, mcv', hls⟩ := hls
  -- what growing leaves, and the end
  have tail : ∀ h2 : vH, ∀ r, grQ G h a (.int (nI xs.length)) (.int mcv) xs r h2 → ∃ q, r = .inl (some (.ref q)) ∧ V G M_Al_add2 5 180 11 [(0, .ref a), (1, .ref e), (2, .ref q), (3, .int (nI xs.length))] [] h2 0 0 (adQ G h a bk (xs ++ [e]) none) := by
    intro h2 r z
    obtain ⟨q, cap, g, k1, k2, k3, k4, k5, k6, k7, k8, k9⟩ := z
    refine ⟨q, k2, ?_⟩
    have m : ∀ c ∈ h.1, c ∈ h2.1 := fun c hc => by rw [k3]; exact List.mem_append_left _ hc
    have nq : ∀ c ∈ h.1, c ≠ q := fun c hc z => k1 (z ▸ hc)
    have hea : e ≠ a := fun z => by
      rw [z, hf] at he
      cases he
      cases hc
      exact absurd hx (by decide +kernel)
    refine V.mono ?_ (c_Al_add2_end k4 (m a ha) k5 (by rw [k3]; exact List.mem_append_right _ List.mem_cons_self) k7 k8 k9 ((k6 e hea (nq e hem)).trans he) (m e hem) hc hx)
    intro r' h3 w
    obtain ⟨w1, w2, w3, w4⟩ := w
    refine ⟨w1, some q, w2, fun c hc => by rw [w3]; exact m c hc, fun c u1 u2 u3 => (w4 c u1 (nq c u3)).trans (k6 c u1 (nq c u3)), Or.inr ⟨q, rfl, k1⟩, fun c hc => ?_⟩
    rw [w3, k3] at hc
    rcases List.mem_append.mp hc with w7 | w7
    · exact Or.inl w7
    · exact Or.inr (by rw [List.mem_singleton.mp w7])
  cases bk with
  | none =>
    obtain ⟨hf2, rfl⟩ := hls
    have e1 := hf.symm.trans hf2
    cases e1
    refine v_iload_n d_Al_add2_0 rfl ?_
    refine v_aload_n d_Al_add2_1 rfl (by first | rfl | exact vIsR_rf _) ?_
    refine v_elen d_Al_add2_2 ?_
    refine v_icmp_ne (tgt := 11) d_Al_add2_3 (by decide) (fun c => absurd (rfl) c) (fun _ => ?_)
    refine v_aload_n d_Al_add2_6 rfl (by first | rfl | exact vIsR_rf _) ?_
    refine v_callV0 (M1 := M_Al_grow) d_Al_add2_7 hf ha rfl km_Al_129 kI_Al_grow ks_Al_Al_grow (by decide) (by decide) kM_Al_grow ki_Al (by decide) (by decide +kernel) (c_Al_grow hf ha (c_Al_grow2_new hf ha (by decide)) (fun r h' z => by obtain ⟨q, _, _, _, z, _⟩ := z; exact ⟨q, z⟩)) (fun v h2 z => ?_) (fun E h2 z => (by obtain ⟨q, _, _, _, z1, _⟩ := z; cases z1))
    obtain ⟨q, z1, z2⟩ := tail h2 _ z
    cases z1
    refine v_astore_n d_Al_add2_10 (by first | rfl | exact vIsR_rf _) (by decide) rfl ?_
    exact z2
  | some b =>
    obtain ⟨cap, g, hf2, hb, hg, hl, h0, hcap, hxs⟩ := hls
    have e1 := hf.symm.trans hf2
    cases e1
    refine v_iload_n d_Al_add2_0 rfl ?_
    refine v_aload_n d_Al_add2_1 rfl (by first | rfl | exact vIsR_rf _) ?_
    refine v_alen (k := 3) d_Al_add2_2 (by decide) hg hb ?_
    refine v_icmp_ne (tgt := 11) d_Al_add2_3 (by decide) (fun c => ?_) (fun c => ?_)
    · have hlt : xs.length < cap := Nat.lt_of_le_of_ne hl (fun z => c (by rw [z]; rfl))
      refine V.mono ?_ (c_Al_add2_end hf ha hg hb hlt hcap hxs he hem hc hx)
      intro r' h3 w
      obtain ⟨w1, w2, w3, w4⟩ := w
      exact ⟨w1, some b, w2, fun c hc => by rw [w3]; exact hc, fun c u1 u2 u3 => w4 c u1 (fun z => u2 (by rw [z])), Or.inl rfl, fun c hc => Or.inl (by rw [← w3]; exact hc)⟩
    · have hle : xs.length = cap := (nI_eq (by omega) (by omega)).mp c
      subst hle
      refine v_aload_n d_Al_add2_6 rfl (by first | rfl | exact vIsR_rf _) ?_
      refine v_callV0 (M1 := M_Al_grow) d_Al_add2_7 hf ha rfl km_Al_129 kI_Al_grow ks_Al_Al_grow (by decide) (by decide) kM_Al_grow ki_Al (by decide) (by decide +kernel) (c_Al_grow hf ha (c_Al_grow2_full hf ha hg hb h0 h9 hxs hc hx hel) (fun r h' z => by obtain ⟨q, _, _, _, z, _⟩ := z; exact ⟨q, z⟩)) (fun v h2 z => ?_) (fun E h2 z => (by obtain ⟨q, _, _, _, z1, _⟩ := z; cases z1))
      obtain ⟨q, z1, z2⟩ := tail h2 _ z
      cases z1
      refine v_astore_n d_Al_add2_10 (by first | rfl | exact vIsR_rf _) (by decide) rfl ?_
      exact z2
theorem lsAt_fields {a : Nat} {bk : Option Nat} {xs : List Nat} (hls : lsAt G h a bk xs) : ∃ (ed : Value) (mcv : Int32), h.2 a = .inr (9, [ed, .int (nI xs.length), .int mcv]) ∧ vIsR ed = true := by
  obtain ⟨ha, mcv, hls⟩ := hls
  cases bk with
  | none => obtain ⟨h1, rfl⟩ := hls; exact ⟨_, mcv, h1, rfl⟩
  | some b => obtain ⟨cap, g, h1, -⟩ := hls; exact ⟨_, mcv, h1, rfl⟩
/-- a list whose own cell has another count of changes is the same list -/
theorem lsAt_mod {a : Nat} {bk : Option Nat} {xs : List Nat} {ed : Value} {m1 m2 : Int32} (hls : lsAt G h a bk xs) (hf : h.2 a = .inr (9, [ed, .int (nI xs.length), .int m1])) : lsAt G (h.1, va_up h.2 a (.inr (9, [ed, .int (nI xs.length), .int m2]))) a bk xs := by
  obtain ⟨ha, mcv, hls⟩ := hls
  refine ⟨ha, m2, ?_⟩
  cases bk with
  | none =>
    obtain ⟨h1, rfl⟩ := hls
    have e1 := hf.symm.trans h1
    cases e1
    exact ⟨va_up_self _ _ _, rfl⟩
  | some b =>
    obtain ⟨cap, g, h1, h2, h3, h4⟩ := hls
    have e1 := hf.symm.trans h1
    cases e1
    have hab : b ≠ a := fun z => by rw [z, hf] at h3; cases h3
    exact ⟨cap, g, va_up_self _ _ _, h2, (va_up_ne _ _ hab).trans h3, h4⟩
theorem c_Al_add {a e ci : Nat} {bk : Option Nat} {vs : List Value} {xs : List Nat} {qc : vw_C} (hls : lsAt G h a bk xs) (h9 : xs.length < 40) (hel : ∀ y ∈ xs, y ∈ h.1 ∧ ∃ fs, h.2 y = .inr (ci, fs)) (he : h.2 e = .inr (ci, vs)) (hem : e ∈ h.1) (hc : vCl[ci]? = some qc) (hx : Cond.castable qc.1 "java/lang/Object" ∈ vT) (h9c : ci ≠ 9) : V G M_Al_add 6 210 0 [(0, .ref a), (1, .ref e)] [] h 1 60 (adQ G h a bk (xs ++ [e]) (some (.int 1))) := by
  obtain ⟨ed, mcv, hf, hr⟩ := lsAt_fields hls
  have ha := hls.1
  have ne : ∀ y fs, h.2 y = .inr (ci, fs) → y ≠ a := fun y fs hy z => by
    rw [z, hf] at hy
    cases hy
    exact h9c rfl
  refine v_aload_n d_Al_add_0 rfl (by first | rfl | exact vIsR_rf _) ?_
  refine v_dup d_Al_add_1 (by first | rfl | exact vRf_cat _) ?_
  refine v_get d_Al_add_2 hf ha rfl i_Al 2 (by decide) kf_Al_63 (Or.inr kz_57) rfl ?_
  refine v_iconst (v := 1) d_Al_add_5 (by decide) ?_
  refine v_iadd d_Al_add_6 ?_
  refine v_put d_Al_add_7 hf ha rfl i_Al tt_Al_ok n_Al 2 (by decide) kf_Al_63 (Or.inr kz_57) (Or.inl rfl) rfl rfl rfl ?_
  have hls2 := lsAt_mod (m2 := mcv + 1) hls hf
  have hf2 : va_up h.2 a (.inr (9, [ed, .int (nI xs.length), .int (mcv + 1)])) a = .inr (9, [ed, .int (nI xs.length), .int (mcv + 1)]) := va_up_self _ _ _
  refine v_aload_n d_Al_add_10 rfl (by first | rfl | exact vIsR_rf _) ?_
  refine v_aload_n d_Al_add_11 rfl (by first | rfl | exact vIsR_rf _) ?_
  refine v_aload_n d_Al_add_12 rfl (by first | rfl | exact vIsR_rf _) ?_
  refine v_get d_Al_add_13 hf2 ha rfl i_Al 0 (by decide) kf_Al_9 (Or.inl rfl) rfl ?_
  refine v_aload_n d_Al_add_16 rfl (by first | rfl | exact vIsR_rf _) ?_
  refine v_get d_Al_add_17 hf2 ha rfl i_Al 1 (by decide) kf_Al_48 (Or.inl rfl) rfl ?_
  refine v_callV3 (M1 := M_Al_add2) d_Al_add_20 hf2 ha rfl km_Al_131 kI_Al_add2 ks_Al_Al_add2 (by decide) rfl (vR_cat hr) rfl (by decide) kM_Al_add2 ki_Al (by decide) (by decide +kernel) (c_Al_add2 hls2 hf2 h9 (fun y hy => ?_) ((va_up_ne _ _ (ne e vs he)).trans he) hem hc hx) (fun v h2 z => ?_) (fun E h2 z => nomatch z.1)
  · obtain ⟨k1, fs, k2⟩ := hel y hy
    exact ⟨k1, fs, (va_up_ne _ _ (ne y fs k2)).trans k2⟩
  · obtain ⟨z1, bk', z2, z3, z4, z5⟩ := z
    cases z1
    refine v_iconst (v := 1) d_Al_add_23 (by decide) ?_
    exact v_iret d_Al_add_24 rfl rfl ⟨rfl, bk', z2, z3, fun c k1 k2 k3 => (z4 c k1 k2 k3).trans (va_up_ne _ _ k1), z5⟩
end VAd
