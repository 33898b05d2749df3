/-! The class's state with one method, one item more. -/
section VGr2
variable {G : vG} {nc nm : Nat} {ad : Nat → Nat → Nat} {X Z : Nat → Nat → Int32} {L : Nat → Nat → List Nat} {F : aH}
theorem metX_i {c k i : Nat} {n r : Int32} (h : i ≠ nm) : (metX X nm c n r) k i = X k i := by
  unfold metX
  rw [mW_i h, mW_i h, mW_i h, mW_i h, mW_i h, mW_i h, mW_i h, mW_i h]
theorem metX_k {c k i : Nat} {n r : Int32} (h : k < 2 ∨ 9 < k) : (metX X nm c n r) k i = X k i := by
  unfold metX
  rw [mW_k (by omega), mW_k (by omega), mW_k (by omega), mW_k (by omega), mW_k (by omega), mW_k (by omega), mW_k (by omega), mW_k (by omega)]
theorem metX_v {c : Nat} {n r : Int32} : (metX X nm c n r) 2 nm = nI c ∧ (metX X nm c n r) 3 nm = n ∧ (metX X nm c n r) 4 nm = r ∧ (metX X nm c n r) 5 nm = 0 ∧ (metX X nm c n r) 9 nm = 0 ∧ (metX X nm c n r) 6 nm = nI nm ∧ (metX X nm c n r) 7 nm = n ∧ (metX X nm c n r) 8 nm = X 1 c := by
  unfold metX
  simp [mW]
theorem metX_oN {c m : Nat} {n r : Int32} (h : m ≠ nm) : oN ((metX X nm c n r)) m = oN X m := by unfold oN; rw [metX_i h]
theorem metX_iN {c m : Nat} {n r : Int32} (h : m ≠ nm) : iN ((metX X nm c n r)) m = iN X m := by unfold iN; rw [metX_i h]
theorem metX_o {c : Nat} {n r : Int32} (hc : c < 8) : oN ((metX X nm c n r)) nm = c := by unfold oN; rw [metX_v.1, nI_clamp (by omega)]
theorem metX_n0 {c : Nat} {n r : Int32} : iN ((metX X nm c n r)) nm = 0 := by unfold iN; rw [metX_v.2.2.2.1]; rfl
theorem cF_met {a q c : Nat} {n r : Int32} (hw : wW X nc nm) (hL : cR X nc nm L) (hc : c < nc) (hF : cF G nc nm ad X Z L F) (hn : aN ((va_up (va_up F (ad 5 6) (some (.inr (4, (L 1 0).map (ad 1) ++ [a])))) (ad 3 c) (some (.inr (4, (L 2 c).map (ad 1) ++ [a]))))) (([(q, .inr (1, [])), (a, oE 4 [.ref (ad 0 c), .int (nI nm), .int n, .int r, .ref q, .int n, .int 0, .int 0])]))) : cF G nc (nm + 1) ((adN (adN ad 1 nm a) 4 nm q)) ((metX X nm c n r)) ((mW Z 2 nm 0)) ((lU (lU L 1 0 (List.range (nm + 1))) 2 c (L 2 c ++ [nm]))) (aL ((va_up (va_up F (ad 5 6) (some (.inr (4, (L 1 0).map (ad 1) ++ [a])))) (ad 3 c) (some (.inr (4, (L 2 c).map (ad 1) ++ [a]))))) (([(q, .inr (1, [])), (a, oE 4 [.ref (ad 0 c), .int (nI nm), .int n, .int r, .ref q, .int n, .int 0, .int 0])]))) := by
  have h8 := hw.1.1
  have hqa : q ≠ a := by
    have := hn.1
    simp only [List.map_cons, List.map_nil, List.nodup_cons, List.mem_cons, List.not_mem_nil, or_false] at this
    exact this.1
  have hBn : ∀ x, (va_up (va_up F (ad 5 6) (some (.inr (4, (L 1 0).map (ad 1) ++ [a])))) (ad 3 c) (some (.inr (4, (L 2 c).map (ad 1) ++ [a])))) x = none → F x = none := fun x hx => by
    by_cases e : x = ad 3 c
    · rw [e, va_up_self] at hx; cases hx
    · rw [va_up_ne _ _ e] at hx
      by_cases e : x = ad 5 6
      · rw [e, va_up_self] at hx; cases hx
      · rw [va_up_ne _ _ e] at hx; exact hx
  have hqn : F q = none := hBn q (hn.2 q (by simp))
  have han : F a = none := hBn a (hn.2 a (by simp))
  have h1 : ∀ p, p < nm → (adN (adN ad 1 nm a) 4 nm q) 1 p = ad 1 p := fun p hp => by rw [adN_k (by decide), adN_i (by omega)]
  have hown : ∀ d, d < nc → ∀ x ∈ L 2 d, x < nm := fun d hd x hx => by rw [hL.2.2 d hd] at hx; exact ownL_lt hx
  have hc3 : cV X nc nm 3 c = true := decide_eq_true hc
  have h53 : ad 5 6 ≠ ad 3 c := fun z => by have := (hF.2 5 6 3 c rfl hc3 z).1; omega
  have hold : ∀ k i, cV X nc nm k i = true → ¬ (k = 5 ∧ i = 6) → ¬ (k = 3 ∧ i = c) → cE G ((adN (adN ad 1 nm a) 4 nm q)) ((metX X nm c n r)) ((mW Z 2 nm 0)) ((lU (lU L 1 0 (List.range (nm + 1))) 2 c (L 2 c ++ [nm]))) k i = cE G ad X Z L k i → aL ((va_up (va_up F (ad 5 6) (some (.inr (4, (L 1 0).map (ad 1) ++ [a])))) (ad 3 c) (some (.inr (4, (L 2 c).map (ad 1) ++ [a]))))) (([(q, .inr (1, [])), (a, oE 4 [.ref (ad 0 c), .int (nI nm), .int n, .int r, .ref q, .int n, .int 0, .int 0])])) (ad k i) = some (cE G ((adN (adN ad 1 nm a) 4 nm q)) ((metX X nm c n r)) ((mW Z 2 nm 0)) ((lU (lU L 1 0 (List.range (nm + 1))) 2 c (L 2 c ++ [nm]))) k i) := by
    intro k i g1 g2 g3 g4
    have e : (va_up (va_up F (ad 5 6) (some (.inr (4, (L 1 0).map (ad 1) ++ [a])))) (ad 3 c) (some (.inr (4, (L 2 c).map (ad 1) ++ [a])))) (ad k i) = some (cE G ad X Z L k i) := by
      rw [va_up_ne _ _ (fun z => g3 (hF.2 k i 3 c g1 hc3 z)), va_up_ne _ _ (fun z => g2 (hF.2 k i 5 6 g1 rfl z))]
      exact hF.1 k i g1
    rw [g4]
    exact (aL_old (hn.old e)).trans e
  refine cF_more (N := fun k i => (k = 1 ∨ k = 4) ∧ i = nm) hF (fun k i hv => ?_) (fun k i k' i' g1 g2 e => ?_) (fun k i hv => ?_)
  · rcases k with _ | _ | _ | _ | _ | _ | k
    · simp only [cV, decide_eq_true_eq] at hv ⊢
      exact Or.inl ⟨fun z => by omega, hv, by rw [adN_k (by decide), adN_k (by decide)]⟩
    · simp only [cV, decide_eq_true_eq] at hv ⊢
      by_cases e : i = nm
      · subst e
        exact Or.inr ⟨⟨by simp, rfl⟩, by rw [adN_k (by decide), adN_at]; exact han⟩
      · exact Or.inl ⟨fun z => e z.2, by omega, h1 i (by omega)⟩
    · simp only [cV, Bool.and_eq_true, decide_eq_true_eq] at hv ⊢
      have e : i / 5 ≠ nm := fun z => by rw [z, metX_n0] at hv; omega
      rw [metX_iN e] at hv
      exact Or.inl ⟨fun z => by omega, by omega, by rw [adN_k (by decide), adN_k (by decide)]⟩
    · simp only [cV, decide_eq_true_eq] at hv ⊢
      exact Or.inl ⟨fun z => by omega, hv, by rw [adN_k (by decide), adN_k (by decide)]⟩
    · simp only [cV, decide_eq_true_eq] at hv ⊢
      by_cases e : i = nm
      · subst e
        exact Or.inr ⟨⟨by simp, rfl⟩, by rw [adN_at]; exact hqn⟩
      · exact Or.inl ⟨fun z => e z.2, by omega, by rw [adN_i e, adN_i e]⟩
    · simp only [cV, decide_eq_true_eq] at hv ⊢
      exact Or.inl ⟨fun z => by omega, hv, by rw [adN_k (by decide), adN_k (by decide)]⟩
    · cases hv
  · obtain ⟨a1, rfl⟩ := g1
    obtain ⟨b1, rfl⟩ := g2
    refine ⟨?_, rfl⟩
    rcases a1 with rfl | rfl <;> rcases b1 with rfl | rfl
    · rfl
    · rw [adN_k (by decide), adN_at, adN_at] at e; exact absurd e.symm hqa
    · rw [adN_at, adN_k (by decide), adN_at] at e; exact absurd e hqa
    · rfl
  · rcases k with _ | _ | _ | _ | _ | _ | k
    · simp only [cV, decide_eq_true_eq] at hv
      rw [show (adN (adN ad 1 nm a) 4 nm q) 0 i = ad 0 i by rw [adN_k (by decide), adN_k (by decide)]]
      refine hold 0 i (decide_eq_true hv) (fun z => by omega) (fun z => by omega) ?_
      simp only [cE]
      have e1 : pS ((metX X nm c n r)) i = pS X i := by unfold pS; rw [metX_k (by omega)]
      rw [e1, metX_k (by omega), show (adN (adN ad 1 nm a) 4 nm q) 3 i = ad 3 i by rw [adN_k (by decide), adN_k (by decide)], show (mW Z 2 nm 0) 0 i = Z 0 i from mW_k (by decide), show (mW Z 2 nm 0) 1 i = Z 1 i from mW_k (by decide), show (adN (adN ad 1 nm a) 4 nm q) 0 = ad 0 by rw [adN_f (by decide), adN_f (by decide)]]
    · simp only [cV, decide_eq_true_eq] at hv
      by_cases e : i = nm
      · subst e
        rw [show (adN (adN ad 1 i a) 4 i q) 1 i = a by rw [adN_k (by decide), adN_at]]
        rw [aL_at (n := 1) hn.1 rfl]
        simp only [cE]
        obtain ⟨m2, m3, m4, m5, m9, m6, m7, m8⟩ := metX_v (X := X) (nm := i) (c := c) (n := n) (r := r)
        rw [metX_o (by omega), m6, m7, m4, m3, m9, show (adN (adN ad 1 i a) 4 i q) 4 i = q from adN_at, show (mW Z 2 i 0) 2 i = 0 from mW_at, show (adN (adN ad 1 i a) 4 i q) 0 c = ad 0 c by rw [adN_k (by decide), adN_k (by decide)]]
      · rw [h1 i (by omega)]
        refine hold 1 i (decide_eq_true (show i < nm by omega)) (fun z => by omega) (fun z => by omega) ?_
        simp only [cE]
        rw [metX_oN e, metX_i e, metX_i e, metX_i e, metX_i e, metX_i e, show (adN (adN ad 1 nm a) 4 nm q) 0 (oN X i) = ad 0 (oN X i) by rw [adN_k (by decide), adN_k (by decide)], show (adN (adN ad 1 nm a) 4 nm q) 4 i = ad 4 i by rw [adN_i e, adN_i e], show (mW Z 2 nm 0) 2 i = Z 2 i from mW_i e]
    · simp only [cV, Bool.and_eq_true, decide_eq_true_eq] at hv
      have e : i / 5 ≠ nm := fun z => by rw [z, metX_n0] at hv; omega
      rw [metX_iN e] at hv
      rw [show (adN (adN ad 1 nm a) 4 nm q) 2 i = ad 2 i by rw [adN_k (by decide), adN_k (by decide)]]
      refine hold 2 i (by simp only [cV, Bool.and_eq_true, decide_eq_true_eq]; omega) (fun z => by omega) (fun z => by omega) ?_
      simp only [cE]
      rw [metX_k (by omega), metX_k (by omega), metX_k (by omega), metX_k (by omega), show cN ((metX X nm c n r)) i = cN X i by unfold cN; rw [metX_k (by omega)], show (adN (adN ad 1 nm a) 4 nm q) 0 (cN X i) = ad 0 (cN X i) by rw [adN_k (by decide), adN_k (by decide)]]
    · simp only [cV, decide_eq_true_eq] at hv
      rw [show (adN (adN ad 1 nm a) 4 nm q) 3 i = ad 3 i by rw [adN_k (by decide), adN_k (by decide)]]
      by_cases e : i = c
      · have e' := e.symm
        subst e'
        have e1 : (va_up (va_up F (ad 5 6) (some (.inr (4, (L 1 0).map (ad 1) ++ [a])))) (ad 3 c) (some (.inr (4, (L 2 c).map (ad 1) ++ [a])))) (ad 3 c) = some (.inr (4, (L 2 c).map (ad 1) ++ [a])) := va_up_self _ _ _
        rw [aL_old (hn.old e1), e1]
        simp only [cE]
        rw [show (lU (lU L 1 0 (List.range (nm + 1))) 2 c (L 2 c ++ [nm])) 2 c = L 2 c ++ [nm] from lU_at, List.map_append]
        congr 3
        congr 1
        · exact List.map_congr_left (fun p hp => (h1 p (hown c hc p hp)).symm)
        · show [a] = [(adN (adN ad 1 nm a) 4 nm q) 1 nm]
          rw [adN_k (by decide), adN_at]
      · refine hold 3 i (decide_eq_true hv) (fun z => by omega) (fun z => e z.2) ?_
        simp only [cE]
        rw [show (lU (lU L 1 0 (List.range (nm + 1))) 2 c (L 2 c ++ [nm])) 2 i = L 2 i by rw [lU_i e, lU_k (by decide)]]
        congr 2
        exact List.map_congr_left (fun p hp => h1 p (hown i hv p hp))
    · simp only [cV, decide_eq_true_eq] at hv
      by_cases e : i = nm
      · subst e
        rw [show (adN (adN ad 1 i a) 4 i q) 4 i = q from adN_at]
        rw [aL_at (n := 0) hn.1 rfl]
        simp only [cE]
        rw [metX_n0]; rfl
      · rw [show (adN (adN ad 1 nm a) 4 nm q) 4 i = ad 4 i by rw [adN_i e, adN_i e]]
        refine hold 4 i (decide_eq_true (show i < nm by omega)) (fun z => by omega) (fun z => by omega) ?_
        simp only [cE]
        rw [metX_iN e, show (adN (adN ad 1 nm a) 4 nm q) 2 = ad 2 by rw [adN_f (by decide), adN_f (by decide)]]
    · rw [show (adN (adN ad 1 nm a) 4 nm q) 5 i = ad 5 i by rw [adN_k (by decide), adN_k (by decide)]]
      by_cases e : i = 6
      · subst e
        have e1 : (va_up (va_up F (ad 5 6) (some (.inr (4, (L 1 0).map (ad 1) ++ [a])))) (ad 3 c) (some (.inr (4, (L 2 c).map (ad 1) ++ [a])))) (ad 5 6) = some (.inr (4, (L 1 0).map (ad 1) ++ [a])) := by rw [va_up_ne _ _ h53, va_up_self]
        rw [aL_old (hn.old e1), e1]
        simp only [cE, cE5]
        rw [show (lU (lU L 1 0 (List.range (nm + 1))) 2 c (L 2 c ++ [nm])) 1 0 = List.range (nm + 1) by rw [lU_k (by decide), lU_at], hL.2.1, List.range_succ, List.map_append]
        congr 3
        congr 1
        · exact List.map_congr_left (fun p hp => (h1 p (List.mem_range.mp hp)).symm)
        · show [a] = [(adN (adN ad 1 nm a) 4 nm q) 1 nm]
          rw [adN_k (by decide), adN_at]
      · rw [cV_5] at hv
        refine hold 5 i (by rw [cV_5]; exact hv) (fun z => e z.2) (fun z => by omega) ?_
        simp only [cE]
        exact cE5_lists (fun i => by rw [adN_k (by decide), adN_k (by decide)]) (fun _ => by rw [lU_k (by decide), lU_k (by decide), adN_f (by decide), adN_f (by decide)]) (fun z => absurd z e) (fun k i hk => mW_k (by omega))
    · cases hv
theorem cR_met {c : Nat} {n r : Int32} (hw : wW X nc nm) (hL : cR X nc nm L) (hc : c < nc) : cR ((metX X nm c n r)) nc (nm + 1) ((lU (lU L 1 0 (List.range (nm + 1))) 2 c (L 2 c ++ [nm]))) := by
  have h8 := hw.1.1
  refine ⟨by rw [lU_k (by decide), lU_k (by decide)]; exact hL.1, by rw [lU_k (by decide), lU_at], fun d hd => ?_⟩
  have e0 : ownL ((metX X nm c n r)) (nm + 1) d = ownL X nm d ++ (if c = d then [nm] else []) := by
    unfold ownL
    rw [List.range_succ, List.filter_append]
    congr 1
    · refine List.filter_congr (fun m hm => ?_)
      rw [metX_oN (by have := List.mem_range.mp hm; omega)]
    · rw [List.filter_cons, metX_o (by omega)]
      by_cases e : c = d
      · rw [if_pos (decide_eq_true e), if_pos e]; rfl
      · rw [if_neg (by rw [decide_eq_true_eq]; exact e), if_neg e]; rfl
  rw [e0]
  by_cases e : d = c
  · subst e; rw [lU_at, if_pos rfl, hL.2.2 d hd]
  · rw [lU_i e, lU_k (by decide), if_neg (fun z => e z.symm), List.append_nil]
    exact hL.2.2 d hd
theorem zK_met {g : Int32} (hz : zK Z nc g) : zK ((mW Z 2 nm 0)) nc g := ⟨fun c hc => by rw [mW_k (by decide)]; exact hz.1 c hc, by rw [mW_k (by decide)]; exact hz.2.1, by rw [mW_k (by decide)]; exact hz.2.2⟩
theorem wI_met {c : Nat} {n r : Int32} (hw : wI X nc nm) (hn : nm < 24) (hc : c < nc) (hv : ∃ v, v < 26 ∧ n = nI v) : wI ((metX X nm c n r)) nc (nm + 1) := by
  have h8 := hw.1.1.1
  obtain ⟨m2, m3, m4, m5, m9, m6, m7, m8⟩ := metX_v (X := X) (nm := nm) (c := c) (n := n) (r := r)
  refine ⟨⟨⟨h8, fun d hd => ?_⟩, by omega, fun m hm => ?_, fun m hm => ?_, fun m hm => ?_, fun m hm j hj h1 => ?_⟩, fun m hm => ?_, fun m hm => ?_, fun m hm j hj => ?_⟩
  · rw [metX_k (by omega)]; exact hw.1.1.2 d hd
  · by_cases e : m = nm
    · subst e; rw [metX_o (by omega)]; exact ⟨hc, m2⟩
    · rw [metX_oN e, metX_i e]; exact hw.1.2.2.1 m (by omega)
  · by_cases e : m = nm
    · subst e; rw [metX_n0]; exact ⟨by omega, m5⟩
    · rw [metX_iN e, metX_i e]; exact hw.1.2.2.2.1 m (by omega)
  · by_cases e : m = nm
    · subst e
      unfold kN
      rw [m9]; rfl
    · have := hw.1.2.2.2.2.1 m (by omega)
      unfold kN at this ⊢
      rw [metX_i e]; exact this
  · by_cases e : m = nm
    · subst e; rw [metX_n0] at hj; omega
    · rw [metX_iN e] at hj
      rw [metX_k (by omega)] at h1
      rw [metX_k (by omega), show cN ((metX X nm c n r)) (m * 5 + j) = cN X (m * 5 + j) by unfold cN; rw [metX_k (by omega)]]
      exact hw.1.2.2.2.2.2 m (by omega) j hj h1
  · by_cases e : m = nm
    · subst e; rw [m8, metX_o (by omega), metX_k (by omega)]
    · rw [metX_i e, metX_oN e, metX_k (by omega)]; exact hw.2.1 m (by omega)
  · by_cases e : m = nm
    · subst e; rw [m3]; exact hv
    · rw [metX_i e]; exact hw.2.2.1 m (by omega)
  · by_cases e : m = nm
    · subst e; rw [metX_n0] at hj; omega
    · rw [metX_iN e] at hj
      rw [metX_k (by omega)]; exact hw.2.2.2 m (by omega) j hj
-- an item
theorem itX_k {m j q i : Nat} {k av bv cv : Int32} (h : q ≠ 5 ∧ (q < 12 ∨ 15 < q)) : (itX X m j k av bv cv) q i = X q i := by
  unfold itX
  rw [mW_k (by omega), mW_k (by omega), mW_k (by omega), mW_k (by omega), mW_k (by omega)]
theorem itX_i {m j q i : Nat} {k av bv cv : Int32} (h : q ≠ 5) (hi : i ≠ m * 5 + j) : (itX X m j k av bv cv) q i = X q i := by
  unfold itX
  rw [mW_k h, mW_i hi, mW_i hi, mW_i hi, mW_i hi]
theorem itX_v {m j : Nat} {k av bv cv : Int32} : (itX X m j k av bv cv) 12 (m * 5 + j) = k ∧ (itX X m j k av bv cv) 13 (m * 5 + j) = (if k = 2 then -1 else av) ∧ (itX X m j k av bv cv) 14 (m * 5 + j) = (if k = 0 then -1 else bv) ∧ (itX X m j k av bv cv) 15 (m * 5 + j) = (if k = 0 then -1 else cv) ∧ (itX X m j k av bv cv) 5 m = nI (j + 1) := by
  unfold itX
  simp [mW]
theorem itX_iN {m j i : Nat} {k av bv cv : Int32} (h : i ≠ m) : iN ((itX X m j k av bv cv)) i = iN X i := by
  unfold iN itX
  rw [mW_i h, mW_k (by omega), mW_k (by omega), mW_k (by omega), mW_k (by omega)]
theorem itX_m {m j : Nat} {k av bv cv : Int32} (hj : j < 5) : iN ((itX X m j k av bv cv)) m = j + 1 := by unfold iN; rw [itX_v.2.2.2.2, nI_clamp (by omega)]
theorem itX_oN {m j i : Nat} {k av bv cv : Int32} : oN ((itX X m j k av bv cv)) i = oN X i := by unfold oN; rw [itX_k (by omega)]
theorem cF_it {a m j : Nat} {k av bv cv : Int32} {e : aE} (hw : wW X nc nm) (hm : m < nm) (hi : iN X m = j) (hj : j < 5) (hF : cF G nc nm ad X Z L F) (he : e = cE G ad ((itX X m j k av bv cv)) Z L 2 (m * 5 + j)) (hn : aN ((va_up F (ad 4 m) (some (.inr (1, (List.range j).map (fun x => ad 2 (m * 5 + x)) ++ [a]))))) [(a, e)]) : cF G nc nm ((adN ad 2 (m * 5 + j) a)) ((itX X m j k av bv cv)) Z L (aL ((va_up F (ad 4 m) (some (.inr (1, (List.range j).map (fun x => ad 2 (m * 5 + x)) ++ [a]))))) [(a, e)]) := by
  have hc4 : cV X nc nm 4 m = true := decide_eq_true hm
  have hBn : ∀ x, (va_up F (ad 4 m) (some (.inr (1, (List.range j).map (fun x => ad 2 (m * 5 + x)) ++ [a])))) x = none → F x = none := fun x hx => by
    by_cases e : x = ad 4 m
    · rw [e, va_up_self] at hx; cases hx
    · rw [va_up_ne _ _ e] at hx; exact hx
  have han : F a = none := hBn a (hn.2 a (by simp))
  have hA : ∀ p, p ≠ 2 → (adN ad 2 (m * 5 + j) a) p = ad p := fun p hp => adN_f hp
  have hE2 : ∀ i, cE G ((adN ad 2 (m * 5 + j) a)) ((itX X m j k av bv cv)) Z L 2 i = cE G ad ((itX X m j k av bv cv)) Z L 2 i := fun i => by simp only [cE]; rw [hA 0 (by decide)]
  have hold : ∀ p i, cV X nc nm p i = true → ¬ (p = 4 ∧ i = m) → cE G ((adN ad 2 (m * 5 + j) a)) ((itX X m j k av bv cv)) Z L p i = cE G ad X Z L p i → aL ((va_up F (ad 4 m) (some (.inr (1, (List.range j).map (fun x => ad 2 (m * 5 + x)) ++ [a]))))) [(a, e)] (ad p i) = some (cE G ((adN ad 2 (m * 5 + j) a)) ((itX X m j k av bv cv)) Z L p i) := by
    intro p i g1 g2 g4
    have e : (va_up F (ad 4 m) (some (.inr (1, (List.range j).map (fun x => ad 2 (m * 5 + x)) ++ [a])))) (ad p i) = some (cE G ad X Z L p i) := by
      rw [va_up_ne _ _ (fun z => g2 (hF.2 p i 4 m g1 hc4 z))]
      exact hF.1 p i g1
    rw [g4]
    exact (aL_old (hn.old e)).trans e
  have hv2 : ∀ i, cV ((itX X m j k av bv cv)) nc nm 2 i = true → i ≠ m * 5 + j → cV X nc nm 2 i = true := by
    intro i hv hne
    simp only [cV, Bool.and_eq_true, decide_eq_true_eq] at hv ⊢
    by_cases e : i / 5 = m
    · rw [e, itX_m hj] at hv
      rw [e, hi]
      omega
    · rw [itX_iN e] at hv; exact hv
  refine cF_more (N := fun p i => p = 2 ∧ i = m * 5 + j) hF (fun p i hv => ?_) (fun p i p' i' g1 g2 _ => ⟨by rw [g1.1, g2.1], by rw [g1.2, g2.2]⟩) (fun p i hv => ?_)
  · by_cases hp : p = 2 ∧ i = m * 5 + j
    · obtain ⟨rfl, rfl⟩ := hp
      exact Or.inr ⟨⟨rfl, rfl⟩, by rw [adN_at]; exact han⟩
    · have h2 : (adN ad 2 (m * 5 + j) a) p i = ad p i := by
        by_cases e : p = 2
        · exact adN_i (fun z => hp ⟨e, z⟩)
        · exact adN_k e
      refine Or.inl ⟨hp, ?_, h2⟩
      rcases p with _ | _ | _ | _ | _ | _ | p
      · simp only [cV] at hv ⊢; exact hv
      · simp only [cV] at hv ⊢; exact hv
      · exact hv2 i hv (fun z => hp ⟨rfl, z⟩)
      · simp only [cV] at hv ⊢; exact hv
      · simp only [cV] at hv ⊢; exact hv
      · simp only [cV] at hv ⊢; exact hv
      · cases hv
  · rcases p with _ | _ | _ | _ | _ | _ | p
    · simp only [cV, decide_eq_true_eq] at hv
      rw [hA 0 (by decide)]
      refine hold 0 i (decide_eq_true hv) (fun z => by omega) ?_
      simp only [cE]
      have e1 : pS ((itX X m j k av bv cv)) i = pS X i := by unfold pS; rw [itX_k (by omega)]
      rw [e1, itX_k (by omega), hA 0 (by decide), hA 3 (by decide)]
    · simp only [cV, decide_eq_true_eq] at hv
      rw [hA 1 (by decide)]
      refine hold 1 i (decide_eq_true hv) (fun z => by omega) ?_
      simp only [cE]
      rw [itX_oN, itX_k (by omega), itX_k (by omega), itX_k (by omega), itX_k (by omega), itX_k (by omega), hA 0 (by decide), hA 4 (by decide)]
    · by_cases h0 : i = m * 5 + j
      · subst h0
        show aL _ _ ((adN ad 2 (m * 5 + j) a) 2 (m * 5 + j)) = some (cE G ((adN ad 2 (m * 5 + j) a)) ((itX X m j k av bv cv)) Z L 2 (m * 5 + j))
        rw [adN_at, aL_at (n := 0) hn.1 rfl, hE2, he]
      · have hv3 := hv2 i hv h0
        show aL _ _ ((adN ad 2 (m * 5 + j) a) 2 i) = some (cE G ((adN ad 2 (m * 5 + j) a)) ((itX X m j k av bv cv)) Z L 2 i)
        rw [adN_i h0]
        refine hold 2 i hv3 (fun z => by omega) ?_
        rw [hE2]
        simp only [cE]
        rw [itX_i (by decide) h0, itX_i (by decide) h0, itX_i (by decide) h0, itX_i (by decide) h0, show cN ((itX X m j k av bv cv)) i = cN X i by unfold cN; rw [itX_i (by decide) h0]]
    · simp only [cV, decide_eq_true_eq] at hv
      rw [hA 3 (by decide)]
      refine hold 3 i (decide_eq_true hv) (fun z => by omega) ?_
      simp only [cE]
      rw [hA 1 (by decide)]
    · simp only [cV, decide_eq_true_eq] at hv
      rw [hA 4 (by decide)]
      have hr : ∀ q, q < nm → ∀ x, x < iN X q → (adN ad 2 (m * 5 + j) a) 2 (q * 5 + x) = ad 2 (q * 5 + x) := fun q hq x hx => by
        have h5 := (hw.2.2.2.1 q hq).1
        refine adN_i (fun z => ?_)
        have e1 : q = m := by omega
        subst e1
        omega
      by_cases h0 : i = m
      · have h0' := h0.symm
        subst h0'
        have e1 : (va_up F (ad 4 m) (some (.inr (1, (List.range j).map (fun x => ad 2 (m * 5 + x)) ++ [a])))) (ad 4 m) = some (.inr (1, (List.range j).map (fun x => ad 2 (m * 5 + x)) ++ [a])) := va_up_self _ _ _
        rw [aL_old (hn.old e1), e1]
        simp only [cE]
        rw [itX_m hj, List.range_succ, List.map_append]
        congr 3
        congr 1
        · exact List.map_congr_left (fun x hx => (hr m hm x (by rw [hi]; exact List.mem_range.mp hx)).symm)
        · show [a] = [(adN ad 2 (m * 5 + j) a) 2 (m * 5 + j)]
          rw [adN_at]
      · refine hold 4 i (decide_eq_true hv) (fun z => h0 z.2) ?_
        simp only [cE]
        rw [itX_iN h0]
        congr 2
        exact List.map_congr_left (fun x hx => hr i hv x (List.mem_range.mp hx))
    · rw [hA 5 (by decide)]
      rw [cV_5] at hv
      refine hold 5 i (by rw [cV_5]; exact hv) (fun z => by omega) ?_
      simp only [cE]
      exact cE5_lists (fun i => by rw [hA 5 (by decide)]) (fun _ => by rw [hA 0 (by decide)]) (fun _ => by rw [hA 1 (by decide)]) (fun _ _ _ => rfl)
    · cases hv
theorem wI_it {m j : Nat} {k av bv cv : Int32} (hw : wI X nc nm) (hm : m < nm) (hi : iN X m = j) (hj : j < 5) (hk : k = 0 ∨ k = 1 ∨ k = 2) (ha : k = 1 → ∃ d, d < nc ∧ av = nI d) : wI ((itX X m j k av bv cv)) nc nm := by
  have h8 := hw.1.1.1
  obtain ⟨v12, v13, v14, v15, v5⟩ := itX_v (X := X) (m := m) (j := j) (k := k) (av := av) (bv := bv) (cv := cv)
  have old : ∀ q, q < nm → ∀ x, x < iN ((itX X m j k av bv cv)) q → ¬ (q = m ∧ x = j) → q * 5 + x ≠ m * 5 + j ∧ x < iN X q := by
    intro q hq x hx hne
    have h5 := (hw.1.2.2.2.1 q hq).1
    by_cases e : q = m
    · subst e
      rw [itX_m hj] at hx
      exact ⟨by omega, by omega⟩
    · rw [itX_iN e] at hx
      exact ⟨by omega, hx⟩
  refine ⟨⟨⟨h8, fun d hd => ?_⟩, hw.1.2.1, fun q hq => ?_, fun q hq => ?_, fun q hq => ?_, fun q hq x hx h1 => ?_⟩, fun q hq => ?_, fun q hq => ?_, fun q hq x hx => ?_⟩
  · rw [itX_k (by omega)]; exact hw.1.1.2 d hd
  · rw [itX_oN, itX_k (by omega)]; exact hw.1.2.2.1 q hq
  · by_cases e : q = m
    · subst e; rw [itX_m hj]; exact ⟨by omega, v5⟩
    · have := hw.1.2.2.2.1 q hq
      rw [itX_iN e]
      refine ⟨this.1, ?_⟩
      have e5 : (itX X m j k av bv cv) 5 q = X 5 q := by unfold itX; rw [mW_i e, mW_k (by omega), mW_k (by omega), mW_k (by omega), mW_k (by omega)]
      rw [e5]; exact this.2
  · have := hw.1.2.2.2.2.1 q hq
    unfold kN at this ⊢
    rw [itX_k (by omega)]; exact this
  · by_cases hne : q = m ∧ x = j
    · obtain ⟨e1, e2⟩ := hne
      have e1' := e1.symm
      have e2' := e2.symm
      subst e1'
      subst e2'
      rw [v12] at h1
      obtain ⟨d, d1, d2⟩ := ha h1
      have e : (itX X m j k av bv cv) 13 (m * 5 + j) = nI d := by rw [v13, h1, if_neg (by decide), d2]
      have e2 : cN ((itX X m j k av bv cv)) (m * 5 + j) = d := by unfold cN; rw [e, nI_clamp (by omega)]
      rw [e2]; exact ⟨d1, e⟩
    · obtain ⟨g1, g2⟩ := old q hq x hx hne
      rw [itX_i (by decide) g1] at h1
      rw [itX_i (by decide) g1, show cN ((itX X m j k av bv cv)) (q * 5 + x) = cN X (q * 5 + x) by unfold cN; rw [itX_i (by decide) g1]]
      exact hw.1.2.2.2.2.2 q hq x g2 h1
  · rw [itX_k (by omega), itX_oN, itX_k (by omega)]; exact hw.2.1 q hq
  · rw [itX_k (by omega)]; exact hw.2.2.1 q hq
  · by_cases hne : q = m ∧ x = j
    · obtain ⟨rfl, rfl⟩ := hne
      rw [v12]; exact hk
    · obtain ⟨g1, g2⟩ := old q hq x hx hne
      rw [itX_i (by decide) g1]
      exact hw.2.2.2 q hq x g2
end VGr2
