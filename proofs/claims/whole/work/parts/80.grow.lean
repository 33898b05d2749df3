/-! The class's state with one thing more. -/
section VGr
variable {G : vG} {nc nm : Nat} {ad : Nat → Nat → Nat} {X Z : Nat → Nat → Int32} {L : Nat → Nat → List Nat} {F : aH}
def adN (ad : Nat → Nat → Nat) (k0 i0 a : Nat) : Nat → Nat → Nat := fun k i => if k = k0 ∧ i = i0 then a else ad k i
theorem adN_at {k i a : Nat} : adN ad k i a k i = a := by simp [adN]
theorem adN_k {k i a k' i' : Nat} (h : k' ≠ k) : adN ad k i a k' i' = ad k' i' := by simp [adN, h]
theorem adN_i {k i a k' i' : Nat} (h : i' ≠ i) : adN ad k i a k' i' = ad k' i' := by simp [adN, h]
theorem adN_f {k i a k' : Nat} (h : k' ≠ k) : adN ad k i a k' = ad k' := funext (fun _ => adN_k h)
theorem cF_more {nc' nm' : Nat} {ad' : Nat → Nat → Nat} {X' Z' : Nat → Nat → Int32} {L' : Nat → Nat → List Nat} {F' : aH} {N : Nat → Nat → Prop} (hF : cF G nc nm ad X Z L F) (hd : ∀ k i, cV X' nc' nm' k i = true → (¬ N k i ∧ cV X nc nm k i = true ∧ ad' k i = ad k i) ∨ (N k i ∧ F (ad' k i) = none)) (hN : ∀ k i k' i', N k i → N k' i' → ad' k i = ad' k' i' → k = k' ∧ i = i') (hE : ∀ k i, cV X' nc' nm' k i = true → F' (ad' k i) = some (cE G ad' X' Z' L' k i)) : cF G nc' nm' ad' X' Z' L' F' := by
  refine ⟨hE, fun k i k' i' h1 h2 e => ?_⟩
  rcases hd k i h1 with ⟨a1, a2, a3⟩ | ⟨a1, a2⟩
  · rcases hd k' i' h2 with ⟨b1, b2, b3⟩ | ⟨b1, b2⟩
    · exact hF.2 k i k' i' a2 b2 (by rw [← a3, ← b3, e])
    · have := hF.1 k i a2
      rw [← a3, e, b2] at this; cases this
  · rcases hd k' i' h2 with ⟨b1, b2, b3⟩ | ⟨b1, b2⟩
    · have := hF.1 k' i' b2
      rw [← b3, ← e, a2] at this; cases this
    · exact hN k i k' i' a1 b1 e
theorem cE5_lists {ad' : Nat → Nat → Nat} {L' : Nat → Nat → List Nat} {i : Nat} (h5 : ∀ i, ad' 5 i = ad 5 i) (h0 : i = 5 → (L' 0 0).map (ad' 0) = (L 0 0).map (ad 0)) (h1 : i = 6 → (L' 1 0).map (ad' 1) = (L 1 0).map (ad 1)) {Z' : Nat → Nat → Int32} (hz : ∀ k i, 3 ≤ k → Z' k i = Z k i) : cE5 G ad' Z' L' i = cE5 G ad Z L i := by
  have hz' : ∀ j, Z' (4 + j) = Z (4 + j) := fun j => funext (fun i => hz _ i (by omega))
  rcases i with _ | _ | _ | _ | _ | _ | _ | j
  · simp only [cE5, h5, hz 3 _ (by decide)]
  · simp only [cE5, h5]
  · simp only [cE5, hz 3 _ (by decide)]
  · simp only [cE5, h5, hz 3 _ (by decide)]
  · simp only [cE5, h5, hz 3 _ (by decide)]
  · simp only [cE5, h0 rfl]
  · simp only [cE5, h1 rfl]
  · simp only [cE5, hz']
theorem opt_map_congr {f g : Nat → Nat} {o : Option Nat} (h : ∀ p, o = some p → f p = g p) : o.map f = o.map g := by
  cases o with
  | none => rfl
  | some p => show some (f p) = some (g p); rw [h p rfl]
theorem adX_o {v : Int32} {k i : Nat} (h : 2 ≤ k) : (mW (mW X 0 nc v) 1 nc (nI nc)) k i = X k i := by rw [mW_k (by omega), mW_k (by omega)]
theorem adX_oN {v : Int32} {i : Nat} : oN ((mW (mW X 0 nc v) 1 nc (nI nc))) i = oN X i := by unfold oN; rw [adX_o (by decide)]
theorem adX_iN {v : Int32} {i : Nat} : iN ((mW (mW X 0 nc v) 1 nc (nI nc))) i = iN X i := by unfold iN; rw [adX_o (by decide)]
theorem adX_i {v : Int32} {k i : Nat} (h : i ≠ nc) : (mW (mW X 0 nc v) 1 nc (nI nc)) k i = X k i := by rw [mW_i h, mW_i h]
theorem cF_add {a q : Nat} {v : Int32} {po : Option Nat} (hw : wW X nc nm) (hL : cR X nc nm L) (hF : cF G nc nm ad X Z L F) (hv : (po = none ∧ v = -1) ∨ ∃ d, d < nc ∧ po = some d ∧ v = nI d) (hn : aN ((va_up F (ad 5 5) (some (.inr (3, (L 0 0).map (ad 0) ++ [a]))))) (([(q, .inr (4, [])), (a, oE 3 [va_rf (po.map (ad 0)), .int (nI nc), .ref q, .int (nI nc), .int 0])]))) : cF G (nc + 1) nm ((adN (adN ad 0 nc a) 3 nc q)) ((mW (mW X 0 nc v) 1 nc (nI nc))) ((mW (mW Z 0 nc (nI nc)) 1 nc 0)) ((lU (lU L 0 0 (List.range (nc + 1))) 2 nc [])) (aL ((va_up F (ad 5 5) (some (.inr (3, (L 0 0).map (ad 0) ++ [a]))))) (([(q, .inr (4, [])), (a, oE 3 [va_rf (po.map (ad 0)), .int (nI nc), .ref q, .int (nI nc), .int 0])]))) := by
  have h8 := hw.1.1
  have hFl := hF.1 5 5 rfl
  have hqa : q ≠ a := by
    have := hn.1
    simp only [List.map_cons, List.map_nil, List.nodup_cons, List.mem_cons, List.not_mem_nil, or_false] at this
    exact this.1
  have hBn : ∀ x, (va_up F (ad 5 5) (some (.inr (3, (L 0 0).map (ad 0) ++ [a])))) x = none → F x = none := fun x hx => by
    by_cases e : x = ad 5 5
    · rw [e, va_up_self] at hx; cases hx
    · rw [va_up_ne _ _ e] at hx; exact hx
  have hqn : F q = none := hBn q (hn.2 q (by simp))
  have han : F a = none := hBn a (hn.2 a (by simp))
  have h0 : ∀ p, p < nc → (adN (adN ad 0 nc a) 3 nc q) 0 p = ad 0 p := fun p hp => by rw [adN_k (by decide), adN_i (by omega)]
  have hpp : pS ((mW (mW X 0 nc v) 1 nc (nI nc))) nc = po := by
    rcases hv with ⟨e1, e2⟩ | ⟨d, d1, d2, d3⟩
    · rw [e1]; exact pS_neg (by rw [mW_k (by decide), mW_at, e2])
    · rw [d2]; exact pS_nI (by rw [mW_k (by decide), mW_at, d3]) (by omega)
  have hpo : ∀ p, po = some p → p < nc := fun p hp => by
    rcases hv with ⟨e1, e2⟩ | ⟨d, d1, d2, d3⟩
    · rw [e1] at hp; cases hp
    · rw [d2] at hp; cases hp; exact d1
  -- an old place keeps what it holds
  have hold : ∀ k i, cV X nc nm k i = true → ¬ (k = 5 ∧ i = 5) → cE G ((adN (adN ad 0 nc a) 3 nc q)) ((mW (mW X 0 nc v) 1 nc (nI nc))) ((mW (mW Z 0 nc (nI nc)) 1 nc 0)) ((lU (lU L 0 0 (List.range (nc + 1))) 2 nc [])) k i = cE G ad X Z L k i → aL ((va_up F (ad 5 5) (some (.inr (3, (L 0 0).map (ad 0) ++ [a]))))) (([(q, .inr (4, [])), (a, oE 3 [va_rf (po.map (ad 0)), .int (nI nc), .ref q, .int (nI nc), .int 0])])) (ad k i) = some (cE G ((adN (adN ad 0 nc a) 3 nc q)) ((mW (mW X 0 nc v) 1 nc (nI nc))) ((mW (mW Z 0 nc (nI nc)) 1 nc 0)) ((lU (lU L 0 0 (List.range (nc + 1))) 2 nc [])) k i) := by
    intro k i h1 h2 h3
    have e : (va_up F (ad 5 5) (some (.inr (3, (L 0 0).map (ad 0) ++ [a])))) (ad k i) = some (cE G ad X Z L k i) := by
      rw [va_up_ne _ _ (fun z => h2 (hF.2 k i 5 5 h1 rfl z))]
      exact hF.1 k i h1
    rw [h3]
    exact (aL_old (hn.old e)).trans e
  refine cF_more (N := fun k i => (k = 0 ∨ k = 3) ∧ i = nc) hF (fun k i hc => ?_) (fun k i k' i' h1 h2 e => ?_) (fun k i hc => ?_)
  · rcases k with _ | _ | _ | _ | _ | _ | k
    · simp only [cV, decide_eq_true_eq] at hc ⊢
      by_cases e : i = nc
      · subst e
        exact Or.inr ⟨⟨by simp, rfl⟩, by rw [adN_k (by decide), adN_at]; exact han⟩
      · exact Or.inl ⟨fun z => e z.2, by omega, h0 i (by omega)⟩
    · simp only [cV, decide_eq_true_eq] at hc ⊢
      exact Or.inl ⟨fun z => by omega, hc, by rw [adN_k (by decide), adN_k (by decide)]⟩
    · simp only [cV, adX_iN] at hc ⊢
      exact Or.inl ⟨fun z => by omega, hc, by rw [adN_k (by decide), adN_k (by decide)]⟩
    · simp only [cV, decide_eq_true_eq] at hc ⊢
      by_cases e : i = nc
      · subst e
        exact Or.inr ⟨⟨by simp, rfl⟩, by rw [adN_at]; exact hqn⟩
      · exact Or.inl ⟨fun z => e z.2, by omega, by rw [adN_i e, adN_i e]⟩
    · simp only [cV, decide_eq_true_eq] at hc ⊢
      exact Or.inl ⟨fun z => by omega, hc, by rw [adN_k (by decide), adN_k (by decide)]⟩
    · simp only [cV, decide_eq_true_eq] at hc ⊢
      exact Or.inl ⟨fun z => by omega, hc, by rw [adN_k (by decide), adN_k (by decide)]⟩
    · cases hc
  · obtain ⟨a1, rfl⟩ := h1
    obtain ⟨b1, rfl⟩ := h2
    refine ⟨?_, rfl⟩
    rcases a1 with rfl | rfl <;> rcases b1 with rfl | rfl
    · rfl
    · rw [adN_k (by decide), adN_at, adN_at] at e; exact absurd e.symm hqa
    · rw [adN_at, adN_k (by decide), adN_at] at e; exact absurd e hqa
    · rfl
  · rcases k with _ | _ | _ | _ | _ | _ | k
    · simp only [cV, decide_eq_true_eq] at hc
      by_cases e : i = nc
      · subst e
        rw [show (adN (adN ad 0 i a) 3 i q) 0 i = a by rw [adN_k (by decide), adN_at]]
        rw [aL_at (n := 1) hn.1 rfl]
        simp only [cE]
        rw [hpp, show (adN (adN ad 0 i a) 3 i q) 3 i = q from adN_at, show (mW (mW X 0 i v) 1 i (nI i)) 1 i = nI i from mW_at, show (mW (mW Z 0 i (nI i)) 1 i 0) 0 i = nI i by rw [mW_k (by decide), mW_at], show (mW (mW Z 0 i (nI i)) 1 i 0) 1 i = 0 from mW_at, opt_map_congr (fun p hp => h0 p (hpo p hp))]
      · rw [h0 i (by omega)]
        refine hold 0 i (decide_eq_true (show i < nc by omega)) (fun z => by omega) ?_
        simp only [cE]
        have e1 : pS ((mW (mW X 0 nc v) 1 nc (nI nc))) i = pS X i := by unfold pS; rw [adX_i e]
        rw [e1, adX_i e, show (adN (adN ad 0 nc a) 3 nc q) 3 i = ad 3 i by rw [adN_i e, adN_i e], show (mW (mW Z 0 nc (nI nc)) 1 nc 0) 0 i = Z 0 i by rw [mW_i e, mW_i e], show (mW (mW Z 0 nc (nI nc)) 1 nc 0) 1 i = Z 1 i by rw [mW_i e, mW_i e], opt_map_congr (fun p hp => h0 p ?_)]
        rcases pS_cases hw.1 (show i < nc by omega) with z | ⟨d, d1, d2⟩
        · rw [z] at hp; cases hp
        · rw [d2] at hp; cases hp; omega
    · simp only [cV, decide_eq_true_eq] at hc
      rw [show (adN (adN ad 0 nc a) 3 nc q) 1 i = ad 1 i by rw [adN_k (by decide), adN_k (by decide)]]
      refine hold 1 i (decide_eq_true hc) (fun z => by omega) ?_
      simp only [cE]
      rw [adX_oN, h0 _ (hw.2.2.1 i hc).1, adX_o (by decide), adX_o (by decide), adX_o (by decide), adX_o (by decide), adX_o (by decide), show (adN (adN ad 0 nc a) 3 nc q) 4 i = ad 4 i by rw [adN_k (by decide), adN_k (by decide)], show (mW (mW Z 0 nc (nI nc)) 1 nc 0) 2 i = Z 2 i by rw [mW_k (by decide), mW_k (by decide)]]
    · simp only [cV, adX_iN] at hc
      rw [show (adN (adN ad 0 nc a) 3 nc q) 2 i = ad 2 i by rw [adN_k (by decide), adN_k (by decide)]]
      refine hold 2 i hc (fun z => by omega) ?_
      simp only [cE]
      rw [adX_o (by decide), adX_o (by decide), adX_o (by decide), adX_o (by decide), show cN ((mW (mW X 0 nc v) 1 nc (nI nc))) i = cN X i by unfold cN; rw [adX_o (by decide)]]
      by_cases h1 : X 12 i = 1
      · rw [Bool.and_eq_true, decide_eq_true_eq, decide_eq_true_eq] at hc
        have := (hw.2.2.2.2.2 _ hc.1 _ hc.2 (by rw [show i / 5 * 5 + i % 5 = i by omega]; exact h1)).1
        rw [show i / 5 * 5 + i % 5 = i by omega] at this
        rw [if_pos h1, if_pos h1, if_pos h1, h0 _ this]
      · rw [if_neg h1, if_neg h1, if_neg h1]
    · simp only [cV, decide_eq_true_eq] at hc
      by_cases e : i = nc
      · subst e
        rw [show (adN (adN ad 0 i a) 3 i q) 3 i = q from adN_at]
        rw [aL_at (n := 0) hn.1 rfl]
        simp only [cE]
        rw [show (lU (lU L 0 0 (List.range (i + 1))) 2 i []) 2 i = [] from lU_at]; rfl
      · rw [show (adN (adN ad 0 nc a) 3 nc q) 3 i = ad 3 i by rw [adN_i e, adN_i e]]
        refine hold 3 i (decide_eq_true (show i < nc by omega)) (fun z => by omega) ?_
        simp only [cE]
        rw [show (lU (lU L 0 0 (List.range (nc + 1))) 2 nc []) 2 i = L 2 i by rw [lU_i e, lU_k (by decide)], show (adN (adN ad 0 nc a) 3 nc q) 1 = ad 1 by rw [adN_f (by decide), adN_f (by decide)]]
    · simp only [cV, decide_eq_true_eq] at hc
      rw [show (adN (adN ad 0 nc a) 3 nc q) 4 i = ad 4 i by rw [adN_k (by decide), adN_k (by decide)]]
      refine hold 4 i (decide_eq_true hc) (fun z => by omega) ?_
      simp only [cE]
      rw [adX_iN, show (adN (adN ad 0 nc a) 3 nc q) 2 = ad 2 by rw [adN_f (by decide), adN_f (by decide)]]
    · rw [show (adN (adN ad 0 nc a) 3 nc q) 5 i = ad 5 i by rw [adN_k (by decide), adN_k (by decide)]]
      by_cases e : i = 5
      · subst e
        have e1 : (va_up F (ad 5 5) (some (.inr (3, (L 0 0).map (ad 0) ++ [a])))) (ad 5 5) = some (.inr (3, (L 0 0).map (ad 0) ++ [a])) := va_up_self _ _ _
        rw [aL_old (hn.old e1), e1]
        simp only [cE, cE5]
        rw [show (lU (lU L 0 0 (List.range (nc + 1))) 2 nc []) 0 0 = List.range (nc + 1) by rw [lU_k (by decide), lU_at], hL.1, List.range_succ, List.map_append]
        congr 3
        congr 1
        · exact List.map_congr_left (fun p hp => (h0 p (List.mem_range.mp hp)).symm)
        · show [a] = [(adN (adN ad 0 nc a) 3 nc q) 0 nc]
          rw [adN_k (by decide), adN_at]
      · rw [cV_5] at hc
        refine hold 5 i (by rw [cV_5]; exact hc) (fun z => e z.2) ?_
        simp only [cE]
        exact cE5_lists (fun i => by rw [adN_k (by decide), adN_k (by decide)]) (fun z => absurd z e) (fun _ => by rw [lU_k (by decide), lU_k (by decide), adN_f (by decide), adN_f (by decide)]) (fun k i hk => by rw [mW_k (by omega), mW_k (by omega)])
    · cases hc
theorem cR_add {v : Int32} (hw : wW X nc nm) (hL : cR X nc nm L) : cR ((mW (mW X 0 nc v) 1 nc (nI nc))) (nc + 1) nm ((lU (lU L 0 0 (List.range (nc + 1))) 2 nc [])) := by
  refine ⟨by rw [lU_k (by decide), lU_at], by rw [lU_k (by decide), lU_k (by decide)]; exact hL.2.1, fun c hc => ?_⟩
  have e0 : ownL ((mW (mW X 0 nc v) 1 nc (nI nc))) nm c = ownL X nm c := by unfold ownL; simp only [adX_oN]
  rw [e0]
  by_cases e : c = nc
  · subst e
    rw [lU_at]
    unfold ownL
    refine (List.filter_eq_nil_iff.mpr (fun m hm => ?_)).symm
    have := (hw.2.2.1 m (List.mem_range.mp hm)).1
    rw [decide_eq_true_eq]; omega
  · rw [lU_i e, lU_k (by decide)]
    exact hL.2.2 c (by omega)
theorem zK_add {g : Int32} (hz : zK Z nc g) : zK ((mW (mW Z 0 nc (nI nc)) 1 nc 0)) (nc + 1) g := by
  refine ⟨fun c hc => ?_, by rw [mW_k (by decide), mW_k (by decide)]; exact hz.2.1, by rw [mW_k (by decide), mW_k (by decide)]; exact hz.2.2⟩
  rw [mW_k (by decide)]
  by_cases e : c = nc
  · subst e; exact mW_at
  · rw [mW_i e]; exact hz.1 c (by omega)
theorem wI_add {v : Int32} (hw : wI X nc nm) (hn : nc < 8) (hv : v = -1 ∨ ∃ d, d < nc ∧ v = nI d) : wI ((mW (mW X 0 nc v) 1 nc (nI nc))) (nc + 1) nm := by
  refine ⟨⟨⟨by omega, fun c hc => ?_⟩, hw.1.2.1, fun m hm => ?_, fun m hm => ?_, fun m hm => ?_, fun m hm j hj h1 => ?_⟩, fun m hm => ?_, fun m hm => ?_, fun m hm j hj => ?_⟩
  · by_cases e : c = nc
    · subst e
      rw [mW_k (by decide), mW_at]; exact hv
    · rw [adX_i e]; exact hw.1.1.2 c (by omega)
  · rw [adX_oN, adX_o (by decide)]
    exact ⟨by have := (hw.1.2.2.1 m hm).1; omega, (hw.1.2.2.1 m hm).2⟩
  · rw [adX_iN, adX_o (by decide)]; exact hw.1.2.2.2.1 m hm
  · rw [adX_o (by decide), show kN ((mW (mW X 0 nc v) 1 nc (nI nc))) m = kN X m by unfold kN; rw [adX_o (by decide)]]; exact hw.1.2.2.2.2.1 m hm
  · rw [adX_o (by decide)] at h1
    rw [adX_iN] at hj
    have := hw.1.2.2.2.2.2 m hm j hj h1
    rw [adX_o (by decide), show cN ((mW (mW X 0 nc v) 1 nc (nI nc))) (m * 5 + j) = cN X (m * 5 + j) by unfold cN; rw [adX_o (by decide)]]
    exact ⟨by omega, this.2⟩
  · have := (hw.1.2.2.1 m hm).1
    rw [adX_o (by decide), adX_oN, adX_i (by omega)]; exact hw.2.1 m hm
  · rw [adX_o (by decide)]; exact hw.2.2.1 m hm
  · rw [adX_iN] at hj
    rw [adX_o (by decide)]; exact hw.2.2.2 m hm j hj
end VGr
