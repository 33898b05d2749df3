/-! The class: families, the new names. -/
section VFa3
variable {G : vG} {nc nm : Nat} {ad : Nat → Nat → Nat} {X Z : Nat → Nat → Int32} {L : Nat → Nat → List Nat}
def kfC (X : Nat → Nat → Int32) (nc nm q : Nat) : Bool := anyB (fun p => decide (roN X nc nm p = q) && kN X p) nm
def f0C (X : Nat → Nat → Int32) (nc nm q : Nat) : Int32 := if kfC X nc nm q then X 3 q else -1
def ckB (X : Nat → Nat → Int32) (nc nm q g : Nat) : Bool := decide (X 4 g = X 4 q) && anyB (fun d => mjB X nc nm g d && rlT X nc (mjB X nc nm q) d) 32
def tkC (X : Nat → Nat → Int32) (nc nm : Nat) (F : Nat → Int32) (q v : Nat) : Bool := anyB (fun g => rtC X nc nm g && (ckB X nc nm q g && decide (F g = nI v))) nm
def frC (X : Nat → Nat → Int32) (nc nm : Nat) : Nat → Nat → Int32
  | 0 => f0C X nc nm
  | q + 1 => if (rtC X nc nm q && !kfC X nc nm q) = true then va_up (frC X nc nm q) q (nI (lF (tkC X nc nm (frC X nc nm q) q) 26 0)) else frC X nc nm q
theorem lF_lt {p : Nat → Bool} : ∀ {k v u : Nat}, v ≤ u → u < v + k → p u = false → lF p k v < v + k
  | 0, v, u, h1, h2, _ => by omega
  | k + 1, v, u, h1, h2, h3 => by
    unfold lF
    by_cases hp : p v = true
    · rw [if_pos hp]
      have : u ≠ v := fun z => by rw [z, hp] at h3; cases h3
      have := lF_lt (k := k) (v := v + 1) (u := u) (by omega) (by omega) h3
      omega
    · rw [if_neg hp]; omega
theorem lF_more {p : Nat → Bool} : ∀ {k v : Nat}, lF p k v < v + k → lF p (k + 1) v = lF p k v
  | 0, v, h => by unfold lF at h; omega
  | k + 1, v, h => by
    unfold lF at h ⊢
    by_cases hp : p v = true
    · rw [if_pos hp] at h ⊢; rw [if_pos hp]; exact lF_more (by omega)
    · rw [if_neg hp, if_neg hp]
theorem lF_congr {p q : Nat → Bool} : ∀ {k v : Nat}, (∀ u, v ≤ u → u < v + k → p u = q u) → lF p k v = lF q k v
  | 0, v, _ => rfl
  | k + 1, v, h => by
    unfold lF
    rw [h v (by omega) (by omega), lF_congr (fun u h1 h2 => h u (by omega) (by omega))]
/-- some name below 25 is free -/
theorem tkC_free {F : Nat → Int32} {q : Nat} (h24 : nm ≤ 24) : ∃ u, u < 25 ∧ tkC X nc nm F q u = false := by
  refine Classical.byContradiction (fun hn => ?_)
  have h1 := pigeon (N := nm) (fr := F) 25 (by omega) (fun u hu => by
    have ht : tkC X nc nm F q u = true := by
      cases e : tkC X nc nm F q u with
      | true => rfl
      | false => exact absurd ⟨u, hu, e⟩ hn
    obtain ⟨g, hg, e⟩ := anyB_iff.mp ht
    simp only [Bool.and_eq_true, decide_eq_true_eq] at e
    exact ⟨g, hg, e.2.2⟩)
  have h2 := cntB_le (fun g => anyB (fun u => decide (F g = nI u)) 25) nm
  omega
theorem tkC_lt {F : Nat → Int32} {q : Nat} (h24 : nm ≤ 24) : lF (tkC X nc nm F q) 25 0 < 25 ∧ lF (tkC X nc nm F q) 26 0 = lF (tkC X nc nm F q) 25 0 := by
  obtain ⟨u, h1, h2⟩ := tkC_free (X := X) (nc := nc) (F := F) (q := q) h24
  have := lF_lt (p := tkC X nc nm F q) (k := 25) (v := 0) (u := u) (by omega) (by omega) h2
  exact ⟨by omega, lF_more (by omega)⟩
def nmR (F : Nat → Int32) (nm : Nat) : Prop := ∀ g, g < nm → F g = -1 ∨ ∃ v, v < 26 ∧ F g = nI v
theorem frC_rng (h24 : nm ≤ 24) (hn : ∀ m, m < nm → ∃ v, v < 26 ∧ X 3 m = nI v) : ∀ p, nmR (frC X nc nm p) nm
  | 0, g, hg => by
    show f0C X nc nm g = -1 ∨ ∃ v, v < 26 ∧ f0C X nc nm g = nI v
    unfold f0C
    by_cases hk : kfC X nc nm g = true
    · rw [if_pos hk]; exact Or.inr (hn g hg)
    · rw [if_neg hk]; exact Or.inl rfl
  | p + 1, g, hg => by
    unfold frC
    by_cases hc : (rtC X nc nm p && !kfC X nc nm p) = true
    · rw [if_pos hc]
      by_cases e : g = p
      · subst e
        rw [va_up_self]
        have := tkC_lt (X := X) (nc := nc) (F := frC X nc nm g) (q := g) h24
        exact Or.inr ⟨_, by omega, rfl⟩
      · rw [va_up_ne _ _ e]; exact frC_rng h24 hn p g hg
    · rw [if_neg hc]; exact frC_rng h24 hn p g hg
theorem frC_stay : ∀ {p k : Nat}, cntB (rtC X nc nm) (p + k) = cntB (rtC X nc nm) p → frC X nc nm (p + k) = frC X nc nm p
  | p, 0, _ => rfl
  | p, k + 1, h => by
    have h1 := cntB_up (f := rtC X nc nm) (n := p + k) (m := p) (by omega)
    have h2 := cntB_up (f := rtC X nc nm) (n := p + (k + 1)) (m := p + k) (by omega)
    have h3 : rtC X nc nm (p + k) = false := by
      cases e : rtC X nc nm (p + k) with
      | false => rfl
      | true =>
        have := cntB_step (f := rtC X nc nm) (show p + k < p + (k + 1) by omega) e
        omega
    show (if (rtC X nc nm (p + k) && !kfC X nc nm (p + k)) = true then _ else frC X nc nm (p + k)) = _
    rw [h3, Bool.false_and, if_neg (by decide)]
    exact frC_stay (by omega)
def zNew (X : Nat → Nat → Int32) (nc nm : Nat) (F : Nat → Int32) (Z : Nat → Nat → Int32) : Prop := ∀ q, q < nm → rtC X nc nm q = true → Z 8 (cntB (rtC X nc nm) q) = F q
def tkP (X : Nat → Nat → Int32) (nc nm : Nat) (F : Nat → Int32) (q f v : Nat) : Bool := anyB (fun g => (rtC X nc nm g && decide (cntB (rtC X nc nm) g < f)) && (ckB X nc nm q g && decide (F g = nI v))) nm
theorem tkP_step {F : Nat → Int32} {q f g v : Nat} (hg : g < nm) (h1 : rtC X nc nm g = true) (h2 : cntB (rtC X nc nm) g = f) : tkP X nc nm F q (f + 1) v = (tkP X nc nm F q f v || (ckB X nc nm q g && decide (F g = nI v))) := by
  rw [Bool.eq_iff_iff, Bool.or_eq_true]
  unfold tkP
  rw [anyB_iff, anyB_iff]
  simp only [Bool.and_eq_true, decide_eq_true_eq]
  constructor
  · rintro ⟨d, d1, ⟨d2, d3⟩, d4⟩
    by_cases e : cntB (rtC X nc nm) d = f
    · rw [cntB_inj d2 h1 (by omega)] at d4; exact Or.inr d4
    · exact Or.inl ⟨d, d1, ⟨d2, by omega⟩, d4⟩
  · rintro (⟨d, d1, ⟨d2, d3⟩, d4⟩ | h)
    · exact ⟨d, d1, ⟨d2, by omega⟩, d4⟩
    · exact ⟨g, hg, ⟨h1, by omega⟩, h⟩
theorem tkP_all {F : Nat → Int32} {q v : Nat} : tkP X nc nm F q (cntB (rtC X nc nm) nm) v = tkC X nc nm F q v := anyB_congr (fun g hg => by
  cases e : rtC X nc nm g with
  | false => rfl
  | true => rw [decide_eq_true (cntB_step hg e)]; rfl)
theorem c_Fa_leastFreeName {F : Nat → Int32} {q : Nat} {g0 : Int32} (hw : wW X nc nm) (hL : cR X nc nm L) (hz : zFa X nc nm g0 Z) (hn : zNew X nc nm F Z) (hF : nmR F nm) (hq : q < nm) (hqr : rtC X nc nm q = true) : VS G M_Fa_leastFreeName 2 70 0 [(0, .ref (ad 5 4)), (1, .int (nI (cntB (rtC X nc nm) q)))] [] nc nm ad X Z L 0 0 (sRet (some (.int (nI (lF (tkC X nc nm F q) 26 0)))) X Z L) := by
  have h8 := hw.1.1
  have h24 := hw.2.1
  obtain ⟨hzk, hzr, hzf, -⟩ := hz
  have hle := cntB_le (rtC X nc nm) nm
  have hqs := cntB_step hq hqr
  obtain ⟨q5, q6, q7⟩ := hzf.2 q hq hqr
  have l2 : ∀ k v, v + k = 26 → VS G M_Fa_leastFreeName 2 70 97 [(0, .ref (ad 5 4)), (1, .int (nI (cntB (rtC X nc nm) q))), (2, .int (bsI (rlT X nc (mjB X nc nm q)))), (3, .int (bsI (tkC X nc nm F q))), (4, .int (nI v))] [] nc nm ad X Z L 0 0 (sRet (some (.int (nI (lF (tkC X nc nm F q) k v)))) X Z L) := by
    intro k
    induction k with
    | zero =>
      intro v hv
      have hv' : v = 26 := by omega
      subst hv'
      refine s_iload d_Fa_leastFreeName_97 rfl ?_
      refine s_bipush (v := 26) d_Fa_leastFreeName_99 (by decide) ?_
      refine s_icmp_ge (tgt := 119) d_Fa_leastFreeName_101 (by decide) (fun _ => ?_) (fun c => absurd (by decide) c)
      refine s_iload d_Fa_leastFreeName_119 rfl ?_
      exact s_iret d_Fa_leastFreeName_121 rfl rfl ⟨rfl, rfl, rfl, rfl⟩
    | succ k ih =>
      intro v hv
      refine s_iload d_Fa_leastFreeName_97 rfl ?_
      refine s_bipush (v := 26) d_Fa_leastFreeName_99 (by decide) ?_
      refine s_icmp_ge (tgt := 119) d_Fa_leastFreeName_101 (by decide) (fun c => absurd c (nI_ge (b := 26) (by omega) (by omega))) (fun _ => ?_)
      refine s_iload_n d_Fa_leastFreeName_104 rfl ?_
      refine s_iload d_Fa_leastFreeName_105 rfl ?_
      refine s_callS2r (M1 := M_Fa_holds) d_Fa_leastFreeName_107 km_Fa_132 kS_Fa_holds (by decide) (by first | rfl | exact vRf_cat _) (by first | rfl | exact vRf_cat _) (by decide) kM_Fa_holds ki_Fa (by decide) (by decide +kernel) (c_Fa_holds (show v < 32 by omega)) ?_
      cases ht : tkC X nc nm F q v with
      | false =>
        rw [show lF (tkC X nc nm F q) (k + 1) v = v by simp [lF, ht]]
        refine s_if_eq (tgt := 119) d_Fa_leastFreeName_110 (by decide) (fun _ => ?_) (fun c => absurd (rfl) c)
        refine s_iload d_Fa_leastFreeName_119 rfl ?_
        exact s_iret d_Fa_leastFreeName_121 rfl rfl ⟨rfl, rfl, rfl, rfl⟩
      | true =>
        rw [show lF (tkC X nc nm F q) (k + 1) v = lF (tkC X nc nm F q) k (v + 1) by simp [lF, ht]]
        refine s_if_eq (tgt := 119) d_Fa_leastFreeName_110 (by decide) (fun c => absurd c (by decide)) (fun _ => ?_)
        refine s_iincw (w := 1) d_Fa_leastFreeName_113 rfl (by decide) (by decide) rfl ?_
        refine s_goto (tgt := 97) d_Fa_leastFreeName_116 (by decide) ?_
        rw [nI_1]
        exact ih (v + 1) (by omega)
  have l1 : ∀ k f, f + k = cntB (rtC X nc nm) nm → VS G M_Fa_leastFreeName 2 70 16 [(0, .ref (ad 5 4)), (1, .int (nI (cntB (rtC X nc nm) q))), (2, .int (bsI (rlT X nc (mjB X nc nm q)))), (3, .int (bsI (tkP X nc nm F q f))), (4, .int (nI f))] [] nc nm ad X Z L 0 0 (sRet (some (.int (nI (lF (tkC X nc nm F q) 26 0)))) X Z L) := by
    intro k
    induction k with
    | zero =>
      intro f hf
      have hf' : f = cntB (rtC X nc nm) nm := by omega
      subst hf'
      refine s_iload d_Fa_leastFreeName_16 rfl ?_
      refine s_aload_n d_Fa_leastFreeName_18 rfl (by first | rfl | exact vIsR_rf _) ?_
      refine s_get 5 4 d_Fa_leastFreeName_19 rfl rfl rfl i_Fa 7 (by decide) kf_Fa_35 (Or.inl rfl) rfl ?_
      rw [hzf.1]
      refine s_icmp_ge (tgt := 94) d_Fa_leastFreeName_22 (by decide) (fun _ => ?_) (fun c => absurd (nI_le (by omega) (by omega)) c)
      refine s_iconst (v := 0) d_Fa_leastFreeName_94 (by decide) ?_
      refine s_istore d_Fa_leastFreeName_95 (by decide) rfl ?_
      rw [show tkP X nc nm F q (cntB (rtC X nc nm) nm) = tkC X nc nm F q from funext (fun v => tkP_all)]
      exact l2 26 0 (by omega)
    | succ k ih =>
      intro f hf
      obtain ⟨s1, s2, s3⟩ := sel_onto (sb := rtC X nc nm) (n := nm) (j := f) (by omega)
      obtain ⟨g1, g2, g3⟩ := hzf.2 _ s1 s2
      have g4 := hn _ s1 s2
      rw [s3] at g1 g2 g3 g4
      have hf24 : f < 24 := by omega
      have go : ∀ x c, x = bsI (tkP X nc nm F q (f + 1)) → VS G M_Fa_leastFreeName 2 70 88 [(0, .ref (ad 5 4)), (1, .int (nI (cntB (rtC X nc nm) q))), (2, .int (bsI (rlT X nc (mjB X nc nm q)))), (3, .int x), (4, .int (nI f)), (5, .int c)] [] nc nm ad X Z L 0 0 (sRet (some (.int (nI (lF (tkC X nc nm F q) 26 0)))) X Z L) := by
        intro x c hx
        subst hx
        refine s_iincw (w := 1) d_Fa_leastFreeName_88 rfl (by decide) (by decide) rfl ?_
        refine s_goto (tgt := 16) d_Fa_leastFreeName_91 (by decide) ?_
        rw [nI_1]
        exact s_keep 5 rfl (ih (f + 1) (by omega))
      have tail : ∀ c : Bool, c = ckB X nc nm q (sel (rtC X nc nm) nm f) → VS G M_Fa_leastFreeName 2 70 58 [(0, .ref (ad 5 4)), (1, .int (nI (cntB (rtC X nc nm) q))), (2, .int (bsI (rlT X nc (mjB X nc nm q)))), (3, .int (bsI (tkP X nc nm F q f))), (4, .int (nI f))] [.int (bI c)] nc nm ad X Z L 0 0 (sRet (some (.int (nI (lF (tkC X nc nm F q) 26 0)))) X Z L) := by
        intro c hc
        refine s_istore d_Fa_leastFreeName_58 (by decide) rfl ?_
        refine s_iload d_Fa_leastFreeName_60 rfl ?_
        cases c with
        | false =>
          refine s_if_eq (tgt := 88) d_Fa_leastFreeName_62 (by decide) (fun _ => ?_) (fun c => absurd (rfl) c)
          refine go _ _ (bs_congr (fun v _ => ?_))
          rw [tkP_step s1 s2 s3, ← hc, Bool.false_and, Bool.or_false]
        | true =>
          refine s_if_eq (tgt := 88) d_Fa_leastFreeName_62 (by decide) (fun c => absurd c (by decide)) (fun _ => ?_)
          refine s_aload_n d_Fa_leastFreeName_65 rfl (by first | rfl | exact vIsR_rf _) ?_
          refine s_get 5 4 d_Fa_leastFreeName_66 rfl rfl rfl i_Fa 5 (by decide) kf_Fa_28 (Or.inl rfl) rfl ?_
          refine s_iload d_Fa_leastFreeName_69 rfl ?_
          refine s_ald 4 (f) d_Fa_leastFreeName_71 (by decide) rfl (hf24) ?_
          rw [show Z (4 + 4) f = _ from g4]
          rcases hF _ s1 with e | ⟨u, hu, e⟩
          · rw [e]
            refine s_iconst (v := (-1)) d_Fa_leastFreeName_72 (by decide) ?_
            refine s_icmp_eq (tgt := 88) d_Fa_leastFreeName_73 (by decide) (fun _ => ?_) (fun c => absurd (rfl) c)
            refine go _ _ (bs_congr (fun v hv => ?_))
            rw [tkP_step s1 s2 s3, e, decide_eq_false (p := (-1 : Int32) = nI v) (fun z => nI_pos (n := v) (by omega) (by rw [← z]; decide)), Bool.and_false, Bool.or_false]
          · rw [e]
            refine s_iconst (v := (-1)) d_Fa_leastFreeName_72 (by decide) ?_
            refine s_icmp_eq (tgt := 88) d_Fa_leastFreeName_73 (by decide) (fun c => absurd c ((show ¬ nI u = -1 from fun z => nI_pos (n := u) (by omega) (by rw [z]; decide)))) (fun _ => ?_)
            refine s_iload_n d_Fa_leastFreeName_76 rfl ?_
            refine s_iconst (v := 1) d_Fa_leastFreeName_77 (by decide) ?_
            refine s_aload_n d_Fa_leastFreeName_78 rfl (by first | rfl | exact vIsR_rf _) ?_
            refine s_get 5 4 d_Fa_leastFreeName_79 rfl rfl rfl i_Fa 5 (by decide) kf_Fa_28 (Or.inl rfl) rfl ?_
            refine s_iload d_Fa_leastFreeName_82 rfl ?_
            refine s_ald 4 (f) d_Fa_leastFreeName_84 (by decide) rfl (hf24) ?_
            rw [show Z (4 + 4) f = _ from g4, e]
            refine s_ishl d_Fa_leastFreeName_85 ?_
            refine s_ior d_Fa_leastFreeName_86 ?_
            rw [bs_one (by omega), bs_or]
            refine s_istore_n d_Fa_leastFreeName_87 (by decide) rfl ?_
            refine go _ _ (bs_congr (fun v hv => ?_))
            rw [tkP_step s1 s2 s3, ← hc, Bool.true_and, e]
            congr 1
            rw [decide_eq_decide, nI_eq (by omega) (by omega)]
            exact eq_comm
      refine s_iload d_Fa_leastFreeName_16 rfl ?_
      refine s_aload_n d_Fa_leastFreeName_18 rfl (by first | rfl | exact vIsR_rf _) ?_
      refine s_get 5 4 d_Fa_leastFreeName_19 rfl rfl rfl i_Fa 7 (by decide) kf_Fa_35 (Or.inl rfl) rfl ?_
      rw [hzf.1]
      refine s_icmp_ge (tgt := 94) d_Fa_leastFreeName_22 (by decide) (fun c => absurd c (nI_ge (by omega) (by omega))) (fun _ => ?_)
      refine s_aload_n d_Fa_leastFreeName_25 rfl (by first | rfl | exact vIsR_rf _) ?_
      refine s_get 5 4 d_Fa_leastFreeName_26 rfl rfl rfl i_Fa 3 (by decide) kf_Fa_22 (Or.inl rfl) rfl ?_
      refine s_iload d_Fa_leastFreeName_29 rfl ?_
      refine s_ald 2 (f) d_Fa_leastFreeName_31 (by decide) rfl (hf24) ?_
      rw [show Z (4 + 2) f = _ from g2]
      refine s_aload_n d_Fa_leastFreeName_32 rfl (by first | rfl | exact vIsR_rf _) ?_
      refine s_get 5 4 d_Fa_leastFreeName_33 rfl rfl rfl i_Fa 3 (by decide) kf_Fa_22 (Or.inl rfl) rfl ?_
      refine s_iload_n d_Fa_leastFreeName_36 rfl ?_
      refine s_ald 2 ((cntB (rtC X nc nm) q)) d_Fa_leastFreeName_37 (by decide) rfl (show cntB (rtC X nc nm) q < 24 by omega) ?_
      rw [show Z (4 + 2) (cntB (rtC X nc nm) q) = _ from q6]
      by_cases e1 : X 4 (sel (rtC X nc nm) nm f) = X 4 q
      · refine s_icmp_ne (tgt := 57) d_Fa_leastFreeName_38 (by decide) (fun c => absurd (e1) c) (fun _ => ?_)
        refine s_aload_n d_Fa_leastFreeName_41 rfl (by first | rfl | exact vIsR_rf _) ?_
        refine s_get 5 4 d_Fa_leastFreeName_42 rfl rfl rfl i_Fa 4 (by decide) kf_Fa_25 (Or.inl rfl) rfl ?_
        refine s_iload d_Fa_leastFreeName_45 rfl ?_
        refine s_ald 3 (f) d_Fa_leastFreeName_47 (by decide) rfl (hf24) ?_
        refine s_iload_n d_Fa_leastFreeName_48 rfl ?_
        rw [show Z (4 + 3) f = _ from g3]
        refine s_iand d_Fa_leastFreeName_49 ?_
        rw [bs_and]
        cases ha : anyB (fun d => mjB X nc nm (sel (rtC X nc nm) nm f) d && rlT X nc (mjB X nc nm q) d) 32 with
        | false =>
          refine s_if_eq (tgt := 57) d_Fa_leastFreeName_50 (by decide) (fun _ => ?_) (fun c => absurd (bs_ne0.mpr ha) c)
          refine s_iconst (v := 0) d_Fa_leastFreeName_57 (by decide) ?_
          exact tail false (by unfold ckB; rw [ha, Bool.and_false])
        | true =>
          refine s_if_eq (tgt := 57) d_Fa_leastFreeName_50 (by decide) (fun c => absurd c ((fun z => by rw [bs_ne0.mp z] at ha; cases ha))) (fun _ => ?_)
          refine s_iconst (v := 1) d_Fa_leastFreeName_53 (by decide) ?_
          refine s_goto (tgt := 58) d_Fa_leastFreeName_54 (by decide) ?_
          exact tail true (by unfold ckB; rw [ha, decide_eq_true e1]; rfl)
      · refine s_icmp_ne (tgt := 57) d_Fa_leastFreeName_38 (by decide) (fun _ => ?_) (fun c => absurd c (e1))
        refine s_iconst (v := 0) d_Fa_leastFreeName_57 (by decide) ?_
        exact tail false (by unfold ckB; rw [decide_eq_false e1, Bool.false_and])
  refine s_aload_n d_Fa_leastFreeName_0 rfl (by first | rfl | exact vIsR_rf _) ?_
  refine s_aload_n d_Fa_leastFreeName_1 rfl (by first | rfl | exact vIsR_rf _) ?_
  refine s_get 5 4 d_Fa_leastFreeName_2 rfl rfl rfl i_Fa 4 (by decide) kf_Fa_25 (Or.inl rfl) rfl ?_
  refine s_iload_n d_Fa_leastFreeName_5 rfl ?_
  refine s_ald 3 ((cntB (rtC X nc nm) q)) d_Fa_leastFreeName_6 (by decide) rfl (show cntB (rtC X nc nm) q < 24 by omega) ?_
  rw [show Z (4 + 3) (cntB (rtC X nc nm) q) = _ from q7]
  refine s_callV1r (M1 := M_Fa_relatedTo) 5 4 d_Fa_leastFreeName_7 rfl rfl rfl km_Fa_129 kI_Fa_relatedTo ks_Fa_Fa_relatedTo (by decide) (by first | rfl | exact vRf_cat _) (by decide) kM_Fa_relatedTo ki_Fa (by decide) (by decide +kernel) (c_Fa_relatedTo h8 hL hzr) ?_
  refine s_istore_n d_Fa_leastFreeName_10 (by decide) rfl ?_
  refine s_iconst (v := 0) d_Fa_leastFreeName_11 (by decide) ?_
  refine s_istore_n d_Fa_leastFreeName_12 (by decide) rfl ?_
  refine s_iconst (v := 0) d_Fa_leastFreeName_13 (by decide) ?_
  refine s_istore d_Fa_leastFreeName_14 (by decide) rfl ?_
  rw [bs_0]
  have := l1 (cntB (rtC X nc nm) nm) 0 (by omega)
  rw [show bsI (tkP X nc nm F q 0) = bsI (fun _ => false) from bs_congr (fun v _ => anyB_f (fun g _ => by rw [decide_eq_false (Nat.not_lt_zero _), Bool.and_false, Bool.false_and]))] at this
  exact this
theorem zFa_w8 {s : Nat} {g v : Int32} (hz : zFa X nc nm g Z) : zFa X nc nm g (mW Z 8 s v) := by
  obtain ⟨h1, h2, h3, h4⟩ := hz
  refine ⟨⟨fun c hc => by rw [mW_k (by decide)]; exact h1.1 c hc, by rw [mW_k (by decide)]; exact h1.2.1, by rw [mW_k (by decide)]; exact h1.2.2⟩, fun c hc => by rw [mW_k (by decide)]; exact h2 c hc, ⟨by rw [mW_k (by decide)]; exact h3.1, fun q a b => ?_⟩, fun q a b => by rw [mW_k (by decide)]; exact h4 q a b⟩
  rw [mW_k (by decide), mW_k (by decide), mW_k (by decide)]
  exact h3.2 q a b
theorem c_Fa_giveNames {g : Int32} (hw : wW X nc nm) (hN : ∀ m, m < nm → ∃ v, v < 26 ∧ X 3 m = nI v) (hL : cR X nc nm L) (hz : zFa X nc nm g Z) : VS G M_Fa_giveNames 3 110 0 [(0, .ref (ad 5 4))] [] nc nm ad X Z L 0 0 (fun r X' Z' L' => r = .inl none ∧ X' = X ∧ L' = L ∧ zFa X nc nm g Z' ∧ zNew X nc nm (frC X nc nm nm) Z') := by
  have h8 := hw.1.1
  have h24 := hw.2.1
  have hle := cntB_le (rtC X nc nm) nm
  have l2 : ∀ k f p (Z : Nat → Nat → Int32), f + k = cntB (rtC X nc nm) nm → p ≤ nm → cntB (rtC X nc nm) p = f → zFa X nc nm g Z → zNew X nc nm (frC X nc nm p) Z → VS G M_Fa_giveNames 3 110 43 [(0, .ref (ad 5 4)), (1, .int (nI f))] [] nc nm ad X Z L 0 0 (fun r X' Z' L' => r = .inl none ∧ X' = X ∧ L' = L ∧ zFa X nc nm g Z' ∧ zNew X nc nm (frC X nc nm nm) Z') := by
    intro k
    induction k with
    | zero =>
      intro f p Z hf hp hpc hz hn
      have e := frC_stay (X := X) (nc := nc) (nm := nm) (p := p) (k := nm - p) (by rw [show p + (nm - p) = nm by omega]; omega)
      rw [show p + (nm - p) = nm by omega] at e
      refine s_iload_n d_Fa_giveNames_43 rfl ?_
      refine s_aload_n d_Fa_giveNames_44 rfl (by first | rfl | exact vIsR_rf _) ?_
      refine s_get 5 4 d_Fa_giveNames_45 rfl rfl rfl i_Fa 7 (by decide) kf_Fa_35 (Or.inl rfl) rfl ?_
      rw [hz.2.2.1.1]
      refine s_icmp_ge (tgt := 77) d_Fa_giveNames_48 (by decide) (fun _ => ?_) (fun c => absurd (nI_le (by omega) (by omega)) c)
      exact s_vret d_Fa_giveNames_77 rfl ⟨rfl, rfl, rfl, hz, by rw [e]; exact hn⟩
    | succ k ih =>
      intro f p Z hf hp hpc hz hn
      obtain ⟨s1, s2, s3⟩ := sel_onto (sb := rtC X nc nm) (n := nm) (j := f) (by omega)
      generalize sel (rtC X nc nm) nm f = q at s1 s2 s3
      have hpq : p ≤ q := by
        rcases Nat.lt_or_ge q p with z | z
        · have := cntB_step z s2; omega
        · exact z
      have e := frC_stay (X := X) (nc := nc) (nm := nm) (p := p) (k := q - p) (by rw [show p + (q - p) = q by omega]; omega)
      rw [show p + (q - p) = q by omega] at e
      have hf24 : f < 24 := by omega
      have hq1 : cntB (rtC X nc nm) (q + 1) = f + 1 := by show cntB _ q + _ = _; rw [s2, s3]; rfl
      have h9 := hz.2.2.2 q s1 s2
      rw [s3] at h9
      have hkf : anyB (fun p => decide (roN X nc nm p = q) && kN X p) nm = kfC X nc nm q := rfl
      rw [hkf] at h9
      refine s_iload_n d_Fa_giveNames_43 rfl ?_
      refine s_aload_n d_Fa_giveNames_44 rfl (by first | rfl | exact vIsR_rf _) ?_
      refine s_get 5 4 d_Fa_giveNames_45 rfl rfl rfl i_Fa 7 (by decide) kf_Fa_35 (Or.inl rfl) rfl ?_
      rw [hz.2.2.1.1]
      refine s_icmp_ge (tgt := 77) d_Fa_giveNames_48 (by decide) (fun c => absurd c (nI_ge (by omega) (by omega))) (fun _ => ?_)
      refine s_aload_n d_Fa_giveNames_51 rfl (by first | rfl | exact vIsR_rf _) ?_
      refine s_get 5 4 d_Fa_giveNames_52 rfl rfl rfl i_Fa 6 (by decide) kf_Fa_31 (Or.inl rfl) rfl ?_
      refine s_iload_n d_Fa_giveNames_55 rfl ?_
      refine s_zald 5 (f) d_Fa_giveNames_56 (by decide) rfl (hf24) ?_
      rw [show Z (4 + 5) f = _ from h9]
      cases hk : kfC X nc nm q with
      | true =>
        refine s_if_ne (tgt := 71) d_Fa_giveNames_57 (by decide) (fun _ => ?_) (fun c => absurd c (by decide))
        refine s_iincw (w := 1) d_Fa_giveNames_71 rfl (by decide) (by decide) rfl ?_
        refine s_goto (tgt := 43) d_Fa_giveNames_74 (by decide) ?_
        rw [nI_1]
        refine ih (f + 1) (q + 1) Z (by omega) (by omega) hq1 hz ?_
        rw [show frC X nc nm (q + 1) = frC X nc nm q from if_neg (by rw [hk]; simp), e]
        exact hn
      | false =>
        have hn2 : zNew X nc nm (frC X nc nm q) Z := by rw [e]; exact hn
        have hlf := c_Fa_leastFreeName (G := G) (ad := ad) hw hL hz hn2 (frC_rng h24 hN q) s1 s2
        rw [s3] at hlf
        refine s_if_ne (tgt := 71) d_Fa_giveNames_57 (by decide) (fun c => absurd (rfl) c) (fun _ => ?_)
        refine s_aload_n d_Fa_giveNames_60 rfl (by first | rfl | exact vIsR_rf _) ?_
        refine s_get 5 4 d_Fa_giveNames_61 rfl rfl rfl i_Fa 5 (by decide) kf_Fa_28 (Or.inl rfl) rfl ?_
        refine s_iload_n d_Fa_giveNames_64 rfl ?_
        refine s_aload_n d_Fa_giveNames_65 rfl (by first | rfl | exact vIsR_rf _) ?_
        refine s_iload_n d_Fa_giveNames_66 rfl ?_
        refine s_callV1r (M1 := M_Fa_leastFreeName) 5 4 d_Fa_giveNames_67 rfl rfl rfl km_Fa_80 kI_Fa_leastFreeName ks_Fa_Fa_leastFreeName (by decide) (by first | rfl | exact vRf_cat _) (by decide) kM_Fa_leastFreeName ki_Fa (by decide) (by decide +kernel) hlf ?_
        refine s_ast 4 (f) d_Fa_giveNames_70 (by decide) rfl (hf24) ?_
        refine s_iincw (w := 1) d_Fa_giveNames_71 rfl (by decide) (by decide) rfl ?_
        refine s_goto (tgt := 43) d_Fa_giveNames_74 (by decide) ?_
        rw [nI_1]
        refine ih (f + 1) (q + 1) _ (by omega) (by omega) hq1 (zFa_w8 hz) (fun x x1 x2 => ?_)
        rw [show frC X nc nm (q + 1) = va_up (frC X nc nm q) q (nI (lF (tkC X nc nm (frC X nc nm q) q) 26 0)) from if_pos (by rw [hk, s2]; rfl)]
        by_cases ex : x = q
        · subst ex; rw [s3, va_up_self]; exact mW_at
        · rw [va_up_ne _ _ ex]
          show mW Z 8 f _ 8 _ = _
          rw [mW_i (fun z => ex (cntB_inj x2 s2 (by omega)))]
          exact hn2 x x1 x2
  have l1 : ∀ k f (Z : Nat → Nat → Int32), f + k = cntB (rtC X nc nm) nm → zFa X nc nm g Z → (∀ q, q < nm → rtC X nc nm q = true → cntB (rtC X nc nm) q < f → Z 8 (cntB (rtC X nc nm) q) = f0C X nc nm q) → VS G M_Fa_giveNames 3 110 2 [(0, .ref (ad 5 4)), (1, .int (nI f))] [] nc nm ad X Z L 0 0 (fun r X' Z' L' => r = .inl none ∧ X' = X ∧ L' = L ∧ zFa X nc nm g Z' ∧ zNew X nc nm (frC X nc nm nm) Z') := by
    intro k
    induction k with
    | zero =>
      intro f Z hf hz hn
      refine s_iload_n d_Fa_giveNames_2 rfl ?_
      refine s_aload_n d_Fa_giveNames_3 rfl (by first | rfl | exact vIsR_rf _) ?_
      refine s_get 5 4 d_Fa_giveNames_4 rfl rfl rfl i_Fa 7 (by decide) kf_Fa_35 (Or.inl rfl) rfl ?_
      rw [hz.2.2.1.1]
      refine s_icmp_ge (tgt := 41) d_Fa_giveNames_7 (by decide) (fun _ => ?_) (fun c => absurd (nI_le (by omega) (by omega)) c)
      refine s_iconst (v := 0) d_Fa_giveNames_41 (by decide) ?_
      refine s_istore_n d_Fa_giveNames_42 (by decide) rfl ?_
      exact l2 (cntB (rtC X nc nm) nm) 0 0 Z (by omega) (by omega) rfl hz (fun q a b => hn q a b (by have := cntB_step a b; omega))
    | succ k ih =>
      intro f Z hf hz hn
      obtain ⟨s1, s2, s3⟩ := sel_onto (sb := rtC X nc nm) (n := nm) (j := f) (by omega)
      generalize sel (rtC X nc nm) nm f = q at s1 s2 s3
      have hf24 : f < 24 := by omega
      have h9 := hz.2.2.2 q s1 s2
      have h5 := (hz.2.2.1.2 q s1 s2).1
      rw [s3] at h9 h5
      have hkf : anyB (fun p => decide (roN X nc nm p = q) && kN X p) nm = kfC X nc nm q := rfl
      rw [hkf] at h9
      have go : ∀ x, x = f0C X nc nm q → VS G M_Fa_giveNames 3 110 34 [(0, .ref (ad 5 4)), (1, .int (nI f))] [.int x, .int (nI f), .ref (ad 5 (4 + 7))] nc nm ad X Z L 0 0 (fun r X' Z' L' => r = .inl none ∧ X' = X ∧ L' = L ∧ zFa X nc nm g Z' ∧ zNew X nc nm (frC X nc nm nm) Z') := by
        intro x hx
        refine s_ast 4 (f) d_Fa_giveNames_34 (by decide) rfl (hf24) ?_
        refine s_iincw (w := 1) d_Fa_giveNames_35 rfl (by decide) (by decide) rfl ?_
        refine s_goto (tgt := 2) d_Fa_giveNames_38 (by decide) ?_
        rw [nI_1]
        refine ih (f + 1) _ (by omega) (zFa_w8 hz) (fun p a b c => ?_)
        show mW Z 8 f x 8 _ = _
        by_cases e : p = q
        · subst e; rw [s3, mW_at, hx]
        · have : cntB (rtC X nc nm) p ≠ f := fun z => e (cntB_inj b s2 (by omega))
          rw [mW_i this]
          exact hn p a b (by omega)
      refine s_iload_n d_Fa_giveNames_2 rfl ?_
      refine s_aload_n d_Fa_giveNames_3 rfl (by first | rfl | exact vIsR_rf _) ?_
      refine s_get 5 4 d_Fa_giveNames_4 rfl rfl rfl i_Fa 7 (by decide) kf_Fa_35 (Or.inl rfl) rfl ?_
      rw [hz.2.2.1.1]
      refine s_icmp_ge (tgt := 41) d_Fa_giveNames_7 (by decide) (fun c => absurd c (nI_ge (by omega) (by omega))) (fun _ => ?_)
      refine s_aload_n d_Fa_giveNames_10 rfl (by first | rfl | exact vIsR_rf _) ?_
      refine s_get 5 4 d_Fa_giveNames_11 rfl rfl rfl i_Fa 5 (by decide) kf_Fa_28 (Or.inl rfl) rfl ?_
      refine s_iload_n d_Fa_giveNames_14 rfl ?_
      refine s_aload_n d_Fa_giveNames_15 rfl (by first | rfl | exact vIsR_rf _) ?_
      refine s_get 5 4 d_Fa_giveNames_16 rfl rfl rfl i_Fa 6 (by decide) kf_Fa_31 (Or.inl rfl) rfl ?_
      refine s_iload_n d_Fa_giveNames_19 rfl ?_
      refine s_zald 5 (f) d_Fa_giveNames_20 (by decide) rfl (hf24) ?_
      rw [show Z (4 + 5) f = _ from h9]
      cases hk : kfC X nc nm q with
      | false =>
        refine s_if_eq (tgt := 33) d_Fa_giveNames_21 (by decide) (fun _ => ?_) (fun c => absurd (rfl) c)
        refine s_iconst (v := (-1)) d_Fa_giveNames_33 (by decide) ?_
        exact go _ (by unfold f0C; rw [hk]; rfl)
      | true =>
        refine s_if_eq (tgt := 33) d_Fa_giveNames_21 (by decide) (fun c => absurd c (by decide)) (fun _ => ?_)
        refine s_aload_n d_Fa_giveNames_24 rfl (by first | rfl | exact vIsR_rf _) ?_
        refine s_get 5 4 d_Fa_giveNames_25 rfl rfl rfl i_Fa 2 (by decide) kf_Fa_19 (Or.inl rfl) rfl ?_
        refine s_iload_n d_Fa_giveNames_28 rfl ?_
        refine s_ald 1 (f) d_Fa_giveNames_29 (by decide) rfl (hf24) ?_
        rw [show Z (4 + 1) f = _ from h5]
        refine s_goto (tgt := 34) d_Fa_giveNames_30 (by decide) ?_
        exact go _ (by unfold f0C; rw [hk]; rfl)
  refine s_iconst (v := 0) d_Fa_giveNames_0 (by decide) ?_
  refine s_istore_n d_Fa_giveNames_1 (by decide) rfl ?_
  exact l1 (cntB (rtC X nc nm) nm) 0 Z (by omega) hz (fun q _ _ h => absurd h (Nat.not_lt_zero _))
end VFa3
