/-! The reference: keptFamily, clash, freeName. -/
section VM11
variable {G : vG} {am : Nat} {ad : Nat → Nat} {X : Nat → Nat → Int32} {Y : Nat → Int32}
theorem anyB_t {f : Nat → Bool} {n i : Nat} (hi : i < n) (h : f i = true) : anyB f n = true := anyB_iff.mpr ⟨i, hi, h⟩
theorem anyB_f {f : Nat → Bool} {n : Nat} (h : ∀ i, i < n → f i = false) : anyB f n = false := by
  cases e : anyB f n with
  | false => rfl
  | true =>
    obtain ⟨i, h1, h2⟩ := anyB_iff.mp e
    rw [h i h1] at h2; cases h2
theorem anyB_sf {f : Nat → Bool} {n : Nat} (h : f n = false) : anyB f (n + 1) = anyB f n := by show (_ || _) = _; rw [h, Bool.or_false]
theorem anyB_st {f : Nat → Bool} {n : Nat} (h : f n = true) : anyB f (n + 1) = true := by show (_ || _) = _; rw [h, Bool.or_true]
def rnZ (X : Nat → Nat → Int32) (U : tU) (lab : Nat → Nat) (n nm nc : Nat) (fr : Nat → Int32) (Z : Nat → Nat → Int32) : Prop :=
  uR Z U n nc ∧ (∀ x, x < n → Z 20 x = nI (lab x)) ∧ (∀ k i, k < 20 ∨ 25 < k → Z k i = X k i) ∧ ∀ g, g < nm → Z 24 g = fr g
theorem rnZ_same {U : tU} {lab : Nat → Nat} {n nm nc : Nat} {fr : Nat → Int32} {Z : Nat → Nat → Int32} (h : rnZ X U lab n nm nc fr Z) : sameS Z X := fun i => ⟨h.2.2.1 0 i (by omega), h.2.2.1 2 i (by omega), h.2.2.1 3 i (by omega), h.2.2.1 4 i (by omega)⟩
def kfB (X : Nat → Nat → Int32) (lab : Nat → Nat) (nm f : Nat) : Bool := anyB (fun m => decide (lab m = f) && kN X m) nm
theorem c_Mo_keptFamily {Z : Nat → Nat → Int32} {lab : Nat → Nat} {nm f : Nat} (hy : Y 17 = nI nm) (hm : nm ≤ 24) (hf : f < 200) (h20 : ∀ x, x < nm → Z 20 x = nI (lab x) ∧ lab x ≤ x) (h9 : ∀ m, m < nm → Z 9 m = bI (kN X m)) : VM G M_Mo_keptFamily 0 0 0 [(0, .ref am), (1, .int (nI f))] [] am ad Z Y (mRet (some (.int (bI (kfB X lab nm f)))) Z Y) := by
  have loop : ∀ r m, m + r = nm → (∀ q, q < m → (decide (lab q = f) && kN X q) = false) → VM G M_Mo_keptFamily 0 0 2 [(0, .ref am), (1, .int (nI f)), (2, .int (nI m))] [] am ad Z Y (mRet (some (.int (bI (kfB X lab nm f)))) Z Y) := by
    intro r
    induction r with
    | zero =>
      intro m hr hq
      refine m_iload_n d_Mo_keptFamily_2 rfl ?_
      refine m_aload_n d_Mo_keptFamily_3 rfl (by first | rfl | exact vIsR_rf _) ?_
      refine m_get d_Mo_keptFamily_4 17 (by decide) kf_Mo_103 rfl ?_
      refine m_icmp_ge (tgt := 37) d_Mo_keptFamily_7 (by decide) (fun _ => ?_) (fun c => absurd ((by rw [hy]; exact nI_le (by omega) (by omega))) c)
      rw [show kfB X lab nm f = false from anyB_f (fun i hi => hq i (by omega))]
      refine m_iconst (v := 0) d_Mo_keptFamily_37 (by decide) ?_
      exact m_iret d_Mo_keptFamily_38 rfl rfl ⟨rfl, rfl, rfl⟩
    | succ r ih =>
      intro m hr hq
      have hmn : m < nm := by omega
      have hm144 : m < 144 := by omega
      have hm24 : m < 24 := by omega
      have nx : (decide (lab m = f) && kN X m) = false → VM G M_Mo_keptFamily 0 0 31 [(0, .ref am), (1, .int (nI f)), (2, .int (nI m))] [] am ad Z Y (mRet (some (.int (bI (kfB X lab nm f)))) Z Y) := by
        intro h
        refine m_iincw (w := 1) d_Mo_keptFamily_31 rfl (by decide) (by decide) rfl ?_
        refine m_goto (tgt := 2) d_Mo_keptFamily_34 (by decide) ?_
        rw [nI_1]
        refine ih (m + 1) (by omega) (fun q hq2 => ?_)
        by_cases e : q = m
        · subst e; exact h
        · exact hq q (by omega)
      have hl := (h20 m hmn).2
      refine m_iload_n d_Mo_keptFamily_2 rfl ?_
      refine m_aload_n d_Mo_keptFamily_3 rfl (by first | rfl | exact vIsR_rf _) ?_
      refine m_get d_Mo_keptFamily_4 17 (by decide) kf_Mo_103 rfl ?_
      refine m_icmp_ge (tgt := 37) d_Mo_keptFamily_7 (by decide) (fun c => absurd c ((by rw [hy]; exact nI_ge (by omega) (by omega)))) (fun _ => ?_)
      refine m_aload_n d_Mo_keptFamily_10 rfl (by first | rfl | exact vIsR_rf _) ?_
      refine m_get d_Mo_keptFamily_11 20 (by decide) kf_Mo_59 rfl ?_
      refine m_iload_n d_Mo_keptFamily_14 rfl ?_
      refine m_ald d_Mo_keptFamily_15 m (by decide) (by exact rfl) (by exact hm144) ?_
      refine m_at 16 rfl ?_
      refine m_iload_n d_Mo_keptFamily_16 rfl ?_
      rw [(h20 m hmn).1]
      refine m_icmp_ne (tgt := 31) d_Mo_keptFamily_17 (by decide) (fun c_17 => ?_) (fun c_17 => ?_)
      · exact nx (by rw [decide_eq_false (fun e => c_17 (by rw [e])), Bool.false_and])
      · have e : lab m = f := (nI_eq (by omega) (by omega)).mp c_17
        refine m_aload_n d_Mo_keptFamily_20 rfl (by first | rfl | exact vIsR_rf _) ?_
        refine m_get d_Mo_keptFamily_21 9 (by decide) kf_Mo_37 rfl ?_
        refine m_iload_n d_Mo_keptFamily_24 rfl ?_
        refine m_zald d_Mo_keptFamily_25 m (by decide) (by exact rfl) (by exact hm24) ?_
        rw [h9 m hmn]
        cases hk : kN X m with
        | false =>
          refine m_if_eq (tgt := 31) d_Mo_keptFamily_26 (by decide) (fun _ => ?_) (fun c => absurd (rfl) c)
          exact nx (by rw [hk, Bool.and_false])
        | true =>
          refine m_if_eq (tgt := 31) d_Mo_keptFamily_26 (by decide) (fun c => absurd c (by decide)) (fun _ => ?_)
          refine m_iconst (v := 1) d_Mo_keptFamily_29 (by decide) ?_
          rw [show kfB X lab nm f = true from anyB_t hmn (by rw [decide_eq_true e, hk]; rfl)]
          exact m_iret d_Mo_keptFamily_30 rfl rfl ⟨rfl, rfl, rfl⟩
  refine m_iconst (v := 0) d_Mo_keptFamily_0 (by decide) ?_
  refine m_istore_n d_Mo_keptFamily_1 (by decide) rfl ?_
  exact loop nm 0 (by omega) (fun q hq => absurd hq (Nat.not_lt_zero q))
def clI (X : Nat → Nat → Int32) (U : tU) (lab : Nat → Nat) (g x y : Nat) : Bool := (decide (lab y = g) && decide ((U x).2.2 = (U y).2.2)) && rlS X (U x).1 (U y).1
def clB (X : Nat → Nat → Int32) (U : tU) (lab : Nat → Nat) (n f g : Nat) : Bool := anyB (fun x => decide (lab x = f) && anyB (clI X U lab g x) n) n
theorem c_Mo_clash {Z : Nat → Nat → Int32} {U : tU} {lab : Nat → Nat} {n nm nc f g : Nat} {fr : Nat → Int32} (hw : wP X nc) (hz : rnZ X U lab n nm nc fr Z) (hl : ∀ x, x < n → lab x ≤ x) (hn : n ≤ 144) (hf : f < 200) (hg : g < 200) : VM G M_Mo_clash 2 60 0 [(0, .ref am), (1, .int (nI f)), (2, .int (nI g)), (3, .int (nI n))] [] am ad Z Y (mRet (some (.int (bI (clB X U lab n f g)))) Z Y) := by
  have outer : ∀ r x, x + r = n → (∀ q, q < x → (decide (lab q = f) && anyB (clI X U lab g q) n) = false) → VM G M_Mo_clash 2 60 3 [(0, .ref am), (1, .int (nI f)), (2, .int (nI g)), (3, .int (nI n)), (4, .int (nI x))] [] am ad Z Y (mRet (some (.int (bI (clB X U lab n f g)))) Z Y) := by
    intro r
    induction r with
    | zero =>
      intro x hr hq
      refine m_iload d_Mo_clash_3 rfl ?_
      refine m_iload_n d_Mo_clash_5 rfl ?_
      refine m_icmp_ge (tgt := 92) d_Mo_clash_6 (by decide) (fun _ => ?_) (fun c => absurd (nI_le (by omega) (by omega)) c)
      rw [show clB X U lab n f g = false from anyB_f (fun i hi => hq i (by omega))]
      refine m_iconst (v := 0) d_Mo_clash_92 (by decide) ?_
      exact m_iret d_Mo_clash_93 rfl rfl ⟨rfl, rfl, rfl⟩
    | succ r ih =>
      intro x hr hq
      have hxn : x < n := by omega
      have hx144 : x < 144 := by omega
      have hlx := hl x hxn
      obtain ⟨x1, x2, x3, x4⟩ := hz.1 x hxn
      have nx : (decide (lab x = f) && anyB (clI X U lab g x) n) = false → VM G M_Mo_clash 2 60 86 [(0, .ref am), (1, .int (nI f)), (2, .int (nI g)), (3, .int (nI n)), (4, .int (nI x))] [] am ad Z Y (mRet (some (.int (bI (clB X U lab n f g)))) Z Y) := by
        intro h
        refine m_iincw (w := 1) d_Mo_clash_86 rfl (by decide) (by decide) rfl ?_
        refine m_goto (tgt := 3) d_Mo_clash_89 (by decide) ?_
        rw [nI_1]
        refine ih (x + 1) (by omega) (fun q hq2 => ?_)
        by_cases e : q = x
        · subst e; exact h
        · exact hq q (by omega)
      have inner : ∀ r y, y + r = n → (∀ q, q < y → clI X U lab g x q = false) → VM G M_Mo_clash 2 60 12 [(0, .ref am), (1, .int (nI f)), (2, .int (nI g)), (3, .int (nI n)), (4, .int (nI x)), (5, .int (nI y))] [] am ad Z Y (mRet (some (.int (bI (clB X U lab n f g)))) Z Y) := by
        intro r
        induction r with
        | zero =>
          intro y hr2 hq2
          refine m_iload d_Mo_clash_12 rfl ?_
          refine m_iload_n d_Mo_clash_14 rfl ?_
          refine m_icmp_ge (tgt := 86) d_Mo_clash_15 (by decide) (fun _ => ?_) (fun c => absurd (nI_le (by omega) (by omega)) c)
          exact m_keep 5 rfl (nx (by rw [anyB_f (fun i hi => hq2 i (by omega)), Bool.and_false]))
        | succ r ih2 =>
          intro y hr2 hq2
          have hyn : y < n := by omega
          have hy144 : y < 144 := by omega
          have hly := hl y hyn
          obtain ⟨y1, y2, y3, y4⟩ := hz.1 y hyn
          have nx2 : clI X U lab g x y = false → VM G M_Mo_clash 2 60 80 [(0, .ref am), (1, .int (nI f)), (2, .int (nI g)), (3, .int (nI n)), (4, .int (nI x)), (5, .int (nI y))] [] am ad Z Y (mRet (some (.int (bI (clB X U lab n f g)))) Z Y) := by
            intro h
            refine m_iincw (w := 1) d_Mo_clash_80 rfl (by decide) (by decide) rfl ?_
            refine m_goto (tgt := 12) d_Mo_clash_83 (by decide) ?_
            rw [nI_1]
            refine ih2 (y + 1) (by omega) (fun q hq3 => ?_)
            by_cases e : q = y
            · subst e; exact h
            · exact hq2 q (by omega)
          refine m_iload d_Mo_clash_12 rfl ?_
          refine m_iload_n d_Mo_clash_14 rfl ?_
          refine m_icmp_ge (tgt := 86) d_Mo_clash_15 (by decide) (fun c => absurd c (nI_ge (by omega) (by omega))) (fun _ => ?_)
          refine m_aload_n d_Mo_clash_18 rfl (by first | rfl | exact vIsR_rf _) ?_
          refine m_get d_Mo_clash_19 20 (by decide) kf_Mo_59 rfl ?_
          refine m_iload d_Mo_clash_22 rfl ?_
          refine m_ald d_Mo_clash_24 x (by decide) (by exact rfl) (by exact hx144) ?_
          refine m_iload_n d_Mo_clash_25 rfl ?_
          rw [hz.2.1 x hxn]
          refine m_icmp_ne (tgt := 86) d_Mo_clash_26 (by decide) (fun c_26 => ?_) (fun c_26 => ?_)
          · exact m_keep 5 rfl (nx (by rw [decide_eq_false (fun e => c_26 (by rw [e])), Bool.false_and]))
          · have ex : lab x = f := (nI_eq (by omega) (by omega)).mp c_26
            refine m_aload_n d_Mo_clash_29 rfl (by first | rfl | exact vIsR_rf _) ?_
            refine m_get d_Mo_clash_30 20 (by decide) kf_Mo_59 rfl ?_
            refine m_iload d_Mo_clash_33 rfl ?_
            refine m_ald d_Mo_clash_35 y (by decide) (by exact rfl) (by exact hy144) ?_
            refine m_iload_n d_Mo_clash_36 rfl ?_
            rw [hz.2.1 y hyn]
            refine m_icmp_ne (tgt := 80) d_Mo_clash_37 (by decide) (fun c_37 => ?_) (fun c_37 => ?_)
            · exact nx2 (by simp only [clI]; rw [decide_eq_false (fun e => c_37 (by rw [e])), Bool.false_and, Bool.false_and])
            · have ey : lab y = g := (nI_eq (by omega) (by omega)).mp c_37
              refine m_aload_n d_Mo_clash_40 rfl (by first | rfl | exact vIsR_rf _) ?_
              refine m_get d_Mo_clash_41 23 (by decide) kf_Mo_68 rfl ?_
              refine m_iload d_Mo_clash_44 rfl ?_
              refine m_ald d_Mo_clash_46 x (by decide) (by exact rfl) (by exact hx144) ?_
              refine m_aload_n d_Mo_clash_47 rfl (by first | rfl | exact vIsR_rf _) ?_
              refine m_get d_Mo_clash_48 23 (by decide) kf_Mo_68 rfl ?_
              refine m_iload d_Mo_clash_51 rfl ?_
              refine m_ald d_Mo_clash_53 y (by decide) (by exact rfl) (by exact hy144) ?_
              rw [x4, y4]
              refine m_icmp_ne (tgt := 80) d_Mo_clash_54 (by decide) (fun c_54 => ?_) (fun c_54 => ?_)
              · exact nx2 (by simp only [clI]; rw [decide_eq_false c_54, Bool.and_false, Bool.false_and])
              · refine m_aload_n d_Mo_clash_57 rfl (by first | rfl | exact vIsR_rf _) ?_
                refine m_aload_n d_Mo_clash_58 rfl (by first | rfl | exact vIsR_rf _) ?_
                refine m_get d_Mo_clash_59 21 (by decide) kf_Mo_62 rfl ?_
                refine m_iload d_Mo_clash_62 rfl ?_
                refine m_ald d_Mo_clash_64 x (by decide) (by exact rfl) (by exact hx144) ?_
                refine m_aload_n d_Mo_clash_65 rfl (by first | rfl | exact vIsR_rf _) ?_
                refine m_get d_Mo_clash_66 21 (by decide) kf_Mo_62 rfl ?_
                refine m_iload d_Mo_clash_69 rfl ?_
                refine m_at 71 rfl ?_
                refine m_ald d_Mo_clash_71 y (by decide) (by exact rfl) (by exact hy144) ?_
                rw [x1, y1]
                refine m_callV2r (M1 := M_Mo_related) d_Mo_clash_72 km_Mo_155 kI_Mo_related ks_Mo_Mo_related (by decide) (by first | rfl | exact vRf_cat _) (by first | rfl | exact vRf_cat _) (by decide) kM_Mo_related ki_Mo (by decide) (by decide +kernel) (c_Mo_related (nc := nc) (sameS_wP (rnZ_same hz) hw) x2 y2) ?_
                rw [sameS_above (rnZ_same hz), sameS_above (rnZ_same hz)]
                have e : clI X U lab g x y = (aboveS X (U x).1 9 (U y).1 || aboveS X (U y).1 9 (U x).1) := by simp [clI, rlS, ey, c_54]
                rw [← e]
                cases hb : clI X U lab g x y with
                | false =>
                  refine m_if_eq (tgt := 80) d_Mo_clash_75 (by decide) (fun _ => ?_) (fun c => absurd (rfl) c)
                  exact nx2 hb
                | true =>
                  refine m_if_eq (tgt := 80) d_Mo_clash_75 (by decide) (fun c => absurd c (by decide)) (fun _ => ?_)
                  refine m_iconst (v := 1) d_Mo_clash_78 (by decide) ?_
                  rw [show clB X U lab n f g = true from anyB_t hxn (by rw [decide_eq_true ex, Bool.true_and]; exact anyB_t hyn hb)]
                  exact m_iret d_Mo_clash_79 rfl rfl ⟨rfl, rfl, rfl⟩
      refine m_iload d_Mo_clash_3 rfl ?_
      refine m_iload_n d_Mo_clash_5 rfl ?_
      refine m_icmp_ge (tgt := 92) d_Mo_clash_6 (by decide) (fun c => absurd c (nI_ge (by omega) (by omega))) (fun _ => ?_)
      refine m_iconst (v := 0) d_Mo_clash_9 (by decide) ?_
      refine m_istore d_Mo_clash_10 (by decide) rfl ?_
      exact inner n 0 (by omega) (fun q hq => absurd hq (Nat.not_lt_zero q))
  refine m_iconst (v := 0) d_Mo_clash_0 (by decide) ?_
  refine m_istore d_Mo_clash_1 (by decide) rfl ?_
  exact outer n 0 (by omega) (fun q hq => absurd hq (Nat.not_lt_zero q))
/-- the first number that p does not take -/
def lF (p : Nat → Bool) : Nat → Nat → Nat
  | 0, v => v
  | k + 1, v => if p v then lF p k (v + 1) else v
def tkB (X : Nat → Nat → Int32) (U : tU) (lab : Nat → Nat) (nm n : Nat) (fr : Nat → Int32) (f v : Nat) : Bool := anyB (fun g => (decide (g ≠ f) && decide (lab g = g)) && (decide (fr g = nI v) && clB X U lab n f g)) nm
theorem pigeon {N : Nat} {fr : Nat → Int32} : ∀ v, v < 2 ^ 31 → (∀ u, u < v → ∃ g, g < N ∧ fr g = nI u) → v ≤ cntB (fun g => anyB (fun u => decide (fr g = nI u)) v) N
  | 0, _, _ => Nat.zero_le _
  | v + 1, h0, h => by
    have h1 := pigeon v (by omega) (fun u hu => h u (by omega))
    obtain ⟨g, hg, e⟩ := h v (by omega)
    have h2 := cntB_lt (f := fun g => anyB (fun u => decide (fr g = nI u)) v) (g := fun g => anyB (fun u => decide (fr g = nI u)) (v + 1)) (fun i hi => by show (_ || _) = true; rw [hi]; rfl) hg (anyB_f (fun u hu => decide_eq_false (fun z => by
      rw [e] at z
      have := (nI_eq (by omega) (by omega)).mp z
      omega))) (anyB_st (decide_eq_true e))
    omega
theorem c_Mo_freeName {Z : Nat → Nat → Int32} {U : tU} {lab : Nat → Nat} {n nm nc f : Nat} {fr : Nat → Int32} (hw : wP X nc) (hz : rnZ X U lab n nm nc fr Z) (hl : ∀ x, x < n → lab x ≤ x) (hn : n ≤ 144) (hnm : nm ≤ n) (h24 : nm ≤ 24) (hf : f < nm) (hy : Y 17 = nI nm) : VM G M_Mo_freeName 3 90 0 [(0, .ref am), (1, .int (nI f)), (2, .int (nI n))] [] am ad Z Y (mRet (some (.int (nI (lF (tkB X U lab nm n fr f) 25 0)))) Z Y) := by
  have loop : ∀ k v, v + k = 25 → (∀ u, u < v → tkB X U lab nm n fr f u = true) → VM G M_Mo_freeName 3 90 5 [(0, .ref am), (1, .int (nI f)), (2, .int (nI n)), (3, .int (nI v)), (4, .int 1)] [] am ad Z Y (mRet (some (.int (nI (lF (tkB X U lab nm n fr f) k v)))) Z Y) := by
    intro k
    induction k with
    | zero =>
      intro v hv ht
      exfalso
      have h1 := pigeon (N := nm) (fr := fr) v (by omega) (fun u hu => by
        obtain ⟨g, hg, e⟩ := anyB_iff.mp (ht u hu)
        simp only [Bool.and_eq_true, decide_eq_true_eq] at e
        exact ⟨g, hg, e.2.1⟩)
      have h2 := cntB_le (fun g => anyB (fun u => decide (fr g = nI u)) v) nm
      omega
    | succ k ih =>
      intro v hv ht
      have inner : ∀ r g, g + r = nm → VM G M_Mo_freeName 3 90 16 [(0, .ref am), (1, .int (nI f)), (2, .int (nI n)), (3, .int (nI v)), (4, .int (bI (anyB (fun g => (decide (g ≠ f) && decide (lab g = g)) && (decide (fr g = nI v) && clB X U lab n f g)) g))), (5, .int (nI g))] [] am ad Z Y (mRet (some (.int (nI (lF (tkB X U lab nm n fr f) (k + 1) v)))) Z Y) := by
        intro r
        induction r with
        | zero =>
          intro g hg
          have hgn : g = nm := by omega
          subst hgn
          refine m_iload d_Mo_freeName_16 rfl ?_
          refine m_aload_n d_Mo_freeName_18 rfl (by first | rfl | exact vIsR_rf _) ?_
          refine m_get d_Mo_freeName_19 17 (by decide) kf_Mo_103 rfl ?_
          refine m_icmp_ge (tgt := 74) d_Mo_freeName_22 (by decide) (fun _ => ?_) (fun c => absurd ((by rw [hy]; exact nI_le (by omega) (by omega))) c)
          have e : anyB (fun q => (decide (q ≠ f) && decide (lab q = q)) && (decide (fr q = nI v) && clB X U lab n f q)) g = tkB X U lab g n fr f v := rfl
          rw [e]
          cases ht2 : tkB X U lab g n fr f v with
          | false =>
            refine m_iload d_Mo_freeName_74 rfl ?_
            refine m_if_eq (tgt := 5) d_Mo_freeName_76 (by decide) (fun _ => ?_) (fun c => absurd (rfl) c)
            refine m_iload d_Mo_freeName_5 rfl ?_
            refine m_if_eq (tgt := 85) d_Mo_freeName_7 (by decide) (fun _ => ?_) (fun c => absurd (rfl) c)
            rw [show lF (tkB X U lab g n fr f) (k + 1) v = v by simp [lF, ht2]]
            refine m_iload_n d_Mo_freeName_85 rfl ?_
            exact m_iret d_Mo_freeName_86 rfl rfl ⟨rfl, rfl, rfl⟩
          | true =>
            refine m_iload d_Mo_freeName_74 rfl ?_
            refine m_if_eq (tgt := 5) d_Mo_freeName_76 (by decide) (fun c => absurd c (by decide)) (fun _ => ?_)
            refine m_iincw (w := 1) d_Mo_freeName_79 rfl (by decide) (by decide) rfl ?_
            refine m_goto (tgt := 5) d_Mo_freeName_82 (by decide) ?_
            rw [nI_1, show lF (tkB X U lab g n fr f) (k + 1) v = lF (tkB X U lab g n fr f) k (v + 1) by simp [lF, ht2]]
            refine m_keep 5 rfl (ih (v + 1) (by omega) (fun u hu => ?_))
            by_cases e : u = v
            · subst e; exact ht2
            · exact ht u (by omega)
        | succ r ih2 =>
          intro g hg
          have hgn : g < nm := by omega
          have hg144 : g < 144 := by omega
          have hlg := hl g (by omega)
          have nx := ih2 (g + 1) (by omega)
          have no : ((decide (g ≠ f) && decide (lab g = g)) && (decide (fr g = nI v) && clB X U lab n f g)) = false → VM G M_Mo_freeName 3 90 68 [(0, .ref am), (1, .int (nI f)), (2, .int (nI n)), (3, .int (nI v)), (4, .int (bI (anyB (fun g => (decide (g ≠ f) && decide (lab g = g)) && (decide (fr g = nI v) && clB X U lab n f g)) g))), (5, .int (nI g))] [] am ad Z Y (mRet (some (.int (nI (lF (tkB X U lab nm n fr f) (k + 1) v)))) Z Y) := by
            intro h
            refine m_iincw (w := 1) d_Mo_freeName_68 rfl (by decide) (by decide) rfl ?_
            refine m_goto (tgt := 16) d_Mo_freeName_71 (by decide) ?_
            rw [nI_1]
            rw [show anyB (fun g => (decide (g ≠ f) && decide (lab g = g)) && (decide (fr g = nI v) && clB X U lab n f g)) (g + 1) = anyB (fun g => (decide (g ≠ f) && decide (lab g = g)) && (decide (fr g = nI v) && clB X U lab n f g)) g from anyB_sf h] at nx
            exact nx
          refine m_iload d_Mo_freeName_16 rfl ?_
          refine m_aload_n d_Mo_freeName_18 rfl (by first | rfl | exact vIsR_rf _) ?_
          refine m_get d_Mo_freeName_19 17 (by decide) kf_Mo_103 rfl ?_
          refine m_icmp_ge (tgt := 74) d_Mo_freeName_22 (by decide) (fun c => absurd c ((by rw [hy]; exact nI_ge (by omega) (by omega)))) (fun _ => ?_)
          refine m_iload d_Mo_freeName_25 rfl ?_
          refine m_iload_n d_Mo_freeName_27 rfl ?_
          refine m_icmp_eq (tgt := 68) d_Mo_freeName_28 (by decide) (fun c_28 => ?_) (fun c_28 => ?_)
          · exact no (by rw [decide_eq_false (fun z => z ((nI_eq (by omega) (by omega)).mp c_28)), Bool.false_and, Bool.false_and])
          · have ef : g ≠ f := fun z => c_28 (by rw [z])
            refine m_aload_n d_Mo_freeName_31 rfl (by first | rfl | exact vIsR_rf _) ?_
            refine m_get d_Mo_freeName_32 20 (by decide) kf_Mo_59 rfl ?_
            refine m_iload d_Mo_freeName_35 rfl ?_
            refine m_ald d_Mo_freeName_37 g (by decide) (by exact rfl) (by exact hg144) ?_
            refine m_iload d_Mo_freeName_38 rfl ?_
            rw [hz.2.1 g (by omega)]
            refine m_icmp_ne (tgt := 68) d_Mo_freeName_40 (by decide) (fun c_40 => ?_) (fun c_40 => ?_)
            · exact no (by rw [decide_eq_false (p := lab g = g) (fun z => c_40 (by rw [z])), Bool.and_false, Bool.false_and])
            · have eg : lab g = g := (nI_eq (by omega) (by omega)).mp c_40
              refine m_aload_n d_Mo_freeName_43 rfl (by first | rfl | exact vIsR_rf _) ?_
              refine m_get d_Mo_freeName_44 24 (by decide) kf_Mo_71 rfl ?_
              refine m_iload d_Mo_freeName_47 rfl ?_
              refine m_ald d_Mo_freeName_49 g (by decide) (by exact rfl) (by exact hg144) ?_
              refine m_iload_n d_Mo_freeName_50 rfl ?_
              rw [hz.2.2.2 g hgn]
              refine m_icmp_ne (tgt := 68) d_Mo_freeName_51 (by decide) (fun c_51 => ?_) (fun c_51 => ?_)
              · exact no (by rw [decide_eq_false c_51, Bool.false_and, Bool.and_false])
              · refine m_aload_n d_Mo_freeName_54 rfl (by first | rfl | exact vIsR_rf _) ?_
                refine m_iload_n d_Mo_freeName_55 rfl ?_
                refine m_iload d_Mo_freeName_56 rfl ?_
                refine m_iload_n d_Mo_freeName_58 rfl ?_
                refine m_callV3r (M1 := M_Mo_clash) d_Mo_freeName_59 km_Mo_158 kI_Mo_clash ks_Mo_Mo_clash (by decide) (by first | rfl | exact vRf_cat _) (by first | rfl | exact vRf_cat _) (by first | rfl | exact vRf_cat _) (by decide) kM_Mo_clash ki_Mo (by decide) (by decide +kernel) (c_Mo_clash (n := n) (nm := nm) (f := f) (g := g) hw hz hl hn (by omega) (by omega)) ?_
                cases hc : clB X U lab n f g with
                | false =>
                  refine m_if_eq (tgt := 68) d_Mo_freeName_62 (by decide) (fun _ => ?_) (fun c => absurd (rfl) c)
                  exact no (by rw [hc, Bool.and_false, Bool.and_false])
                | true =>
                  refine m_if_eq (tgt := 68) d_Mo_freeName_62 (by decide) (fun c => absurd c (by decide)) (fun _ => ?_)
                  refine m_iconst (v := 1) d_Mo_freeName_65 (by decide) ?_
                  refine m_istore d_Mo_freeName_66 (by decide) rfl ?_
                  refine m_iincw (w := 1) d_Mo_freeName_68 rfl (by decide) (by decide) rfl ?_
                  refine m_goto (tgt := 16) d_Mo_freeName_71 (by decide) ?_
                  rw [nI_1]
                  rw [show anyB (fun g => (decide (g ≠ f) && decide (lab g = g)) && (decide (fr g = nI v) && clB X U lab n f g)) (g + 1) = true from anyB_st (by simp [ef, eg, c_51, hc])] at nx
                  exact nx
      refine m_iload d_Mo_freeName_5 rfl ?_
      refine m_if_eq (tgt := 85) d_Mo_freeName_7 (by decide) (fun c => absurd c (by decide)) (fun _ => ?_)
      refine m_iconst (v := 0) d_Mo_freeName_10 (by decide) ?_
      refine m_istore d_Mo_freeName_11 (by decide) rfl ?_
      refine m_iconst (v := 0) d_Mo_freeName_13 (by decide) ?_
      refine m_istore d_Mo_freeName_14 (by decide) rfl ?_
      exact inner nm 0 (by omega)
  refine m_iconst (v := 0) d_Mo_freeName_0 (by decide) ?_
  refine m_istore_n d_Mo_freeName_1 (by decide) rfl ?_
  refine m_iconst (v := 1) d_Mo_freeName_2 (by decide) ?_
  refine m_istore d_Mo_freeName_3 (by decide) rfl ?_
  exact loop 25 0 (by omega) (fun u hu => absurd hu (Nat.not_lt_zero u))
end VM11
