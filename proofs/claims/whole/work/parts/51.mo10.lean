/-! The reference: member, alike, gather. -/
section VM10
variable {G : vG} {am : Nat} {ad : Nat → Nat} {X : Nat → Nat → Int32} {Y : Nat → Int32}
def memX (X : Nat → Nat → Int32) (x : Nat) (k n r : Int32) : Nat → Nat → Int32 := mW (mW (mW (mW X 20 x (nI x)) 21 x k) 22 x n) 23 x r
theorem c_Mo_member {x : Nat} {k n r : Int32} (hx : x < 144) : VM G M_Mo_member 0 0 0 [(0, .ref am), (1, .int (nI x)), (2, .int k), (3, .int n), (4, .int r)] [] am ad X Y (mRet none (memX X x k n r) Y) := by
  refine m_aload_n d_Mo_member_0 rfl (by first | rfl | exact vIsR_rf _) ?_
  refine m_get d_Mo_member_1 20 (by decide) kf_Mo_59 rfl ?_
  refine m_iload_n d_Mo_member_4 rfl ?_
  refine m_iload_n d_Mo_member_5 rfl ?_
  refine m_ast d_Mo_member_6 x (by decide) (by exact rfl) (by exact hx) ?_
  refine m_aload_n d_Mo_member_7 rfl (by first | rfl | exact vIsR_rf _) ?_
  refine m_get d_Mo_member_8 21 (by decide) kf_Mo_62 rfl ?_
  refine m_iload_n d_Mo_member_11 rfl ?_
  refine m_at 12 rfl ?_
  refine m_iload_n d_Mo_member_12 rfl ?_
  refine m_ast d_Mo_member_13 x (by decide) (by exact rfl) (by exact hx) ?_
  refine m_aload_n d_Mo_member_14 rfl (by first | rfl | exact vIsR_rf _) ?_
  refine m_get d_Mo_member_15 22 (by decide) kf_Mo_65 rfl ?_
  refine m_iload_n d_Mo_member_18 rfl ?_
  refine m_iload_n d_Mo_member_19 rfl ?_
  refine m_ast d_Mo_member_20 x (by decide) (by exact rfl) (by exact hx) ?_
  refine m_aload_n d_Mo_member_21 rfl (by first | rfl | exact vIsR_rf _) ?_
  refine m_at 22 rfl ?_
  refine m_get d_Mo_member_22 23 (by decide) kf_Mo_68 rfl ?_
  refine m_iload_n d_Mo_member_25 rfl ?_
  refine m_iload d_Mo_member_26 rfl ?_
  refine m_ast d_Mo_member_28 x (by decide) (by exact rfl) (by exact hx) ?_
  exact m_vret d_Mo_member_29 rfl ⟨rfl, rfl, rfl⟩
def rlS (X : Nat → Nat → Int32) (k d : Nat) : Bool := aboveS X k 9 d || aboveS X d 9 k
abbrev tU : Type := Nat → Nat × Int32 × Int32
def alk (X : Nat → Nat → Int32) (U : tU) (x y : Nat) : Bool := (decide ((U x).2.1 = (U y).2.1) && decide ((U x).2.2 = (U y).2.2)) && rlS X (U x).1 (U y).1
theorem alk_symm {U : tU} {x y : Nat} (h : alk X U x y = true) : alk X U y x = true := by
  simp only [alk, rlS, Bool.and_eq_true, decide_eq_true_eq, Bool.or_eq_true] at h ⊢
  exact ⟨⟨h.1.1.symm, h.1.2.symm⟩, h.2.symm⟩
def uR (Z : Nat → Nat → Int32) (U : tU) (n nc : Nat) : Prop := ∀ z, z < n → Z 21 z = nI (U z).1 ∧ (U z).1 < nc ∧ Z 22 z = (U z).2.1 ∧ Z 23 z = (U z).2.2
theorem c_Mo_alike {Z : Nat → Nat → Int32} {U : tU} {n nc x y : Nat} (hs : sameS Z X) (hw : wP X nc) (hu : uR Z U n nc) (hn : n ≤ 144) (hx : x < n) (hy : y < n) : VM G M_Mo_alike 2 60 0 [(0, .ref am), (1, .int (nI x)), (2, .int (nI y))] [] am ad Z Y (mRet (some (.int (bI (alk X U x y)))) Z Y) := by
  have hx1 : x < 144 := by omega
  have hy1 : y < 144 := by omega
  obtain ⟨x1, x2, x3, x4⟩ := hu x hx
  obtain ⟨y1, y2, y3, y4⟩ := hu y hy
  have no : alk X U x y = false → VM G M_Mo_alike 2 60 53 [(0, .ref am), (1, .int (nI x)), (2, .int (nI y))] [] am ad Z Y (mRet (some (.int (bI (alk X U x y)))) Z Y) := by
    intro h
    rw [h]
    refine m_iconst (v := 0) d_Mo_alike_53 (by decide) ?_
    exact m_iret d_Mo_alike_54 rfl rfl ⟨rfl, rfl, rfl⟩
  refine m_aload_n d_Mo_alike_0 rfl (by first | rfl | exact vIsR_rf _) ?_
  refine m_get d_Mo_alike_1 22 (by decide) kf_Mo_65 rfl ?_
  refine m_iload_n d_Mo_alike_4 rfl ?_
  refine m_ald d_Mo_alike_5 x (by decide) (by exact rfl) (by exact hx1) ?_
  refine m_aload_n d_Mo_alike_6 rfl (by first | rfl | exact vIsR_rf _) ?_
  refine m_get d_Mo_alike_7 22 (by decide) kf_Mo_65 rfl ?_
  refine m_iload_n d_Mo_alike_10 rfl ?_
  refine m_ald d_Mo_alike_11 y (by decide) (by exact rfl) (by exact hy1) ?_
  rw [x3, y3]
  refine m_icmp_ne (tgt := 53) d_Mo_alike_12 (by decide) (fun c_12 => ?_) (fun c_12 => ?_)
  · exact no (by simp [alk, c_12])
  · refine m_aload_n d_Mo_alike_15 rfl (by first | rfl | exact vIsR_rf _) ?_
    refine m_get d_Mo_alike_16 23 (by decide) kf_Mo_68 rfl ?_
    refine m_iload_n d_Mo_alike_19 rfl ?_
    refine m_ald d_Mo_alike_20 x (by decide) (by exact rfl) (by exact hx1) ?_
    refine m_aload_n d_Mo_alike_21 rfl (by first | rfl | exact vIsR_rf _) ?_
    refine m_get d_Mo_alike_22 23 (by decide) kf_Mo_68 rfl ?_
    refine m_iload_n d_Mo_alike_25 rfl ?_
    refine m_ald d_Mo_alike_26 y (by decide) (by exact rfl) (by exact hy1) ?_
    rw [x4, y4]
    refine m_icmp_ne (tgt := 53) d_Mo_alike_27 (by decide) (fun c_27 => ?_) (fun c_27 => ?_)
    · exact no (by simp [alk, c_27])
    · refine m_aload_n d_Mo_alike_30 rfl (by first | rfl | exact vIsR_rf _) ?_
      refine m_aload_n d_Mo_alike_31 rfl (by first | rfl | exact vIsR_rf _) ?_
      refine m_get d_Mo_alike_32 21 (by decide) kf_Mo_62 rfl ?_
      refine m_iload_n d_Mo_alike_35 rfl ?_
      refine m_ald d_Mo_alike_36 x (by decide) (by exact rfl) (by exact hx1) ?_
      refine m_aload_n d_Mo_alike_37 rfl (by first | rfl | exact vIsR_rf _) ?_
      refine m_get d_Mo_alike_38 21 (by decide) kf_Mo_62 rfl ?_
      refine m_iload_n d_Mo_alike_41 rfl ?_
      refine m_at 42 rfl ?_
      refine m_ald d_Mo_alike_42 y (by decide) (by exact rfl) (by exact hy1) ?_
      rw [x1, y1]
      refine m_callV2r (M1 := M_Mo_related) d_Mo_alike_43 km_Mo_155 kI_Mo_related ks_Mo_Mo_related (by decide) (by first | rfl | exact vRf_cat _) (by first | rfl | exact vRf_cat _) (by decide) kM_Mo_related ki_Mo (by decide) (by decide +kernel) (c_Mo_related (nc := nc) (sameS_wP hs hw) x2 y2) ?_
      rw [sameS_above hs, sameS_above hs]
      have e : alk X U x y = (aboveS X (U x).1 9 (U y).1 || aboveS X (U y).1 9 (U x).1) := by simp [alk, rlS, c_12, c_27]
      rw [← e]
      cases hb : alk X U x y with
      | false =>
        refine m_if_eq (tgt := 53) d_Mo_alike_46 (by decide) (fun _ => ?_) (fun c => absurd (rfl) c)
        rw [hb] at no
        exact no rfl
      | true =>
        refine m_if_eq (tgt := 53) d_Mo_alike_46 (by decide) (fun c => absurd c (by decide)) (fun _ => ?_)
        refine m_iconst (v := 1) d_Mo_alike_49 (by decide) ?_
        refine m_goto (tgt := 54) d_Mo_alike_50 (by decide) ?_
        exact m_iret d_Mo_alike_54 rfl rfl ⟨rfl, rfl, rfl⟩
/-- an item that stands in -/
def sfB (X : Nat → Nat → Int32) (i : Nat) : Bool := decide (i % 5 < iN X (i / 5)) && decide (X 12 i = 2)
def famR (X : Nat → Nat → Int32) (nc nm n : Nat) (U : tU) (lab : Nat → Nat) : Prop :=
  n = nm + cntB (sfB X) (nm * 5) ∧ (∀ z, z < n → (U z).1 < nc) ∧ (∀ m, m < nm → U m = (oN X m, X 3 m, X 4 m)) ∧ (∀ i, i < nm * 5 → sfB X i = true → U (nm + cntB (sfB X) i) = (oN X (i / 5), X 14 i, X 15 i)) ∧
  (∀ x, x < n → lab x ≤ x) ∧ (∀ x y, x < n → y < n → alk X U x y = true → lab x = lab y) ∧ ∀ P : Nat → Prop, (∀ x y, x < n → y < n → alk X U x y = true → P x → P y) → ∀ x, x < n → P x → P (lab x)
def sumL (f : Nat → Nat) : Nat → Nat
  | 0 => 0
  | n + 1 => sumL f n + f n
theorem sumL_le {f g : Nat → Nat} : ∀ {n : Nat}, (∀ i, i < n → f i ≤ g i) → sumL f n ≤ sumL g n
  | 0, _ => Nat.le_refl _
  | n + 1, h => by
    have := sumL_le (n := n) (fun i hi => h i (by omega))
    have := h n (by omega)
    show sumL f n + f n ≤ sumL g n + g n
    omega
theorem sumL_lt {f g : Nat → Nat} : ∀ {n j : Nat}, (∀ i, i < n → f i ≤ g i) → j < n → f j < g j → sumL f n < sumL g n
  | n + 1, j, h, hj, hl => by
    show sumL f n + f n < sumL g n + g n
    have h1 := h n (by omega)
    by_cases hjn : j = n
    · subst hjn
      have := sumL_le (n := j) (fun i hi => h i (by omega))
      omega
    · have := sumL_lt (n := n) (fun i hi => h i (by omega)) (show j < n by omega) hl
      omega
def gaB (X : Nat → Nat → Int32) (U : tU) (n : Nat) (lab : Nat → Nat) : Prop := (∀ x, x < n → lab x ≤ x) ∧ ∀ P : Nat → Prop, (∀ x y, x < n → y < n → alk X U x y = true → P x → P y) → ∀ x, x < n → P x → P (lab x)
theorem gaB_step {U : tU} {n x y : Nat} {lab : Nat → Nat} (h : gaB X U n lab) (hx : x < n) (hy : y < n) (hl : lab y < lab x) (ha : alk X U x y = true) : gaB X U n (va_up lab x (lab y)) := by
  refine ⟨fun z hz => ?_, fun P hP z hz h1 => ?_⟩
  · by_cases e : z = x
    · subst e; rw [va_up_self]; have := h.1 z hz; omega
    · rw [va_up_ne _ _ e]; exact h.1 z hz
  · by_cases e : z = x
    · subst e; rw [va_up_self]; exact h.2 P hP y hy (hP z y hz hy ha h1)
    · rw [va_up_ne _ _ e]; exact h.2 P hP z hz h1
abbrev gaL (am n : Nat) (more : Bool) : List (Nat × Value) := [(0, .ref am), (1, .int (nI n)), (2, .int (bI more))]
def gaZ (W Z : Nat → Nat → Int32) (n : Nat) (lab : Nat → Nat) : Prop := (∀ x, x < n → Z 20 x = nI (lab x)) ∧ ∀ k i, k ≠ 20 → Z k i = W k i
def gaV (X : Nat → Nat → Int32) (U : tU) (n x y : Nat) (lab : Nat → Nat) : Prop := ∀ a b, a < n → b < n → (a < x ∨ (a = x ∧ b < y)) → alk X U a b = true → lab a ≤ lab b
theorem uR_gaZ {W Z : Nat → Nat → Int32} {n nc : Nat} {U : tU} {lab : Nat → Nat} (h : gaZ W Z n lab) (hu : uR W U n nc) : uR Z U n nc := fun z hz => by
  rw [h.2 21 z (by decide), h.2 22 z (by decide), h.2 23 z (by decide)]
  exact hu z hz
/-- one round of the joining -/
theorem m_ga_in {W : Nat → Nat → Int32} {U : tU} {n nc S : Nat} {Q : vR → (Nat → Nat → Int32) → (Nat → Int32) → Prop} (hs : sameS W X) (hw : wP X nc) (hu : uR W U n nc) (hn : n ≤ 144) {x : Nat} (hx : x < n) : ∀ r y (Z : Nat → Nat → Int32) (lab : Nat → Nat) (more : Bool), y + r = n → gaB X U n lab → gaZ W Z n lab → (more = true → sumL lab n < S) → (more = false → sumL lab n = S ∧ gaV X U n x y lab) → (∀ (Z : Nat → Nat → Int32) (lab : Nat → Nat) (more : Bool), gaB X U n lab → gaZ W Z n lab → (more = true → sumL lab n < S) → (more = false → sumL lab n = S ∧ gaV X U n (x + 1) 0 lab) → VM G M_Mo_gather 3 90 194 (gaL am n more ++ [(3, .int (nI x))]) [] am ad Z Y Q) → VM G M_Mo_gather 3 90 141 (gaL am n more ++ [(3, .int (nI x)), (4, .int (nI y))]) [] am ad Z Y Q := by
  intro r
  induction r with
  | zero =>
    intro y Z lab more hy hb hz h1 h2 K
    refine m_iload d_Mo_gather_141 rfl ?_
    refine m_iload_n d_Mo_gather_143 rfl ?_
    refine m_icmp_ge (tgt := 194) d_Mo_gather_144 (by decide) (fun _ => ?_) (fun c => absurd (nI_le (by omega) (by omega)) c)
    refine m_keep 4 rfl (K Z lab more hb hz h1 (fun e => ⟨(h2 e).1, fun a b ha hb2 hab hal => (h2 e).2 a b ha hb2 ?_ hal⟩))
    rcases hab with q | ⟨q, q2⟩
    · rcases Nat.lt_or_ge a x with p | p
      · exact Or.inl p
      · exact Or.inr ⟨by omega, by omega⟩
    · omega
  | succ r ih =>
    intro y Z lab more hy hb hz h1 h2 K
    have hyn : y < n := by omega
    have next : (alk X U x y = true → lab x ≤ lab y) → VM G M_Mo_gather 3 90 188 (gaL am n more ++ [(3, .int (nI x)), (4, .int (nI y))]) [] am ad Z Y Q := by
      intro hno
      refine m_iincw (w := 1) d_Mo_gather_188 rfl (by decide) (by decide) rfl ?_
      refine m_goto (tgt := 141) d_Mo_gather_191 (by decide) ?_
      rw [nI_1]
      refine ih (y + 1) Z lab more (by omega) hb hz h1 (fun e => ⟨(h2 e).1, fun a b ha hb2 hab hal => ?_⟩) K
      by_cases hq : a = x ∧ b = y
      · obtain ⟨rfl, rfl⟩ := hq; exact hno hal
      · exact (h2 e).2 a b ha hb2 (by omega) hal
    have lx := hb.1 x hx
    have ly := hb.1 y hyn
    refine m_iload d_Mo_gather_141 rfl ?_
    refine m_iload_n d_Mo_gather_143 rfl ?_
    refine m_icmp_ge (tgt := 194) d_Mo_gather_144 (by decide) (fun c => absurd c (nI_ge (by omega) (by omega))) (fun _ => ?_)
    refine m_aload_n d_Mo_gather_147 rfl (by first | rfl | exact vIsR_rf _) ?_
    refine m_get d_Mo_gather_148 20 (by decide) kf_Mo_59 rfl ?_
    refine m_iload_n d_Mo_gather_151 rfl ?_
    refine m_ald d_Mo_gather_152 x (by decide) (by exact rfl) (by exact (show x < 144 by omega)) ?_
    refine m_aload_n d_Mo_gather_153 rfl (by first | rfl | exact vIsR_rf _) ?_
    refine m_at 154 rfl ?_
    refine m_get d_Mo_gather_154 20 (by decide) kf_Mo_59 rfl ?_
    refine m_iload d_Mo_gather_157 rfl ?_
    refine m_ald d_Mo_gather_159 y (by decide) (by exact rfl) (by exact (show y < 144 by omega)) ?_
    rw [hz.1 x hx, hz.1 y hyn]
    refine m_icmp_le (tgt := 188) d_Mo_gather_160 (by decide) (fun c_160 => ?_) (fun c_160 => ?_)
    · exact next (fun _ => (nI_leI (by omega) (by omega)).mp c_160)
    · have hl : lab y < lab x := by
        rcases Nat.lt_or_ge (lab y) (lab x) with q | q
        · exact q
        · exact absurd (nI_le q (by omega)) c_160
      refine m_aload_n d_Mo_gather_163 rfl (by first | rfl | exact vIsR_rf _) ?_
      refine m_iload_n d_Mo_gather_164 rfl ?_
      refine m_iload d_Mo_gather_165 rfl ?_
      refine m_callV2r (M1 := M_Mo_alike) d_Mo_gather_167 km_Mo_152 kI_Mo_alike ks_Mo_Mo_alike (by decide) (by first | rfl | exact vRf_cat _) (by first | rfl | exact vRf_cat _) (by decide) kM_Mo_alike ki_Mo (by decide) (by decide +kernel) (c_Mo_alike (X := X) (n := n) (nc := nc) (U := U) (fun i => ⟨by rw [hz.2 0 i (by decide)]; exact (hs i).1, by rw [hz.2 2 i (by decide)]; exact (hs i).2.1, by rw [hz.2 3 i (by decide)]; exact (hs i).2.2.1, by rw [hz.2 4 i (by decide)]; exact (hs i).2.2.2⟩) hw (uR_gaZ hz hu) hn hx hyn) ?_
      cases ha : alk X U x y with
      | false =>
        refine m_if_eq (tgt := 188) d_Mo_gather_170 (by decide) (fun _ => ?_) (fun c => absurd (rfl) c)
        exact next (fun e => by rw [ha] at e; cases e)
      | true =>
        refine m_if_eq (tgt := 188) d_Mo_gather_170 (by decide) (fun c => absurd c (by decide)) (fun _ => ?_)
        refine m_aload_n d_Mo_gather_173 rfl (by first | rfl | exact vIsR_rf _) ?_
        refine m_get d_Mo_gather_174 20 (by decide) kf_Mo_59 rfl ?_
        refine m_iload_n d_Mo_gather_177 rfl ?_
        refine m_aload_n d_Mo_gather_178 rfl (by first | rfl | exact vIsR_rf _) ?_
        refine m_get d_Mo_gather_179 20 (by decide) kf_Mo_59 rfl ?_
        refine m_iload d_Mo_gather_182 rfl ?_
        refine m_ald d_Mo_gather_184 y (by decide) (by exact rfl) (by exact (show y < 144 by omega)) ?_
        rw [hz.1 y hyn]
        refine m_ast d_Mo_gather_185 x (by decide) (by exact rfl) (by exact (show x < 144 by omega)) ?_
        refine m_iconst (v := 1) d_Mo_gather_186 (by decide) ?_
        refine m_istore_n d_Mo_gather_187 (by decide) rfl ?_
        refine m_iincw (w := 1) d_Mo_gather_188 rfl (by decide) (by decide) rfl ?_
        refine m_goto (tgt := 141) d_Mo_gather_191 (by decide) ?_
        rw [nI_1]
        have hS : sumL (va_up lab x (lab y)) n < sumL lab n := sumL_lt (j := x) (fun i hi => by
          by_cases e : i = x
          · subst e; rw [va_up_self]; omega
          · rw [va_up_ne _ _ e]; exact Nat.le_refl _) hx (by rw [va_up_self]; exact hl)
        refine ih (y + 1) _ (va_up lab x (lab y)) true (by omega) (gaB_step hb hx hyn hl ha) ⟨fun z hz2 => ?_, fun k i hk => ?_⟩ (fun _ => ?_) (fun e => nomatch e) K
        · by_cases e : z = x
          · subst e; rw [mW_at, va_up_self]
          · rw [mW_i e, va_up_ne _ _ e]; exact hz.1 z hz2
        · rw [mW_k hk]; exact hz.2 k i hk
        · cases more with
          | true => have := h1 rfl; omega
          | false => have := (h2 rfl).1; omega
theorem m_ga_out {W : Nat → Nat → Int32} {U : tU} {n nc S : Nat} {Q : vR → (Nat → Nat → Int32) → (Nat → Int32) → Prop} (hs : sameS W X) (hw : wP X nc) (hu : uR W U n nc) (hn : n ≤ 144) : ∀ r x (Z : Nat → Nat → Int32) (lab : Nat → Nat) (more : Bool), x + r = n → gaB X U n lab → gaZ W Z n lab → (more = true → sumL lab n < S) → (more = false → sumL lab n = S ∧ gaV X U n x 0 lab) → (∀ (Z : Nat → Nat → Int32) (lab : Nat → Nat) (more : Bool), gaB X U n lab → gaZ W Z n lab → (more = true → sumL lab n < S) → (more = false → gaV X U n n 0 lab) → VM G M_Mo_gather 3 90 125 (gaL am n more) [] am ad Z Y Q) → VM G M_Mo_gather 3 90 133 (gaL am n more ++ [(3, .int (nI x))]) [] am ad Z Y Q := by
  intro r
  induction r with
  | zero =>
    intro x Z lab more hx hb hz h1 h2 K
    refine m_iload_n d_Mo_gather_133 rfl ?_
    refine m_iload_n d_Mo_gather_134 rfl ?_
    refine m_icmp_ge (tgt := 200) d_Mo_gather_135 (by decide) (fun _ => ?_) (fun c => absurd (nI_le (by omega) (by omega)) c)
    refine m_goto (tgt := 125) d_Mo_gather_200 (by decide) ?_
    exact m_keep 3 rfl (K Z lab more hb hz h1 (fun e a b ha hb2 hab => (h2 e).2 a b ha hb2 (by omega)))
  | succ r ih =>
    intro x Z lab more hx hb hz h1 h2 K
    refine m_iload_n d_Mo_gather_133 rfl ?_
    refine m_iload_n d_Mo_gather_134 rfl ?_
    refine m_icmp_ge (tgt := 200) d_Mo_gather_135 (by decide) (fun c => absurd c (nI_ge (by omega) (by omega))) (fun _ => ?_)
    refine m_iconst (v := 0) d_Mo_gather_138 (by decide) ?_
    refine m_istore d_Mo_gather_139 (by decide) rfl ?_
    refine m_ga_in hs hw hu hn (show x < n by omega) n 0 Z lab more (by omega) hb hz h1 h2 (fun Z lab more hb hz h1 h2 => ?_)
    refine m_iincw (w := 1) d_Mo_gather_194 rfl (by decide) (by decide) rfl ?_
    refine m_goto (tgt := 133) d_Mo_gather_197 (by decide) ?_
    rw [nI_1]
    exact ih (x + 1) Z lab more (by omega) hb hz h1 h2 K
theorem m_ga_fix {W : Nat → Nat → Int32} {U : tU} {n nc : Nat} {Q : vR → (Nat → Nat → Int32) → (Nat → Int32) → Prop} (hs : sameS W X) (hw : wP X nc) (hu : uR W U n nc) (hn : n ≤ 144) (K : ∀ (Z : Nat → Nat → Int32) (lab : Nat → Nat), gaB X U n lab → gaZ W Z n lab → (∀ x y, x < n → y < n → alk X U x y = true → lab x = lab y) → VM G M_Mo_gather 3 90 203 (gaL am n false) [] am ad Z Y Q) : ∀ N (Z : Nat → Nat → Int32) (lab : Nat → Nat), sumL lab n < N → gaB X U n lab → gaZ W Z n lab → VM G M_Mo_gather 3 90 125 (gaL am n true) [] am ad Z Y Q := by
  intro N
  induction N with
  | zero => intro Z lab h; omega
  | succ N ih =>
    intro Z lab hN hb hz
    refine m_iload_n d_Mo_gather_125 rfl ?_
    refine m_if_eq (tgt := 203) d_Mo_gather_126 (by decide) (fun c => absurd c (by decide)) (fun _ => ?_)
    refine m_iconst (v := 0) d_Mo_gather_129 (by decide) ?_
    refine m_istore_n d_Mo_gather_130 (by decide) rfl ?_
    refine m_iconst (v := 0) d_Mo_gather_131 (by decide) ?_
    refine m_istore_n d_Mo_gather_132 (by decide) rfl ?_
    refine m_ga_out (S := sumL lab n) hs hw hu hn n 0 Z lab false (by omega) hb hz (fun e => nomatch e) (fun _ => ⟨rfl, fun a b _ _ h => by omega⟩) (fun Z lab2 more hb hz h1 h2 => ?_)
    cases more with
    | true => exact ih Z lab2 (by have := h1 rfl; omega) hb hz
    | false =>
      refine m_iload_n d_Mo_gather_125 rfl ?_
      refine m_if_eq (tgt := 203) d_Mo_gather_126 (by decide) (fun _ => ?_) (fun c => absurd (rfl) c)
      refine K Z lab2 hb hz (fun x y hx hy ha => ?_)
      have a1 := h2 rfl x y hx hy (Or.inl hx) ha
      have a2 := h2 rfl y x hy hx (Or.inl hy) (alk_symm ha)
      omega
def gaF (X : Nat → Nat → Int32) (nm i : Nat) (Z : Nat → Nat → Int32) : Prop := (∀ z, z < nm + cntB (sfB X) i → Z 20 z = nI z) ∧ (∀ m, m < nm → Z 21 m = X 2 m ∧ Z 22 m = X 3 m ∧ Z 23 m = X 4 m) ∧ (∀ q, q < i → sfB X q = true → Z 21 (nm + cntB (sfB X) q) = X 2 (q / 5) ∧ Z 22 (nm + cntB (sfB X) q) = X 14 q ∧ Z 23 (nm + cntB (sfB X) q) = X 15 q) ∧ ∀ k i, k < 20 ∨ 23 < k → Z k i = X k i
theorem gaF_skip {nm m j : Nat} {Z : Nat → Nat → Int32} (hj : iN X m ≤ j) (h5 : j < 5) (h : gaF X nm (m * 5 + j) Z) : gaF X nm (m * 5 + j + 1) Z ∧ cntB (sfB X) (m * 5 + j + 1) = cntB (sfB X) (m * 5 + j) := by
  have e : sfB X (m * 5 + j) = false := by
    simp only [sfB, Bool.and_eq_false_iff, decide_eq_false_iff_not]
    left
    rw [show (m * 5 + j) % 5 = j by omega, show (m * 5 + j) / 5 = m by omega]
    omega
  have hc : cntB (sfB X) (m * 5 + j + 1) = cntB (sfB X) (m * 5 + j) := by show cntB (sfB X) (m * 5 + j) + _ = _; rw [e]; rfl
  refine ⟨⟨by rw [hc]; exact h.1, h.2.1, fun q hq hs => h.2.2.1 q ?_ hs, h.2.2.2⟩, hc⟩
  rcases Nat.lt_or_ge q (m * 5 + j) with p | p
  · exact p
  · have : q = m * 5 + j := by omega
    rw [this, e] at hs; cases hs
theorem gaF_skips {nm m : Nat} {Z : Nat → Nat → Int32} : ∀ r j, j + r = 5 → iN X m ≤ j → gaF X nm (m * 5 + j) Z → gaF X nm ((m + 1) * 5) Z ∧ cntB (sfB X) ((m + 1) * 5) = cntB (sfB X) (m * 5 + j)
  | 0, j, hr, hj, h => by
    have : (m + 1) * 5 = m * 5 + j := by omega
    rw [this]; exact ⟨h, rfl⟩
  | r + 1, j, hr, hj, h => by
    have h1 := gaF_skip hj (by omega) h
    have h2 := gaF_skips r (j + 1) (by omega) (by omega) h1.1
    exact ⟨h2.1, by rw [h2.2]; exact h1.2⟩
theorem cntB_onto {f : Nat → Bool} : ∀ {n z : Nat}, z < cntB f n → ∃ i, i < n ∧ f i = true ∧ cntB f i = z
  | 0, z, h => absurd h (Nat.not_lt_zero z)
  | n + 1, z, h => by
    by_cases hz : z < cntB f n
    · obtain ⟨i, h1, h2⟩ := cntB_onto hz
      exact ⟨i, by omega, h2⟩
    · have h0 : z < cntB f n + (if f n then 1 else 0) := h
      by_cases hf : f n = true
      · rw [if_pos hf] at h0
        exact ⟨n, by omega, hf, by omega⟩
      · rw [if_neg hf] at h0; omega
def gaN (X : Nat → Nat → Int32) (nm : Nat) : Nat := nm + cntB (sfB X) (nm * 5)
def gaQ (X : Nat → Nat → Int32) (Y : Nat → Int32) (nc nm : Nat) : vR → (Nat → Nat → Int32) → (Nat → Int32) → Prop := fun r X' Y' => r = .inl (some (.int (nI (gaN X nm)))) ∧ Y' = Y ∧ ∃ U lab, famR X nc nm (gaN X nm) U lab ∧ uR X' U (gaN X nm) nc ∧ (∀ x, x < gaN X nm → X' 20 x = nI (lab x)) ∧ ∀ k i, k < 20 ∨ 23 < k → X' k i = X k i
theorem gaN_le {nm : Nat} (h : nm ≤ 24) : gaN X nm ≤ 144 := by
  have := cntB_le (sfB X) (nm * 5)
  unfold gaN; omega
theorem m_ga_end {nc nm : Nat} {Z : Nat → Nat → Int32} (hw : wW X nc nm) (h : gaF X nm (nm * 5) Z) : VM G M_Mo_gather 3 90 123 [(0, .ref am), (1, .int (nI (gaN X nm)))] [] am ad Z Y (gaQ X Y nc nm) := by
  have h144 := gaN_le (X := X) hw.2.1
  obtain ⟨f1, f2, f3, f4⟩ := h
  have hof := hw.2.2.1
  let U : tU := fun z => ((Z 21 z).toNatClampNeg, Z 22 z, Z 23 z)
  have um : ∀ m, m < nm → U m = (oN X m, X 3 m, X 4 m) := fun m hm => by
    show ((Z 21 m).toNatClampNeg, Z 22 m, Z 23 m) = _
    rw [(f2 m hm).1, (f2 m hm).2.1, (f2 m hm).2.2]; rfl
  have us : ∀ i, i < nm * 5 → sfB X i = true → U (nm + cntB (sfB X) i) = (oN X (i / 5), X 14 i, X 15 i) := fun i hi hs => by
    show ((Z 21 _).toNatClampNeg, Z 22 _, Z 23 _) = _
    rw [(f3 i hi hs).1, (f3 i hi hs).2.1, (f3 i hi hs).2.2]; rfl
  have hu : uR Z U (gaN X nm) nc := by
    intro z hz
    by_cases hzm : z < nm
    · rw [um z hzm]
      exact ⟨by rw [(f2 z hzm).1]; exact (hof z hzm).2, (hof z hzm).1, (f2 z hzm).2.1, (f2 z hzm).2.2⟩
    · obtain ⟨i, h1, h2, h3⟩ := cntB_onto (f := sfB X) (n := nm * 5) (z := z - nm) (by unfold gaN at hz; omega)
      have : z = nm + cntB (sfB X) i := by omega
      rw [this, us i h1 h2]
      have hm : i / 5 < nm := by omega
      obtain ⟨g1, g2, g3⟩ := f3 i h1 h2
      exact ⟨by rw [g1]; exact (hof _ hm).2, (hof _ hm).1, g2, g3⟩
  have hs : sameS Z X := fun i => ⟨f4 0 i (by omega), f4 2 i (by omega), f4 3 i (by omega), f4 4 i (by omega)⟩
  refine m_iconst (v := 1) d_Mo_gather_123 (by decide) ?_
  refine m_istore_n d_Mo_gather_124 (by decide) rfl ?_
  refine m_ga_fix (W := Z) (X := X) (U := U) (n := gaN X nm) (nc := nc) hs hw.1 hu h144 (fun Z2 lab hb hz hl => ?_) (sumL id (gaN X nm) + 1) Z id (by omega) ⟨fun x _ => Nat.le_refl _, fun P _ x _ h => h⟩ ⟨fun x hx => f1 x hx, fun k i _ => rfl⟩
  refine m_iload_n d_Mo_gather_203 rfl ?_
  exact m_iret d_Mo_gather_204 rfl rfl ⟨rfl, rfl, U, lab, ⟨rfl, fun z hz => (hu z hz).2.1, um, us, hb.1, hl, hb.2⟩, uR_gaZ hz hu, hz.1, fun k i hk => by rw [hz.2 k i (by omega)]; exact f4 k i hk⟩
theorem m_ga_si {nc nm m : Nat} (hw : wW X nc nm) (hy : Y 17 = nI nm) (hm : m < nm) (K : ∀ Z, gaF X nm ((m + 1) * 5) Z → VM G M_Mo_gather 3 90 117 [(0, .ref am), (1, .int (nI (nm + cntB (sfB X) ((m + 1) * 5)))), (2, .int (nI m))] [] am ad Z Y (gaQ X Y nc nm)) : ∀ r j (Z : Nat → Nat → Int32), j + r = iN X m → gaF X nm (m * 5 + j) Z → VM G M_Mo_gather 3 90 58 [(0, .ref am), (1, .int (nI (nm + cntB (sfB X) (m * 5 + j)))), (2, .int (nI m)), (3, .int (nI (m * 5 + j)))] [] am ad Z Y (gaQ X Y nc nm) := by
  have h24 := hw.2.1
  have hit := hw.2.2.2.1 m hm
  intro r
  induction r with
  | zero =>
    intro j Z hj hF
    refine m_iload_n d_Mo_gather_58 rfl ?_
    refine m_iload_n d_Mo_gather_59 rfl ?_
    refine m_iconst (v := 5) d_Mo_gather_60 (by decide) ?_
    refine m_imul d_Mo_gather_61 ?_
    refine m_aload_n d_Mo_gather_62 rfl (by first | rfl | exact vIsR_rf _) ?_
    refine m_get d_Mo_gather_63 5 (by decide) kf_Mo_25 rfl ?_
    refine m_iload_n d_Mo_gather_66 rfl ?_
    refine m_ald d_Mo_gather_67 m (by decide) (by exact rfl) (by exact (show m < 24 by omega)) ?_
    rw [hF.2.2.2 5 m (by omega), hit.2, show nI m * 5 = nI (m * 5) from pk_mul m 5]
    refine m_iadd d_Mo_gather_68 ?_
    rw [nI_add]
    refine m_icmp_ge (tgt := 117) d_Mo_gather_69 (by decide) (fun _ => ?_) (fun c => absurd (nI_le (by omega) (by omega)) c)
    have := gaF_skips (5 - j) j (by omega) (by omega) hF
    rw [← this.2]
    exact m_keep 3 rfl (K Z this.1)
  | succ r ih =>
    intro j Z hj hF
    have hi : m * 5 + j < 120 := by omega
    have hcb := cntB_le (sfB X) (m * 5 + j)
    refine m_iload_n d_Mo_gather_58 rfl ?_
    refine m_iload_n d_Mo_gather_59 rfl ?_
    refine m_iconst (v := 5) d_Mo_gather_60 (by decide) ?_
    refine m_imul d_Mo_gather_61 ?_
    refine m_aload_n d_Mo_gather_62 rfl (by first | rfl | exact vIsR_rf _) ?_
    refine m_get d_Mo_gather_63 5 (by decide) kf_Mo_25 rfl ?_
    refine m_iload_n d_Mo_gather_66 rfl ?_
    refine m_ald d_Mo_gather_67 m (by decide) (by exact rfl) (by exact (show m < 24 by omega)) ?_
    rw [hF.2.2.2 5 m (by omega), hit.2, show nI m * 5 = nI (m * 5) from pk_mul m 5]
    refine m_iadd d_Mo_gather_68 ?_
    rw [nI_add]
    refine m_icmp_ge (tgt := 117) d_Mo_gather_69 (by decide) (fun c => absurd c (nI_ge (by omega) (by omega))) (fun _ => ?_)
    refine m_aload_n d_Mo_gather_72 rfl (by first | rfl | exact vIsR_rf _) ?_
    refine m_get d_Mo_gather_73 12 (by decide) kf_Mo_47 rfl ?_
    refine m_iload_n d_Mo_gather_76 rfl ?_
    refine m_ald d_Mo_gather_77 (m * 5 + j) (by decide) (by exact rfl) (by exact hi) ?_
    rw [hF.2.2.2 12 _ (by omega)]
    have e0 : sfB X (m * 5 + j) = decide (X 12 (m * 5 + j) = 2) := by
      simp only [sfB]
      rw [show (m * 5 + j) % 5 = j by omega, show (m * 5 + j) / 5 = m by omega, decide_eq_true (show j < iN X m by omega), Bool.true_and]
    refine m_iconst (v := 2) d_Mo_gather_78 (by decide) ?_
    refine m_icmp_eq (tgt := 85) d_Mo_gather_79 (by decide) (fun c_79 => ?_) (fun c_79 => ?_)
    · have e : sfB X (m * 5 + j) = true := by rw [e0]; exact decide_eq_true c_79
      have hc : cntB (sfB X) (m * 5 + j + 1) = cntB (sfB X) (m * 5 + j) + 1 := by show cntB (sfB X) (m * 5 + j) + _ = _; rw [e]; rfl
      refine m_aload_n d_Mo_gather_85 rfl (by first | rfl | exact vIsR_rf _) ?_
      refine m_iload_n d_Mo_gather_86 rfl ?_
      refine m_aload_n d_Mo_gather_87 rfl (by first | rfl | exact vIsR_rf _) ?_
      refine m_get d_Mo_gather_88 2 (by decide) kf_Mo_16 rfl ?_
      refine m_iload_n d_Mo_gather_91 rfl ?_
      refine m_ald d_Mo_gather_92 m (by decide) (by exact rfl) (by exact (show m < 24 by omega)) ?_
      refine m_aload_n d_Mo_gather_93 rfl (by first | rfl | exact vIsR_rf _) ?_
      refine m_get d_Mo_gather_94 14 (by decide) kf_Mo_53 rfl ?_
      refine m_at 97 rfl ?_
      refine m_iload_n d_Mo_gather_97 rfl ?_
      refine m_ald d_Mo_gather_98 (m * 5 + j) (by decide) (by exact rfl) (by exact hi) ?_
      refine m_aload_n d_Mo_gather_99 rfl (by first | rfl | exact vIsR_rf _) ?_
      refine m_get d_Mo_gather_100 15 (by decide) kf_Mo_56 rfl ?_
      refine m_iload_n d_Mo_gather_103 rfl ?_
      refine m_ald d_Mo_gather_104 (m * 5 + j) (by decide) (by exact rfl) (by exact hi) ?_
      rw [hF.2.2.2 2 _ (by omega), hF.2.2.2 14 _ (by omega), hF.2.2.2 15 _ (by omega)]
      refine m_callV4u (M1 := M_Mo_member) d_Mo_gather_105 km_Mo_148 kI_Mo_member ks_Mo_Mo_member (by decide) (by first | rfl | exact vRf_cat _) (by first | rfl | exact vRf_cat _) (by first | rfl | exact vRf_cat _) (by first | rfl | exact vRf_cat _) (by decide) kM_Mo_member ki_Mo (by decide) (by decide +kernel) (c_Mo_member (x := nm + cntB (sfB X) (m * 5 + j)) (by omega)) ?_
      refine m_iincw (w := 1) d_Mo_gather_108 rfl (by decide) (by decide) rfl ?_
      refine m_iincw (w := 1) d_Mo_gather_111 rfl (by decide) (by decide) rfl ?_
      refine m_goto (tgt := 58) d_Mo_gather_114 (by decide) ?_
      rw [nI_1, nI_1, show nm + cntB (sfB X) (m * 5 + j) + 1 = nm + cntB (sfB X) (m * 5 + (j + 1)) by rw [← Nat.add_assoc (m * 5) j 1, hc]; omega]
      refine ih (j + 1) _ (by omega) ?_
      rw [← Nat.add_assoc (m * 5) j 1]
      refine ⟨fun z hz => ?_, fun q hq => ?_, fun q hq hs => ?_, fun k i hk => ?_⟩
      · rw [hc] at hz
        by_cases hzz : z = nm + cntB (sfB X) (m * 5 + j)
        · rw [hzz]; simp [memX, mW]
        · simp only [memX]
          rw [mW_k (by decide), mW_k (by decide), mW_k (by decide), mW_i hzz]
          exact hF.1 z (by omega)
      · have hne : q ≠ nm + cntB (sfB X) (m * 5 + j) := by omega
        simp only [memX, mW, hne, and_false, if_false]
        exact hF.2.1 q hq
      · by_cases hqi : q = m * 5 + j
        · subst hqi
          simp only [memX, mW, and_self, if_true]
          rw [show (m * 5 + j) / 5 = m by omega]
          simp
        · have hlt := cntB_step (show q < m * 5 + j by omega) hs
          have hne : nm + cntB (sfB X) q ≠ nm + cntB (sfB X) (m * 5 + j) := by omega
          simp only [memX, mW, hne, and_false, if_false]
          exact hF.2.2.1 q (by omega) hs
      · simp only [memX]
        rw [mW_k (by omega), mW_k (by omega), mW_k (by omega), mW_k (by omega)]
        exact hF.2.2.2 k i hk
    · have e : sfB X (m * 5 + j) = false := by rw [e0]; exact decide_eq_false c_79
      have hc : cntB (sfB X) (m * 5 + j + 1) = cntB (sfB X) (m * 5 + j) := by show cntB (sfB X) (m * 5 + j) + _ = _; rw [e]; rfl
      refine m_goto (tgt := 111) d_Mo_gather_82 (by decide) ?_
      refine m_iincw (w := 1) d_Mo_gather_111 rfl (by decide) (by decide) rfl ?_
      refine m_goto (tgt := 58) d_Mo_gather_114 (by decide) ?_
      rw [nI_1, show nm + cntB (sfB X) (m * 5 + j) = nm + cntB (sfB X) (m * 5 + (j + 1)) by rw [← Nat.add_assoc (m * 5) j 1, hc]]
      refine ih (j + 1) _ (by omega) ?_
      rw [← Nat.add_assoc (m * 5) j 1]
      refine ⟨by rw [hc]; exact hF.1, hF.2.1, fun q hq hs => hF.2.2.1 q ?_ hs, hF.2.2.2⟩
      rcases Nat.lt_or_ge q (m * 5 + j) with p | p
      · exact p
      · have : q = m * 5 + j := by omega
        rw [this, e] at hs; cases hs
theorem m_ga_so {nc nm : Nat} (hw : wW X nc nm) (hy : Y 17 = nI nm) : ∀ r m (Z : Nat → Nat → Int32), m + r = nm → gaF X nm (m * 5) Z → VM G M_Mo_gather 3 90 46 [(0, .ref am), (1, .int (nI (nm + cntB (sfB X) (m * 5)))), (2, .int (nI m))] [] am ad Z Y (gaQ X Y nc nm) := by
  have h24 := hw.2.1
  intro r
  induction r with
  | zero =>
    intro m Z hm hF
    have hmn : m = nm := by omega
    subst hmn
    refine m_iload_n d_Mo_gather_46 rfl ?_
    refine m_aload_n d_Mo_gather_47 rfl (by first | rfl | exact vIsR_rf _) ?_
    refine m_get d_Mo_gather_48 17 (by decide) kf_Mo_103 rfl ?_
    refine m_icmp_ge (tgt := 123) d_Mo_gather_51 (by decide) (fun _ => ?_) (fun c => absurd ((by rw [hy]; exact nI_le (by omega) (by omega))) c)
    exact m_keep 2 rfl (m_ga_end hw hF)
  | succ r ih =>
    intro m Z hm hF
    refine m_iload_n d_Mo_gather_46 rfl ?_
    refine m_aload_n d_Mo_gather_47 rfl (by first | rfl | exact vIsR_rf _) ?_
    refine m_get d_Mo_gather_48 17 (by decide) kf_Mo_103 rfl ?_
    refine m_icmp_ge (tgt := 123) d_Mo_gather_51 (by decide) (fun c => absurd c ((by rw [hy]; exact nI_ge (by omega) (by omega)))) (fun _ => ?_)
    refine m_iload_n d_Mo_gather_54 rfl ?_
    refine m_iconst (v := 5) d_Mo_gather_55 (by decide) ?_
    refine m_imul d_Mo_gather_56 ?_
    refine m_istore_n d_Mo_gather_57 (by decide) rfl ?_
    rw [show nI m * 5 = nI (m * 5) from pk_mul m 5]
    refine m_ga_si hw hy (show m < nm by omega) (fun Z hZ => ?_) (iN X m) 0 Z (by omega) hF
    refine m_iincw (w := 1) d_Mo_gather_117 rfl (by decide) (by decide) rfl ?_
    refine m_goto (tgt := 46) d_Mo_gather_120 (by decide) ?_
    rw [nI_1]
    exact ih (m + 1) Z (by omega) hZ
theorem c_Mo_gather {nc nm : Nat} (hw : wW X nc nm) (hy : Y 17 = nI nm) : VM G M_Mo_gather 3 90 0 [(0, .ref am)] [] am ad X Y (gaQ X Y nc nm) := by
  have h24 := hw.2.1
  have l1 : ∀ r m (Z : Nat → Nat → Int32), m + r = nm → (∀ z, z < m → Z 20 z = nI z) → (∀ q, q < m → Z 21 q = X 2 q ∧ Z 22 q = X 3 q ∧ Z 23 q = X 4 q) → (∀ k i, k < 20 ∨ 23 < k → Z k i = X k i) → VM G M_Mo_gather 3 90 2 [(0, .ref am), (1, .int (nI m))] [] am ad Z Y (gaQ X Y nc nm) := by
    intro r
    induction r with
    | zero =>
      intro m Z hm h1 h2 h3
      have hmn : m = nm := by omega
      subst hmn
      refine m_iload_n d_Mo_gather_2 rfl ?_
      refine m_aload_n d_Mo_gather_3 rfl (by first | rfl | exact vIsR_rf _) ?_
      refine m_get d_Mo_gather_4 17 (by decide) kf_Mo_103 rfl ?_
      refine m_icmp_ge (tgt := 39) d_Mo_gather_7 (by decide) (fun _ => ?_) (fun c => absurd ((by rw [hy]; exact nI_le (by omega) (by omega))) c)
      refine m_aload_n d_Mo_gather_39 rfl (by first | rfl | exact vIsR_rf _) ?_
      refine m_get d_Mo_gather_40 17 (by decide) kf_Mo_103 rfl ?_
      refine m_istore_n d_Mo_gather_43 (by decide) rfl ?_
      refine m_iconst (v := 0) d_Mo_gather_44 (by decide) ?_
      refine m_istore_n d_Mo_gather_45 (by decide) rfl ?_
      rw [hy]
      exact m_ga_so hw hy m 0 Z (by omega) ⟨h1, h2, fun q hq => absurd hq (by omega), h3⟩
    | succ r ih =>
      intro m Z hm h1 h2 h3
      have hm24 : m < 24 := by omega
      refine m_iload_n d_Mo_gather_2 rfl ?_
      refine m_aload_n d_Mo_gather_3 rfl (by first | rfl | exact vIsR_rf _) ?_
      refine m_get d_Mo_gather_4 17 (by decide) kf_Mo_103 rfl ?_
      refine m_icmp_ge (tgt := 39) d_Mo_gather_7 (by decide) (fun c => absurd c ((by rw [hy]; exact nI_ge (by omega) (by omega)))) (fun _ => ?_)
      refine m_aload_n d_Mo_gather_10 rfl (by first | rfl | exact vIsR_rf _) ?_
      refine m_iload_n d_Mo_gather_11 rfl ?_
      refine m_aload_n d_Mo_gather_12 rfl (by first | rfl | exact vIsR_rf _) ?_
      refine m_get d_Mo_gather_13 2 (by decide) kf_Mo_16 rfl ?_
      refine m_at 16 rfl ?_
      refine m_iload_n d_Mo_gather_16 rfl ?_
      refine m_ald d_Mo_gather_17 m (by decide) (by exact rfl) (by exact hm24) ?_
      refine m_aload_n d_Mo_gather_18 rfl (by first | rfl | exact vIsR_rf _) ?_
      refine m_get d_Mo_gather_19 3 (by decide) kf_Mo_19 rfl ?_
      refine m_iload_n d_Mo_gather_22 rfl ?_
      refine m_ald d_Mo_gather_23 m (by decide) (by exact rfl) (by exact hm24) ?_
      refine m_aload_n d_Mo_gather_24 rfl (by first | rfl | exact vIsR_rf _) ?_
      refine m_get d_Mo_gather_25 4 (by decide) kf_Mo_22 rfl ?_
      refine m_at 28 rfl ?_
      refine m_iload_n d_Mo_gather_28 rfl ?_
      refine m_ald d_Mo_gather_29 m (by decide) (by exact rfl) (by exact hm24) ?_
      rw [h3 2 _ (by omega), h3 3 _ (by omega), h3 4 _ (by omega)]
      refine m_callV4u (M1 := M_Mo_member) d_Mo_gather_30 km_Mo_148 kI_Mo_member ks_Mo_Mo_member (by decide) (by first | rfl | exact vRf_cat _) (by first | rfl | exact vRf_cat _) (by first | rfl | exact vRf_cat _) (by first | rfl | exact vRf_cat _) (by decide) kM_Mo_member ki_Mo (by decide) (by decide +kernel) (c_Mo_member (x := m) (by omega)) ?_
      refine m_iincw (w := 1) d_Mo_gather_33 rfl (by decide) (by decide) rfl ?_
      refine m_goto (tgt := 2) d_Mo_gather_36 (by decide) ?_
      rw [nI_1]
      refine ih (m + 1) _ (by omega) (fun z hz => ?_) (fun q hq => ?_) (fun k i hk => ?_)
      · by_cases hzm : z = m
        · subst hzm; simp [memX, mW]
        · simp only [memX]
          rw [mW_k (by decide), mW_k (by decide), mW_k (by decide), mW_i hzm]
          exact h1 z (by omega)
      · by_cases hqm : q = m
        · subst hqm; simp [memX, mW]
        · simp only [memX, mW, hqm, and_false, if_false]
          exact h2 q (by omega)
      · simp only [memX]
        rw [mW_k (by omega), mW_k (by omega), mW_k (by omega), mW_k (by omega)]
        exact h3 k i hk
  refine m_iconst (v := 0) d_Mo_gather_0 (by decide) ?_
  refine m_istore_n d_Mo_gather_1 (by decide) rfl ?_
  exact l1 nm 0 X (by omega) (fun z hz => absurd hz (Nat.not_lt_zero z)) (fun z hz => absurd hz (Nat.not_lt_zero z)) (fun _ _ _ => rfl)
end VM10
