/-! The reference's small methods, and what they compute. -/
section VM1
variable {G : vG} {am : Nat} {ad : Nat → Nat} {X : Nat → Nat → Int32} {Y : Nat → Int32}
def bI (b : Bool) : Int32 := if b then 1 else 0
theorem bI_nar (b : Bool) : narrow .boolean (.int (bI b)) = .int (bI b) := by cases b <;> rfl
theorem bI_np (b : Bool) : vp_nar .boolean (bI b) = bI b := by cases b <;> rfl
theorem bI_0 (b : Bool) : bI b = 0 ↔ b = false := by cases b <;> simp [bI]
def oI (o : Option Nat) : Int32 := match o with
  | none => -1
  | some m => nI m
/-- the first i from where on with p -/
def fst (p : Nat → Bool) : Nat → Nat → Option Nat
  | 0, _ => none
  | f + 1, i => if p i then some i else fst p f (i + 1)
theorem fst_some {p : Nat → Bool} : ∀ {f i m : Nat}, fst p f i = some m → i ≤ m ∧ m < i + f ∧ p m = true
  | 0, _, _, h => by cases h
  | f + 1, i, m, h => by
    unfold fst at h
    by_cases hp : p i = true
    · rw [if_pos hp] at h; cases h; exact ⟨Nat.le_refl _, by omega, hp⟩
    · rw [if_neg hp] at h
      obtain ⟨h1, h2, h3⟩ := fst_some h
      exact ⟨by omega, by omega, h3⟩
def ownB (X : Nat → Nat → Int32) (k n r : Int32) (m : Nat) : Bool := decide (X 2 m = k) && decide (X 3 m = n) && decide (X 4 m = r)
def ownS (X : Nat → Nat → Int32) (nm : Nat) (k n r : Int32) : Option Nat := fst (ownB X k n r) nm 0
def pS (X : Nat → Nat → Int32) (c : Nat) : Option Nat := if X 0 c < 0 then none else some (X 0 c).toNatClampNeg
def findS (X : Nat → Nat → Int32) (nm : Nat) (n r : Int32) : Nat → Nat → Option Nat
  | 0, _ => none
  | f + 1, c => match ownS X nm (nI c) n r with
    | some m => some m
    | none => match pS X c with
      | none => none
      | some d => findS X nm n r f d
def aboveS (X : Nat → Nat → Int32) (k : Nat) : Nat → Nat → Bool
  | 0, _ => false
  | f + 1, d => if d = k then true else match pS X d with
    | none => false
    | some e => aboveS X k f e
/-- parents come before their classes -/
def wP (X : Nat → Nat → Int32) (nc : Nat) : Prop := nc ≤ 8 ∧ ∀ c, c < nc → X 0 c = -1 ∨ ∃ d, d < c ∧ X 0 c = nI d
theorem wP_cases {nc c : Nat} (hw : wP X nc) (hc : c < nc) : (X 0 c = -1 ∧ pS X c = none) ∨ ∃ d, d < c ∧ X 0 c = nI d ∧ pS X c = some d := by
  rcases hw.2 c hc with h1 | ⟨d, h1, h2⟩
  · exact Or.inl ⟨h1, by rw [pS, h1]; rfl⟩
  · have := hw.1
    exact Or.inr ⟨d, h1, h2, by rw [pS, h2, if_neg (nI_pos (by omega)), nI_clamp (by omega)]⟩
theorem c_Mo_thrown : VM G M_Mo_thrown 0 0 0 [(0, .ref am)] [] am ad X Y (mRet (some (.int (Y 19))) X Y) := by
  refine m_aload_n d_Mo_thrown_0 rfl (by first | rfl | exact vIsR_rf _) ?_
  refine m_get d_Mo_thrown_1 19 (by decide) kf_Mo_92 rfl ?_
  exact m_iret d_Mo_thrown_4 rfl rfl ⟨rfl, rfl, rfl⟩
theorem c_Mo_in {v a b : Int32} : VM G M_Mo_in 0 0 0 [(0, .int v), (1, .int a), (2, .int b)] [] am ad X Y (mRet (some (.int (bI (decide (a ≤ v) && decide (v ≤ b))))) X Y) := by
  refine m_iload_n d_Mo_in_0 rfl ?_
  refine m_iload_n d_Mo_in_1 rfl ?_
  refine m_icmp_lt (tgt := 14) d_Mo_in_2 (by decide) (fun c_2 => ?_) (fun c_2 => ?_)
  · rw [show (decide (a ≤ v) && decide (v ≤ b)) = false by simp [Int32.not_le.mpr c_2]]
    refine m_iconst (v := 0) d_Mo_in_14 (by decide) ?_
    exact m_iret d_Mo_in_15 rfl rfl ⟨rfl, rfl, rfl⟩
  · refine m_iload_n d_Mo_in_5 rfl ?_
    refine m_iload_n d_Mo_in_6 rfl ?_
    refine m_icmp_gt (tgt := 14) d_Mo_in_7 (by decide) (fun c_7 => ?_) (fun c_7 => ?_)
    · rw [show (decide (a ≤ v) && decide (v ≤ b)) = false by simp [Int32.not_le.mpr c_7]]
      refine m_iconst (v := 0) d_Mo_in_14 (by decide) ?_
      exact m_iret d_Mo_in_15 rfl rfl ⟨rfl, rfl, rfl⟩
    · rw [show (decide (a ≤ v) && decide (v ≤ b)) = true by simp [Int32.not_lt.mp c_2, Int32.not_lt.mp c_7]]
      refine m_iconst (v := 1) d_Mo_in_10 (by decide) ?_
      refine m_goto (tgt := 15) d_Mo_in_11 (by decide) ?_
      exact m_iret d_Mo_in_15 rfl rfl ⟨rfl, rfl, rfl⟩
theorem c_Mo_bad {b : Bool} : VM G M_Mo_bad 0 0 0 [(0, .ref am), (1, .int (bI b))] [] am ad X Y (mRet (some (.int (bI (!b)))) X (va_up Y 19 (bI (!b)))) := by
  refine m_aload_n d_Mo_bad_0 rfl (by first | rfl | exact vIsR_rf _) ?_
  refine m_iload_n d_Mo_bad_1 rfl ?_
  cases b with
  | false =>
    refine m_if_eq (tgt := 9) d_Mo_bad_2 (by decide) (fun _ => ?_) (fun c => absurd (rfl) c)
    refine m_iconst (v := 1) d_Mo_bad_9 (by decide) ?_
    refine m_putI d_Mo_bad_10 19 (by decide) kf_Mo_92 ?_
    refine m_iload_n d_Mo_bad_13 rfl ?_
    refine m_if_ne (tgt := 21) d_Mo_bad_14 (by decide) (fun c => absurd (rfl) c) (fun _ => ?_)
    refine m_iconst (v := 1) d_Mo_bad_17 (by decide) ?_
    refine m_goto (tgt := 22) d_Mo_bad_18 (by decide) ?_
    exact m_iret d_Mo_bad_22 rfl rfl ⟨rfl, rfl, rfl⟩
  | true =>
    refine m_if_eq (tgt := 9) d_Mo_bad_2 (by decide) (fun c => absurd c (by decide)) (fun _ => ?_)
    refine m_iconst (v := 0) d_Mo_bad_5 (by decide) ?_
    refine m_goto (tgt := 10) d_Mo_bad_6 (by decide) ?_
    refine m_putI d_Mo_bad_10 19 (by decide) kf_Mo_92 ?_
    refine m_iload_n d_Mo_bad_13 rfl ?_
    refine m_if_ne (tgt := 21) d_Mo_bad_14 (by decide) (fun _ => ?_) (fun c => absurd c (by decide))
    refine m_iconst (v := 0) d_Mo_bad_21 (by decide) ?_
    exact m_iret d_Mo_bad_22 rfl rfl ⟨rfl, rfl, rfl⟩
theorem c_Mo_fail {v : Int32} : VM G M_Mo_fail 0 0 0 [(0, .ref am), (1, .int v)] [] am ad X Y (mRet (some (.int 0)) X (va_up Y 19 v)) := by
  refine m_aload_n d_Mo_fail_0 rfl (by first | rfl | exact vIsR_rf _) ?_
  refine m_iload_n d_Mo_fail_1 rfl ?_
  refine m_putI d_Mo_fail_2 19 (by decide) kf_Mo_92 ?_
  refine m_iconst (v := 0) d_Mo_fail_5 (by decide) ?_
  exact m_iret d_Mo_fail_6 rfl rfl ⟨rfl, rfl, rfl⟩
def inB (v a b : Int32) : Bool := decide (a ≤ v) && decide (v ≤ b)
theorem c_Mo_isClass {v : Int32} : VM G M_Mo_isClass 1 30 0 [(0, .ref am), (1, .int v)] [] am ad X Y (mRet (some (.int (bI (inB v 0 (Y 16 - 1))))) X Y) := by
  refine m_iload_n d_Mo_isClass_0 rfl ?_
  refine m_iconst (v := 0) d_Mo_isClass_1 (by decide) ?_
  refine m_aload_n d_Mo_isClass_2 rfl (by first | rfl | exact vIsR_rf _) ?_
  refine m_get d_Mo_isClass_3 16 (by decide) kf_Mo_96 rfl ?_
  refine m_iconst (v := 1) d_Mo_isClass_6 (by decide) ?_
  refine m_isub d_Mo_isClass_7 ?_
  refine m_callS3r (M1 := M_Mo_in) d_Mo_isClass_8 km_Mo_99 kS_Mo_in (by decide) (by first | rfl | exact vRf_cat _) (by first | rfl | exact vRf_cat _) (by first | rfl | exact vRf_cat _) (by decide) kM_Mo_in ki_Mo (by decide) (by decide +kernel) c_Mo_in ?_
  exact m_iret d_Mo_isClass_11 rfl (bI_nar _) ⟨rfl, rfl, rfl⟩
theorem c_Mo_isMethod {v : Int32} : VM G M_Mo_isMethod 1 30 0 [(0, .ref am), (1, .int v)] [] am ad X Y (mRet (some (.int (bI (inB v 0 (Y 17 - 1))))) X Y) := by
  refine m_iload_n d_Mo_isMethod_0 rfl ?_
  refine m_iconst (v := 0) d_Mo_isMethod_1 (by decide) ?_
  refine m_aload_n d_Mo_isMethod_2 rfl (by first | rfl | exact vIsR_rf _) ?_
  refine m_get d_Mo_isMethod_3 17 (by decide) kf_Mo_103 rfl ?_
  refine m_iconst (v := 1) d_Mo_isMethod_6 (by decide) ?_
  refine m_isub d_Mo_isMethod_7 ?_
  refine m_callS3r (M1 := M_Mo_in) d_Mo_isMethod_8 km_Mo_99 kS_Mo_in (by decide) (by first | rfl | exact vRf_cat _) (by first | rfl | exact vRf_cat _) (by first | rfl | exact vRf_cat _) (by decide) kM_Mo_in ki_Mo (by decide) (by decide +kernel) c_Mo_in ?_
  exact m_iret d_Mo_isMethod_11 rfl (bI_nar _) ⟨rfl, rfl, rfl⟩
theorem c_Mo_above {nc k d : Nat} (hw : wP X nc) (hk : k < nc) (hd : d < nc) : VM G M_Mo_above 0 0 0 [(0, .ref am), (1, .int (nI k)), (2, .int (nI d))] [] am ad X Y (mRet (some (.int (bI (aboveS X k 9 d)))) X Y) := by
  have h8 := hw.1
  refine m_iload_n d_Mo_above_0 rfl ?_
  refine m_istore_n d_Mo_above_1 (by decide) rfl ?_
  have loop : ∀ f c, c < nc → c < f → VM G M_Mo_above 0 0 2 [(0, .ref am), (1, .int (nI k)), (2, .int (nI d)), (3, .int (nI c))] [] am ad X Y (mRet (some (.int (bI (aboveS X k f c)))) X Y) := by
    intro f
    induction f with
    | zero => intro c _ h0; omega
    | succ f ih =>
      intro c hc hcf
      refine m_iload_n d_Mo_above_2 rfl ?_
      refine m_if_lt (tgt := 21) d_Mo_above_3 (by decide) (fun c => absurd c (nI_pos (by omega))) (fun _ => ?_)
      refine m_iload_n d_Mo_above_6 rfl ?_
      refine m_iload_n d_Mo_above_7 rfl ?_
      refine m_icmp_eq (tgt := 21) d_Mo_above_8 (by decide) (fun c_8 => ?_) (fun c_8 => ?_)
      · have e1 : c = k := (nI_eq (by omega) (by omega)).mp c_8
        subst e1
        refine m_iload_n d_Mo_above_21 rfl ?_
        refine m_iload_n d_Mo_above_22 rfl ?_
        refine m_icmp_ne (tgt := 30) d_Mo_above_23 (by decide) (fun c => absurd (rfl) c) (fun _ => ?_)
        refine m_iconst (v := 1) d_Mo_above_26 (by decide) ?_
        refine m_goto (tgt := 31) d_Mo_above_27 (by decide) ?_
        rw [show aboveS X c (f + 1) c = true by simp [aboveS]]
        exact m_iret d_Mo_above_31 rfl rfl ⟨rfl, rfl, rfl⟩
      · have e1 : ¬ c = k := fun z => c_8 (by rw [z])
        refine m_aload_n d_Mo_above_11 rfl (by first | rfl | exact vIsR_rf _) ?_
        refine m_get d_Mo_above_12 0 (by decide) kf_Mo_7 rfl ?_
        refine m_iload_n d_Mo_above_15 rfl ?_
        refine m_ald d_Mo_above_16 c (by decide) (by exact rfl) (by exact (show c < 8 by omega)) ?_
        rcases wP_cases hw hc with ⟨h1, h2⟩ | ⟨e, h1, h2, h3⟩
        · rw [h1, show aboveS X k (f + 1) c = false by simp [aboveS, e1, h2]]
          refine m_istore_n d_Mo_above_17 (by decide) rfl ?_
          refine m_goto (tgt := 2) d_Mo_above_18 (by decide) ?_
          refine m_iload_n d_Mo_above_2 rfl ?_
          refine m_if_lt (tgt := 21) d_Mo_above_3 (by decide) (fun _ => ?_) (fun c => absurd (by decide) c)
          refine m_iload_n d_Mo_above_21 rfl ?_
          refine m_iload_n d_Mo_above_22 rfl ?_
          refine m_icmp_ne (tgt := 30) d_Mo_above_23 (by decide) (fun _ => ?_) (fun c => absurd c ((fun z => absurd (show (-1 : Int32) < 0 by decide) (by rw [z]; exact nI_pos (by omega)))))
          refine m_iconst (v := 0) d_Mo_above_30 (by decide) ?_
          exact m_iret d_Mo_above_31 rfl rfl ⟨rfl, rfl, rfl⟩
        · rw [h2, show aboveS X k (f + 1) c = aboveS X k f e by simp [aboveS, e1, h3]]
          refine m_istore_n d_Mo_above_17 (by decide) rfl ?_
          refine m_goto (tgt := 2) d_Mo_above_18 (by decide) ?_
          exact ih e (by omega) (by omega)
  exact loop 9 d hd (by omega)
theorem c_Mo_related {nc k d : Nat} (hw : wP X nc) (hk : k < nc) (hd : d < nc) : VM G M_Mo_related 1 30 0 [(0, .ref am), (1, .int (nI k)), (2, .int (nI d))] [] am ad X Y (mRet (some (.int (bI (aboveS X k 9 d || aboveS X d 9 k)))) X Y) := by
  refine m_aload_n d_Mo_related_0 rfl (by first | rfl | exact vIsR_rf _) ?_
  refine m_iload_n d_Mo_related_1 rfl ?_
  refine m_iload_n d_Mo_related_2 rfl ?_
  refine m_callV2r (M1 := M_Mo_above) d_Mo_related_3 km_Mo_128 kI_Mo_above ks_Mo_Mo_above (by decide) (by first | rfl | exact vRf_cat _) (by first | rfl | exact vRf_cat _) (by decide) kM_Mo_above ki_Mo (by decide) (by decide +kernel) (c_Mo_above hw hk hd) ?_
  refine m_if_ne (tgt := 18) d_Mo_related_6 (by decide) (fun c_6 => ?_) (fun c_6 => ?_)
  · have e1 : aboveS X k 9 d = true := by cases h : aboveS X k 9 d <;> simp_all [bI]
    rw [e1]
    refine m_iconst (v := 1) d_Mo_related_18 (by decide) ?_
    refine m_goto (tgt := 23) d_Mo_related_19 (by decide) ?_
    exact m_iret d_Mo_related_23 rfl rfl ⟨rfl, rfl, rfl⟩
  · have e1 : aboveS X k 9 d = false := (bI_0 _).mp c_6
    rw [e1]
    refine m_aload_n d_Mo_related_9 rfl (by first | rfl | exact vIsR_rf _) ?_
    refine m_iload_n d_Mo_related_10 rfl ?_
    refine m_iload_n d_Mo_related_11 rfl ?_
    refine m_callV2r (M1 := M_Mo_above) d_Mo_related_12 km_Mo_128 kI_Mo_above ks_Mo_Mo_above (by decide) (by first | rfl | exact vRf_cat _) (by first | rfl | exact vRf_cat _) (by decide) kM_Mo_above ki_Mo (by decide) (by decide +kernel) (c_Mo_above hw hd hk) ?_
    refine m_if_eq (tgt := 22) d_Mo_related_15 (by decide) (fun c_15 => ?_) (fun c_15 => ?_)
    · have e2 : aboveS X d 9 k = false := (bI_0 _).mp c_15
      rw [e2]
      refine m_iconst (v := 0) d_Mo_related_22 (by decide) ?_
      exact m_iret d_Mo_related_23 rfl rfl ⟨rfl, rfl, rfl⟩
    · have e2 : aboveS X d 9 k = true := by cases h : aboveS X d 9 k <;> simp_all [bI]
      rw [e2]
      refine m_iconst (v := 1) d_Mo_related_18 (by decide) ?_
      refine m_goto (tgt := 23) d_Mo_related_19 (by decide) ?_
      exact m_iret d_Mo_related_23 rfl rfl ⟨rfl, rfl, rfl⟩
theorem c_Mo_own {nm : Nat} {k n r : Int32} (hy : Y 17 = nI nm) (hm : nm ≤ 24) : VM G M_Mo_own 0 0 0 [(0, .ref am), (1, .int k), (2, .int n), (3, .int r)] [] am ad X Y (mRet (some (.int (oI (ownS X nm k n r)))) X Y) := by
  refine m_iconst (v := 0) d_Mo_own_0 (by decide) ?_
  refine m_istore d_Mo_own_1 (by decide) rfl ?_
  have loop : ∀ f i, i + f = nm → VM G M_Mo_own 0 0 3 [(0, .ref am), (1, .int k), (2, .int n), (3, .int r), (4, .int (nI i))] [] am ad X Y (mRet (some (.int (oI (fst (ownB X k n r) f i)))) X Y) := by
    intro f
    induction f with
    | zero =>
      intro i hi
      refine m_iload d_Mo_own_3 rfl ?_
      refine m_aload_n d_Mo_own_5 rfl (by first | rfl | exact vIsR_rf _) ?_
      refine m_get d_Mo_own_6 17 (by decide) kf_Mo_103 rfl ?_
      refine m_icmp_ge (tgt := 54) d_Mo_own_9 (by decide) (fun _ => ?_) (fun c => absurd ((by rw [hy]; exact nI_le (by omega) (by omega))) c)
      refine m_iconst (v := (-1)) d_Mo_own_54 (by decide) ?_
      exact m_iret d_Mo_own_55 rfl rfl ⟨rfl, rfl, rfl⟩
    | succ f ih =>
      intro i hi
      refine m_iload d_Mo_own_3 rfl ?_
      refine m_aload_n d_Mo_own_5 rfl (by first | rfl | exact vIsR_rf _) ?_
      refine m_get d_Mo_own_6 17 (by decide) kf_Mo_103 rfl ?_
      refine m_icmp_ge (tgt := 54) d_Mo_own_9 (by decide) (fun c => absurd c ((by rw [hy]; exact nI_ge (by omega) (by omega)))) (fun _ => ?_)
      have next : ownB X k n r i = false → VM G M_Mo_own 0 0 48 [(0, .ref am), (1, .int k), (2, .int n), (3, .int r), (4, .int (nI i))] [] am ad X Y (mRet (some (.int (oI (fst (ownB X k n r) (f + 1) i)))) X Y) := by
        intro hf
        rw [show fst (ownB X k n r) (f + 1) i = fst (ownB X k n r) f (i + 1) by simp [fst, hf]]
        refine m_iincw (w := 1) d_Mo_own_48 rfl (by decide) (by decide) rfl ?_
        refine m_goto (tgt := 3) d_Mo_own_51 (by decide) ?_
        rw [nI_1]
        exact ih (i + 1) (by omega)
      refine m_aload_n d_Mo_own_12 rfl (by first | rfl | exact vIsR_rf _) ?_
      refine m_get d_Mo_own_13 2 (by decide) kf_Mo_16 rfl ?_
      refine m_iload d_Mo_own_16 rfl ?_
      refine m_ald d_Mo_own_18 i (by decide) (by exact rfl) (by exact (show i < 24 by omega)) ?_
      refine m_iload_n d_Mo_own_19 rfl ?_
      refine m_icmp_ne (tgt := 48) d_Mo_own_20 (by decide) (fun c_20 => ?_) (fun c_20 => ?_)
      · exact next (by simp [ownB, c_20])
      · refine m_aload_n d_Mo_own_23 rfl (by first | rfl | exact vIsR_rf _) ?_
        refine m_get d_Mo_own_24 3 (by decide) kf_Mo_19 rfl ?_
        refine m_iload d_Mo_own_27 rfl ?_
        refine m_ald d_Mo_own_29 i (by decide) (by exact rfl) (by exact (show i < 24 by omega)) ?_
        refine m_iload_n d_Mo_own_30 rfl ?_
        refine m_icmp_ne (tgt := 48) d_Mo_own_31 (by decide) (fun c_31 => ?_) (fun c_31 => ?_)
        · exact next (by simp [ownB, c_31])
        · refine m_aload_n d_Mo_own_34 rfl (by first | rfl | exact vIsR_rf _) ?_
          refine m_get d_Mo_own_35 4 (by decide) kf_Mo_22 rfl ?_
          refine m_iload d_Mo_own_38 rfl ?_
          refine m_ald d_Mo_own_40 i (by decide) (by exact rfl) (by exact (show i < 24 by omega)) ?_
          refine m_iload_n d_Mo_own_41 rfl ?_
          refine m_icmp_ne (tgt := 48) d_Mo_own_42 (by decide) (fun c_42 => ?_) (fun c_42 => ?_)
          · exact next (by simp [ownB, c_42])
          · rw [show fst (ownB X k n r) (f + 1) i = some i by simp [fst, ownB, c_20, c_31, c_42]]
            refine m_iload d_Mo_own_45 rfl ?_
            exact m_iret d_Mo_own_47 rfl rfl ⟨rfl, rfl, rfl⟩
  exact loop nm 0 (by omega)
theorem c_Mo_find {nc nm c : Nat} {n r : Int32} (hw : wP X nc) (hc : c < nc) (hy : Y 17 = nI nm) (hm : nm ≤ 24) : VM G M_Mo_find 1 30 0 [(0, .ref am), (1, .int (nI c)), (2, .int n), (3, .int r)] [] am ad X Y (mRet (some (.int (oI (findS X nm n r 9 c)))) X Y) := by
  have h8 := hw.1
  refine m_iload_n d_Mo_find_0 rfl ?_
  refine m_istore d_Mo_find_1 (by decide) rfl ?_
  have loop : ∀ f e (lv5 : List (Nat × Value)), (lv5 = [] ∨ lv5 = [(5, .int (-1))]) → e < nc → e < f → VM G M_Mo_find 1 30 3 ([(0, .ref am), (1, .int (nI c)), (2, .int n), (3, .int r), (4, .int (nI e))] ++ lv5) [] am ad X Y (mRet (some (.int (oI (findS X nm n r f e)))) X Y) := by
    intro f
    induction f with
    | zero => intro e _ _ _ h0; omega
    | succ f ih =>
      intro e lv5 h5 he hef
      have go : ∀ w : Int32, w = oI (ownS X nm (nI e) n r) → VM G M_Mo_find 1 30 18 [(0, .ref am), (1, .int (nI c)), (2, .int n), (3, .int r), (4, .int (nI e)), (5, .int w)] [] am ad X Y (mRet (some (.int (oI (findS X nm n r (f + 1) e)))) X Y) := by
        intro w hw5
        cases ho : ownS X nm (nI e) n r with
        | some m =>
          have hml := fst_some ho
          rw [ho] at hw5
          subst hw5
          rw [show findS X nm n r (f + 1) e = some m by simp [findS, ho]]
          refine m_iload d_Mo_find_18 rfl ?_
          refine m_if_lt (tgt := 26) d_Mo_find_20 (by decide) (fun c => absurd c (nI_pos (by omega))) (fun _ => ?_)
          refine m_iload d_Mo_find_23 rfl ?_
          exact m_iret d_Mo_find_25 rfl rfl ⟨rfl, rfl, rfl⟩
        | none =>
          rw [ho] at hw5
          subst hw5
          refine m_iload d_Mo_find_18 rfl ?_
          refine m_if_lt (tgt := 26) d_Mo_find_20 (by decide) (fun _ => ?_) (fun c => absurd (by decide) c)
          refine m_aload_n d_Mo_find_26 rfl (by first | rfl | exact vIsR_rf _) ?_
          refine m_get d_Mo_find_27 0 (by decide) kf_Mo_7 rfl ?_
          refine m_iload d_Mo_find_30 rfl ?_
          refine m_ald d_Mo_find_32 e (by decide) (by exact rfl) (by exact (show e < 8 by omega)) ?_
          rcases wP_cases hw he with ⟨h1, h2⟩ | ⟨g, h1, h2, h3⟩
          · rw [h1, show findS X nm n r (f + 1) e = none by simp [findS, ho, h2]]
            refine m_istore d_Mo_find_33 (by decide) rfl ?_
            refine m_goto (tgt := 3) d_Mo_find_35 (by decide) ?_
            refine m_iload d_Mo_find_3 rfl ?_
            refine m_if_lt (tgt := 38) d_Mo_find_5 (by decide) (fun _ => ?_) (fun c => absurd (by decide) c)
            refine m_iconst (v := (-1)) d_Mo_find_38 (by decide) ?_
            exact m_iret d_Mo_find_39 rfl rfl ⟨rfl, rfl, rfl⟩
          · rw [h2, show findS X nm n r (f + 1) e = findS X nm n r f g by simp [findS, ho, h3]]
            refine m_istore d_Mo_find_33 (by decide) rfl ?_
            refine m_goto (tgt := 3) d_Mo_find_35 (by decide) ?_
            exact ih g [(5, .int (-1))] (Or.inr rfl) (by omega) (by omega)
      rcases h5 with rfl | rfl
      · refine m_iload d_Mo_find_3 rfl ?_
        refine m_if_lt (tgt := 38) d_Mo_find_5 (by decide) (fun c => absurd c (nI_pos (by omega))) (fun _ => ?_)
        refine m_aload_n d_Mo_find_8 rfl (by first | rfl | exact vIsR_rf _) ?_
        refine m_iload d_Mo_find_9 rfl ?_
        refine m_iload_n d_Mo_find_11 rfl ?_
        refine m_iload_n d_Mo_find_12 rfl ?_
        refine m_callV3r (M1 := M_Mo_own) d_Mo_find_13 km_Mo_118 kI_Mo_own ks_Mo_Mo_own (by decide) (by first | rfl | exact vRf_cat _) (by first | rfl | exact vRf_cat _) (by first | rfl | exact vRf_cat _) (by decide) kM_Mo_own ki_Mo (by decide) (by decide +kernel) (c_Mo_own hy hm) ?_
        refine m_istore d_Mo_find_16 (by decide) rfl ?_
        exact go _ rfl
      · refine m_iload d_Mo_find_3 rfl ?_
        refine m_if_lt (tgt := 38) d_Mo_find_5 (by decide) (fun c => absurd c (nI_pos (by omega))) (fun _ => ?_)
        refine m_aload_n d_Mo_find_8 rfl (by first | rfl | exact vIsR_rf _) ?_
        refine m_iload d_Mo_find_9 rfl ?_
        refine m_iload_n d_Mo_find_11 rfl ?_
        refine m_iload_n d_Mo_find_12 rfl ?_
        refine m_callV3r (M1 := M_Mo_own) d_Mo_find_13 km_Mo_118 kI_Mo_own ks_Mo_Mo_own (by decide) (by first | rfl | exact vRf_cat _) (by first | rfl | exact vRf_cat _) (by first | rfl | exact vRf_cat _) (by decide) kM_Mo_own ki_Mo (by decide) (by decide +kernel) (c_Mo_own hy hm) ?_
        refine m_istore d_Mo_find_16 (by decide) rfl ?_
        exact go _ rfl
  exact loop 9 c [] (Or.inl rfl) hc (by omega)
end VM1
