/-! The reference: rename. -/
section VM12
variable {G : vG} {am : Nat} {ad : Nat → Nat} {X : Nat → Nat → Int32} {Y : Nat → Int32}
def rtB (lab : Nat → Nat) (f : Nat) : Bool := decide (lab f = f)
def fr0 (X : Nat → Nat → Int32) (lab : Nat → Nat) (nm f : Nat) : Int32 := if rtB lab f && kfB X lab nm f then X 3 f else -1
def frS (X : Nat → Nat → Int32) (U : tU) (lab : Nat → Nat) (nm n : Nat) : Nat → Nat → Int32
  | 0 => fr0 X lab nm
  | f + 1 => if lab f = f ∧ frS X U lab nm n f f < 0 then va_up (frS X U lab nm n f) f (nI (lF (tkB X U lab nm n (frS X U lab nm n f) f) 25 0)) else frS X U lab nm n f
def frO (F : Nat → Int32) (lab : Nat → Nat) : Option Nat → Int32
  | none => 26
  | some q => F (lab q)
def nnF (X : Nat → Nat → Int32) (lab : Nat → Nat) (nm : Nat) (F : Nat → Int32) (i : Nat) : Int32 :=
  if X 12 i = 2 then (if lab (nm + cntB (sfB X) i) < nm then F (lab (nm + cntB (sfB X) i)) else 26)
  else if X 12 i = 1 then frO F lab (fdS X nm i (cN X i)) else 26
def rnR (X : Nat → Nat → Int32) (lab : Nat → Nat) (nm : Nat) (F : Nat → Int32) (X' : Nat → Nat → Int32) : Prop :=
  (∀ m, m < nm → X' 3 m = F (lab m)) ∧ (∀ m, m < nm → ∀ j, j < iN X m → X' 14 (m * 5 + j) = if 0 < X 12 (m * 5 + j) then nnF X lab nm F (m * 5 + j) else X 14 (m * 5 + j)) ∧ ∀ k i, k ≠ 3 → k ≠ 14 → (k < 20 ∨ 25 < k) → X' k i = X k i
def rnQ (X : Nat → Nat → Int32) (Y : Nat → Int32) (nc nm : Nat) : vR → (Nat → Nat → Int32) → (Nat → Int32) → Prop := fun r X' Y' => ∃ U lab, famR X nc nm (gaN X nm) U lab ∧ r = .inl (some (.int (nI (cntB (rtB lab) nm)))) ∧ Y' = va_up Y 19 0 ∧ rnR X lab nm (frS X U lab nm (gaN X nm) nm) X'
abbrev rnL (am n c nx m : Nat) : List (Nat × Value) := [(0, .ref am), (1, .int (nI n)), (2, .int (nI c)), (3, .int (nI nx)), (4, .int (nI m))]
/-- what L3 and L4 keep -/
def rnK (X : Nat → Nat → Int32) (lab : Nat → Nat) (n nm : Nat) (F : Nat → Int32) (Z : Nat → Nat → Int32) : Prop := (∀ x, x < n → Z 20 x = nI (lab x)) ∧ (∀ g, g < nm → Z 24 g = F g) ∧ ∀ k i, k ≠ 3 → k ≠ 14 → (k < 20 ∨ 25 < k) → Z k i = X k i
theorem m_rn4 {U : tU} {lab : Nat → Nat} {nc nm nx : Nat} (hw : wW X nc nm) (hy : Y 17 = nI nm) (hf : famR X nc nm (gaN X nm) U lab) : ∀ r m (Z : Nat → Nat → Int32), m + r = nm → rnK X lab (gaN X nm) nm (frS X U lab nm (gaN X nm) nm) Z → (∀ q, q < nm → ∀ j, j < iN X q → Z 25 (q * 5 + j) = nnF X lab nm (frS X U lab nm (gaN X nm) nm) (q * 5 + j)) → (∀ q, q < m → Z 3 q = frS X U lab nm (gaN X nm) nm (lab q)) → (∀ q, q < m → ∀ j, j < iN X q → Z 14 (q * 5 + j) = if 0 < X 12 (q * 5 + j) then nnF X lab nm (frS X U lab nm (gaN X nm) nm) (q * 5 + j) else X 14 (q * 5 + j)) → (∀ i, m * 5 ≤ i → Z 14 i = X 14 i) → VM G M_Mo_rename 4 130 308 (rnL am (gaN X nm) (cntB (rtB lab) nm) nx m) [] am ad Z (va_up Y 19 0) (rnQ X Y nc nm) := by
  have h24 := hw.2.1
  have h144 := gaN_le (X := X) hw.2.1
  have hgn : nm ≤ gaN X nm := by unfold gaN; omega
  have hlab := hf.2.2.2.2.1
  intro r
  induction r with
  | zero =>
    intro m Z hm hk h25 h3 h14 h14b
    refine m_iload d_Mo_rename_308 rfl ?_
    refine m_aload_n d_Mo_rename_310 rfl (by first | rfl | exact vIsR_rf _) ?_
    refine m_get d_Mo_rename_311 17 (by decide) kf_Mo_103 rfl ?_
    refine m_icmp_ge (tgt := 395) d_Mo_rename_314 (by decide) (fun _ => ?_) (fun c => absurd ((by rw [show va_up Y 19 0 17 = nI nm from hy]; exact nI_le (by omega) (by omega))) c)
    refine m_iload_n d_Mo_rename_395 rfl ?_
    exact m_iret d_Mo_rename_396 rfl rfl ⟨U, lab, hf, rfl, rfl, fun q hq => h3 q (by omega), fun q hq => h14 q (by omega), hk.2.2⟩
  | succ r ih =>
    intro m Z hm hk h25 h3 h14 h14b
    have hmn : m < nm := by omega
    have hm24 : m < 24 := by omega
    have hit := hw.2.2.2.1 m hmn
    have inner : ∀ r j (Z : Nat → Nat → Int32), j + r = iN X m → rnK X lab (gaN X nm) nm (frS X U lab nm (gaN X nm) nm) Z → (∀ q, q < nm → ∀ j, j < iN X q → Z 25 (q * 5 + j) = nnF X lab nm (frS X U lab nm (gaN X nm) nm) (q * 5 + j)) → (∀ q, q < m → Z 3 q = frS X U lab nm (gaN X nm) nm (lab q)) → (∀ q, q < m → ∀ j, j < iN X q → Z 14 (q * 5 + j) = if 0 < X 12 (q * 5 + j) then nnF X lab nm (frS X U lab nm (gaN X nm) nm) (q * 5 + j) else X 14 (q * 5 + j)) → (∀ q, q < j → Z 14 (m * 5 + q) = if 0 < X 12 (m * 5 + q) then nnF X lab nm (frS X U lab nm (gaN X nm) nm) (m * 5 + q) else X 14 (m * 5 + q)) → (∀ i, m * 5 + j ≤ i → Z 14 i = X 14 i) → VM G M_Mo_rename 4 130 323 (rnL am (gaN X nm) (cntB (rtB lab) nm) nx m ++ [(5, .int (nI (m * 5 + j)))]) [] am ad Z (va_up Y 19 0) (rnQ X Y nc nm) := by
      intro r
      induction r with
      | zero =>
        intro j Z hj hk h25 h3 h14 h14c h14b
        have hlm := hlab m (by omega)
        refine m_iload d_Mo_rename_323 rfl ?_
        refine m_iload d_Mo_rename_325 rfl ?_
        refine m_iconst (v := 5) d_Mo_rename_327 (by decide) ?_
        refine m_imul d_Mo_rename_328 ?_
        refine m_aload_n d_Mo_rename_329 rfl (by first | rfl | exact vIsR_rf _) ?_
        refine m_get d_Mo_rename_330 5 (by decide) kf_Mo_25 rfl ?_
        refine m_iload d_Mo_rename_333 rfl ?_
        refine m_ald d_Mo_rename_335 m (by decide) (by exact rfl) (by exact hm24) ?_
        rw [hk.2.2 5 m (by decide) (by decide) (by omega), hit.2, show nI m * 5 = nI (m * 5) from pk_mul m 5]
        refine m_iadd d_Mo_rename_336 ?_
        rw [nI_add]
        refine m_icmp_ge (tgt := 370) d_Mo_rename_337 (by decide) (fun _ => ?_) (fun c => absurd (nI_le (by omega) (by omega)) c)
        refine m_aload_n d_Mo_rename_370 rfl (by first | rfl | exact vIsR_rf _) ?_
        refine m_get d_Mo_rename_371 3 (by decide) kf_Mo_19 rfl ?_
        refine m_iload d_Mo_rename_374 rfl ?_
        refine m_aload_n d_Mo_rename_376 rfl (by first | rfl | exact vIsR_rf _) ?_
        refine m_get d_Mo_rename_377 24 (by decide) kf_Mo_71 rfl ?_
        refine m_aload_n d_Mo_rename_380 rfl (by first | rfl | exact vIsR_rf _) ?_
        refine m_get d_Mo_rename_381 20 (by decide) kf_Mo_59 rfl ?_
        refine m_iload d_Mo_rename_384 rfl ?_
        refine m_at 386 rfl ?_
        refine m_ald d_Mo_rename_386 m (by decide) (by exact rfl) (by exact (show m < 144 by omega)) ?_
        rw [hk.1 m (by omega)]
        refine m_ald d_Mo_rename_387 (lab m) (by decide) (by exact rfl) (by exact (show lab m < 144 by omega)) ?_
        rw [hk.2.1 _ (by omega)]
        refine m_ast d_Mo_rename_388 m (by decide) (by exact rfl) (by exact hm24) ?_
        refine m_iincw (w := 1) d_Mo_rename_389 rfl (by decide) (by decide) rfl ?_
        refine m_goto (tgt := 308) d_Mo_rename_392 (by decide) ?_
        rw [nI_1]
        refine m_keep 5 rfl (ih (m + 1) _ (by omega) ⟨fun x hx => ?_, fun g hg => ?_, fun k i a b c => ?_⟩ (fun q hq i hi => ?_) (fun q hq => ?_) (fun q hq i hi => ?_) (fun i hi => ?_))
        · rw [mW_k (by decide)]; exact hk.1 x hx
        · rw [mW_k (by decide)]; exact hk.2.1 g hg
        · rw [mW_k a]; exact hk.2.2 k i a b c
        · rw [mW_k (by decide)]; exact h25 q hq i hi
        · by_cases e : q = m
          · subst e; rw [mW_at]
          · rw [mW_i e]; exact h3 q (by omega)
        · rw [mW_k (by decide)]
          by_cases e : q = m
          · subst e; exact h14c i (by omega)
          · exact h14 q (by omega) i hi
        · rw [mW_k (by decide)]; exact h14b i (by omega)
      | succ r ih2 =>
        intro j Z hj hk h25 h3 h14 h14c h14b
        have hi : m * 5 + j < 120 := by omega
        have go : ∀ Z' : Nat → Nat → Int32, (∀ k i, k ≠ 14 → Z' k i = Z k i) → (∀ i, i ≠ m * 5 + j → Z' 14 i = Z 14 i) → (Z' 14 (m * 5 + j) = if 0 < X 12 (m * 5 + j) then nnF X lab nm (frS X U lab nm (gaN X nm) nm) (m * 5 + j) else X 14 (m * 5 + j)) → VM G M_Mo_rename 4 130 364 (rnL am (gaN X nm) (cntB (rtB lab) nm) nx m ++ [(5, .int (nI (m * 5 + j)))]) [] am ad Z' (va_up Y 19 0) (rnQ X Y nc nm) := by
          intro Z' z1 z2 z3
          refine m_iincw (w := 1) d_Mo_rename_364 rfl (by decide) (by decide) rfl ?_
          refine m_goto (tgt := 323) d_Mo_rename_367 (by decide) ?_
          rw [nI_1]
          refine ih2 (j + 1) Z' (by omega) ⟨fun x hx => ?_, fun g hg => ?_, fun k i a b c => ?_⟩ (fun q hq i hi => ?_) (fun q hq => ?_) (fun q hq i hi => ?_) (fun q hq => ?_) (fun i hi => ?_)
          · rw [z1 _ _ (by decide)]; exact hk.1 x hx
          · rw [z1 _ _ (by decide)]; exact hk.2.1 g hg
          · rw [z1 _ _ b]; exact hk.2.2 k i a b c
          · rw [z1 _ _ (by decide)]; exact h25 q hq i hi
          · rw [z1 _ _ (by decide)]; exact h3 q hq
          · have := (hw.2.2.2.1 q (by omega)).1
            rw [z2 _ (by omega)]; exact h14 q hq i hi
          · by_cases e : q = j
            · subst e; exact z3
            · rw [z2 _ (by omega)]; exact h14c q (by omega)
          · rw [z2 _ (by omega)]; exact h14b i (by omega)
        refine m_iload d_Mo_rename_323 rfl ?_
        refine m_iload d_Mo_rename_325 rfl ?_
        refine m_iconst (v := 5) d_Mo_rename_327 (by decide) ?_
        refine m_imul d_Mo_rename_328 ?_
        refine m_aload_n d_Mo_rename_329 rfl (by first | rfl | exact vIsR_rf _) ?_
        refine m_get d_Mo_rename_330 5 (by decide) kf_Mo_25 rfl ?_
        refine m_iload d_Mo_rename_333 rfl ?_
        refine m_ald d_Mo_rename_335 m (by decide) (by exact rfl) (by exact hm24) ?_
        rw [hk.2.2 5 m (by decide) (by decide) (by omega), hit.2, show nI m * 5 = nI (m * 5) from pk_mul m 5]
        refine m_iadd d_Mo_rename_336 ?_
        rw [nI_add]
        refine m_icmp_ge (tgt := 370) d_Mo_rename_337 (by decide) (fun c => absurd c (nI_ge (by omega) (by omega))) (fun _ => ?_)
        refine m_aload_n d_Mo_rename_340 rfl (by first | rfl | exact vIsR_rf _) ?_
        refine m_get d_Mo_rename_341 12 (by decide) kf_Mo_47 rfl ?_
        refine m_iload d_Mo_rename_344 rfl ?_
        refine m_ald d_Mo_rename_346 (m * 5 + j) (by decide) (by exact rfl) (by exact hi) ?_
        rw [hk.2.2 12 _ (by decide) (by decide) (by omega)]
        refine m_if_le (tgt := 364) d_Mo_rename_347 (by decide) (fun c_347 => ?_) (fun c_347 => ?_)
        · exact go Z (fun _ _ _ => rfl) (fun _ _ => rfl) (by rw [if_neg (fun z => Int32.not_lt.mpr c_347 z)]; exact h14b _ (by omega))
        · refine m_aload_n d_Mo_rename_350 rfl (by first | rfl | exact vIsR_rf _) ?_
          refine m_get d_Mo_rename_351 14 (by decide) kf_Mo_53 rfl ?_
          refine m_iload d_Mo_rename_354 rfl ?_
          refine m_aload_n d_Mo_rename_356 rfl (by first | rfl | exact vIsR_rf _) ?_
          refine m_get d_Mo_rename_357 25 (by decide) kf_Mo_74 rfl ?_
          refine m_iload d_Mo_rename_360 rfl ?_
          refine m_ald d_Mo_rename_362 (m * 5 + j) (by decide) (by exact rfl) (by exact hi) ?_
          rw [h25 m hmn j (by omega)]
          refine m_ast d_Mo_rename_363 (m * 5 + j) (by decide) (by exact rfl) (by exact hi) ?_
          exact go _ (fun k i h => mW_k h) (fun i h => mW_i h) (by rw [mW_at, if_pos (Int32.not_le.mp c_347)])
    refine m_iload d_Mo_rename_308 rfl ?_
    refine m_aload_n d_Mo_rename_310 rfl (by first | rfl | exact vIsR_rf _) ?_
    refine m_get d_Mo_rename_311 17 (by decide) kf_Mo_103 rfl ?_
    refine m_icmp_ge (tgt := 395) d_Mo_rename_314 (by decide) (fun c => absurd c ((by rw [show va_up Y 19 0 17 = nI nm from hy]; exact nI_ge (by omega) (by omega)))) (fun _ => ?_)
    refine m_iload d_Mo_rename_317 rfl ?_
    refine m_iconst (v := 5) d_Mo_rename_319 (by decide) ?_
    refine m_imul d_Mo_rename_320 ?_
    refine m_istore d_Mo_rename_321 (by decide) rfl ?_
    rw [show nI m * 5 = nI (m * 5) from pk_mul m 5]
    exact inner (iN X m) 0 Z (by omega) hk h25 h3 h14 (fun q hq => absurd hq (Nat.not_lt_zero q)) h14b
end VM12
