/-! The reference: run. -/
section VM14
variable {G : vG} {am : Nat} {ad : Nat → Nat} {X : Nat → Nat → Int32} {Y : Nat → Int32}
abbrev rS : Type := Nat × Int32
abbrev rR : Type := Int32 ⊕ rS
def oneF (X : Nat → Nat → Int32) (P : Nat → Int32 → Int32 → rS → rR) (k i : Nat) (s : rS) : rR :=
  if s.1 = 300 then .inl 3 else if X 12 i = 0 then .inr (s.1 + 1, s.2 * 31 + X 13 i) else P (if X 12 i = 1 then cN X i else k) (X 14 i) (X 15 i) (s.1 + 1, s.2)
def itsF (X : Nat → Nat → Int32) (P : Nat → Int32 → Int32 → rS → rR) (k m : Nat) : Nat → Nat → rS → rR
  | 0, _, s => .inr s
  | c + 1, j, s => match oneF X P k (m * 5 + j) s with
    | .inl e => .inl e
    | .inr s' => itsF X P k m c (j + 1) s'
def perF (X : Nat → Nat → Int32) (nm : Nat) : Nat → Nat → Int32 → Int32 → rS → rR
  | 0, _, _, _, _ => .inl 3
  | d + 1, k, n, r, s => match findS X nm n r 9 k with
    | none => .inl 2
    | some m => itsF X (perF X nm d) k m (iN X m) 0 s
abbrev ruL (am : Nat) (o n r : Int32) (D dn : Nat) (oc k n1 r1 call : Int32) : List (Nat × Value) := [(0, .ref am), (1, .int o), (2, .int n), (3, .int r), (4, .int (nI D)), (5, .int (nI dn)), (6, .int oc), (7, .int k), (8, .int n1), (9, .int r1), (10, .int call)]
def ruZ (Z Z' : Nat → Nat → Int32) (D : Nat) : Prop := (∀ k i, k < 28 → Z' k i = Z k i) ∧ ∀ k i, 28 ≤ k → k ≤ 30 → i ≤ D → Z' k i = Z k i
theorem ruZ.tr {Z Z' Z'' : Nat → Nat → Int32} {D : Nat} (h : ruZ Z Z' D) (h2 : ruZ Z' Z'' D) : ruZ Z Z'' D := ⟨fun k i hk => by rw [h2.1 k i hk]; exact h.1 k i hk, fun k i a b c => by rw [h2.2 k i a b c]; exact h.2 k i a b c⟩
/-- a call, from 62 on: it fails with what perF says, or comes back to 62 -/
def ruC (G : vG) (am : Nat) (ad : Nat → Nat) (X : Nat → Nat → Int32) (Y : Nat → Int32) (nc nm d : Nat) (Q : vR → (Nat → Nat → Int32) → (Nat → Int32) → Prop) : Prop :=
  ∀ (D k : Nat) (o n r n1 r1 : Int32) (s : rS) (Z : Nat → Nat → Int32), D + d = 16 → k < nc → s.1 ≤ 300 → (∀ q i, q < 28 → Z q i = X q i) →
    (∀ e Z', perF X nm d k n1 r1 s = .inl e → ruZ Z Z' D → Q (.inl (some (.int 0))) Z' (va_up Y 19 e)) →
    (∀ s' Z' k' n' r', perF X nm d k n1 r1 s = .inr s' → s'.1 ≤ 300 → ruZ Z Z' D → VM G M_Mo_run 2 60 62 (ruL am o n r D s'.1 s'.2 k' n' r' 0) [] am ad Z' Y Q) →
    VM G M_Mo_run 2 60 62 (ruL am o n r D s.1 s.2 (nI k) n1 r1 1) [] am ad Z Y Q
theorem m_run_items {nc nm d m : Nat} {Q : vR → (Nat → Nat → Int32) → (Nat → Int32) → Prop} (hw : wW X nc nm) (hy : Y 17 = nI nm) (hC : ruC G am ad X Y nc nm d Q) (hm : m < nm) : ∀ (c j D k : Nat) (o n r k1 n1 r1 : Int32) (s : rS) (Z : Nat → Nat → Int32), j + c = iN X m → D + d = 15 → k < nc → s.1 ≤ 300 → (∀ q i, q < 28 → Z q i = X q i) → Z 28 (D + 1) = nI m → Z 29 (D + 1) = nI j → Z 30 (D + 1) = nI k →
    (∀ e Z', itsF X (perF X nm d) k m c j s = .inl e → ruZ Z Z' D → Q (.inl (some (.int 0))) Z' (va_up Y 19 e)) →
    (∀ s' Z' k' n' r', itsF X (perF X nm d) k m c j s = .inr s' → s'.1 ≤ 300 → ruZ Z Z' D → VM G M_Mo_run 2 60 62 (ruL am o n r D s'.1 s'.2 k' n' r' 0) [] am ad Z' Y Q) →
    VM G M_Mo_run 2 60 145 (ruL am o n r (D + 1) s.1 s.2 k1 n1 r1 0) [] am ad Z Y Q := by
  have h24 := hw.2.1
  have hit := hw.2.2.2.1 m hm
  have hm24 : m < 24 := by omega
  intro c
  induction c with
  | zero =>
    intro j D k o n r k1 n1 r1 s Z hj hD hk hs zx z28 z29 z30 KE KO
    have hD17 : D + 1 < 17 := by omega
    refine m_aload_n d_Mo_run_145 rfl (by first | rfl | exact vIsR_rf _) ?_
    refine m_get d_Mo_run_146 28 (by decide) kf_Mo_83 rfl ?_
    refine m_iload d_Mo_run_149 rfl ?_
    refine m_ald d_Mo_run_151 (D + 1) (by decide) (by exact rfl) (by exact hD17) ?_
    rw [z28]
    refine m_istore d_Mo_run_152 (by decide) rfl ?_
    refine m_iload d_Mo_run_154 rfl ?_
    refine m_iconst (v := 5) d_Mo_run_156 (by decide) ?_
    refine m_imul d_Mo_run_157 ?_
    refine m_aload_n d_Mo_run_158 rfl (by first | rfl | exact vIsR_rf _) ?_
    refine m_get d_Mo_run_159 29 (by decide) kf_Mo_86 rfl ?_
    refine m_iload d_Mo_run_162 rfl ?_
    refine m_ald d_Mo_run_164 (D + 1) (by decide) (by exact rfl) (by exact hD17) ?_
    rw [z29]
    refine m_iadd d_Mo_run_165 ?_
    refine m_istore d_Mo_run_166 (by decide) rfl ?_
    refine m_aload_n d_Mo_run_168 rfl (by first | rfl | exact vIsR_rf _) ?_
    refine m_get d_Mo_run_169 29 (by decide) kf_Mo_86 rfl ?_
    refine m_iload d_Mo_run_172 rfl ?_
    refine m_ald d_Mo_run_174 (D + 1) (by decide) (by exact rfl) (by exact hD17) ?_
    rw [z29]
    refine m_aload_n d_Mo_run_175 rfl (by first | rfl | exact vIsR_rf _) ?_
    refine m_get d_Mo_run_176 5 (by decide) kf_Mo_25 rfl ?_
    refine m_iload d_Mo_run_179 rfl ?_
    refine m_ald d_Mo_run_181 m (by decide) (by exact rfl) (by exact hm24) ?_
    rw [zx 5 m (by decide), hit.2]
    refine m_icmp_ne (tgt := 191) d_Mo_run_182 (by decide) (fun c => absurd ((show nI j = nI (iN X m) by rw [show j = iN X m by omega])) c) (fun _ => ?_)
    refine m_iincw (n := (-1)) (x := nI (D + 1)) (w := (-1)) (i := 4) d_Mo_run_185 rfl (by decide) (by decide) rfl ?_
    rw [pk_m1]
    refine m_goto (tgt := 62) d_Mo_run_188 (by decide) ?_
    exact m_keep 11 rfl (KO s Z k1 n1 r1 rfl hs ⟨fun _ _ _ => rfl, fun _ _ _ _ _ => rfl⟩)
  | succ c ih =>
    intro j D k o n r k1 n1 r1 s Z hj hD hk hs zx z28 z29 z30 KE KO
    have hD17 : D + 1 < 17 := by omega
    have hi : m * 5 + j < 120 := by omega
    have hji : j < iN X m := by omega
    refine m_aload_n d_Mo_run_145 rfl (by first | rfl | exact vIsR_rf _) ?_
    refine m_get d_Mo_run_146 28 (by decide) kf_Mo_83 rfl ?_
    refine m_iload d_Mo_run_149 rfl ?_
    refine m_ald d_Mo_run_151 (D + 1) (by decide) (by exact rfl) (by exact hD17) ?_
    rw [z28]
    refine m_istore d_Mo_run_152 (by decide) rfl ?_
    refine m_iload d_Mo_run_154 rfl ?_
    refine m_iconst (v := 5) d_Mo_run_156 (by decide) ?_
    refine m_imul d_Mo_run_157 ?_
    refine m_aload_n d_Mo_run_158 rfl (by first | rfl | exact vIsR_rf _) ?_
    refine m_get d_Mo_run_159 29 (by decide) kf_Mo_86 rfl ?_
    refine m_iload d_Mo_run_162 rfl ?_
    refine m_ald d_Mo_run_164 (D + 1) (by decide) (by exact rfl) (by exact hD17) ?_
    rw [z29, show nI m * 5 = nI (m * 5) from pk_mul m 5]
    refine m_iadd d_Mo_run_165 ?_
    rw [nI_add]
    refine m_istore d_Mo_run_166 (by decide) rfl ?_
    refine m_aload_n d_Mo_run_168 rfl (by first | rfl | exact vIsR_rf _) ?_
    refine m_get d_Mo_run_169 29 (by decide) kf_Mo_86 rfl ?_
    refine m_iload d_Mo_run_172 rfl ?_
    refine m_ald d_Mo_run_174 (D + 1) (by decide) (by exact rfl) (by exact hD17) ?_
    rw [z29]
    refine m_aload_n d_Mo_run_175 rfl (by first | rfl | exact vIsR_rf _) ?_
    refine m_get d_Mo_run_176 5 (by decide) kf_Mo_25 rfl ?_
    refine m_iload d_Mo_run_179 rfl ?_
    refine m_ald d_Mo_run_181 m (by decide) (by exact rfl) (by exact hm24) ?_
    rw [zx 5 m (by decide), hit.2]
    refine m_icmp_ne (tgt := 191) d_Mo_run_182 (by decide) (fun _ => ?_) (fun c => absurd c ((show ¬ nI j = nI (iN X m) from fun z => by have := (nI_eq (by omega) (by omega)).mp z; omega)))
    refine m_iload d_Mo_run_191 rfl ?_
    refine m_sipush (v := 300) d_Mo_run_193 (by decide) ?_
    by_cases h300 : s.1 = 300
    · refine m_icmp_ne (tgt := 205) d_Mo_run_196 (by decide) (fun c => absurd ((show nI s.1 = 300 by rw [h300]; rfl)) c) (fun _ => ?_)
      refine m_aload_n d_Mo_run_199 rfl (by first | rfl | exact vIsR_rf _) ?_
      refine m_iconst (v := 3) d_Mo_run_200 (by decide) ?_
      refine m_callV1r (M1 := M_Mo_fail) d_Mo_run_201 km_Mo_114 kI_Mo_fail ks_Mo_Mo_fail (by decide) (by first | rfl | exact vRf_cat _) (by decide) kM_Mo_fail ki_Mo (by decide) (by decide +kernel) c_Mo_fail ?_
      exact m_iret d_Mo_run_204 rfl rfl (KE 3 Z (by simp [itsF, oneF, h300]) ⟨fun _ _ _ => rfl, fun _ _ _ _ _ => rfl⟩)
    · have hs3 : ¬ nI s.1 = 300 := fun z => h300 ((nI_eq (b := 300) (by omega) (by omega)).mp z)
      refine m_icmp_ne (tgt := 205) d_Mo_run_196 (by decide) (fun _ => ?_) (fun c => absurd c (hs3))
      refine m_iincw (w := 1) d_Mo_run_205 rfl (by decide) (by decide) rfl ?_
      refine m_aload_n d_Mo_run_208 rfl (by first | rfl | exact vIsR_rf _) ?_
      refine m_get d_Mo_run_209 29 (by decide) kf_Mo_86 rfl ?_
      refine m_iload d_Mo_run_212 rfl ?_
      refine m_dup2 d_Mo_run_214 (by first | rfl | exact vRf_cat _) (by first | rfl | exact vRf_cat _) ?_
      refine m_ald d_Mo_run_215 (D + 1) (by decide) (by exact rfl) (by exact hD17) ?_
      rw [nI_1, z29]
      refine m_iconst (v := 1) d_Mo_run_216 (by decide) ?_
      refine m_iadd d_Mo_run_217 ?_
      rw [nI_1]
      refine m_ast d_Mo_run_218 (D + 1) (by decide) (by exact rfl) (by exact hD17) ?_
      refine m_aload_n d_Mo_run_219 rfl (by first | rfl | exact vIsR_rf _) ?_
      refine m_get d_Mo_run_220 12 (by decide) kf_Mo_47 rfl ?_
      refine m_iload d_Mo_run_223 rfl ?_
      refine m_ald d_Mo_run_225 (m * 5 + j) (by decide) (by exact rfl) (by exact hi) ?_
      rw [mW_k (by decide), zx 12 _ (by decide)]
      -- the state behind the item's counting
      have zx2 : ∀ q i, q < 28 → mW Z 29 (D + 1) (nI (j + 1)) q i = X q i := fun q i hq => by rw [mW_k (by omega)]; exact zx q i hq
      have w28 : mW Z 29 (D + 1) (nI (j + 1)) 28 (D + 1) = nI m := by rw [mW_k (by decide)]; exact z28
      have w29 : mW Z 29 (D + 1) (nI (j + 1)) 29 (D + 1) = nI (j + 1) := mW_at
      have w30 : mW Z 29 (D + 1) (nI (j + 1)) 30 (D + 1) = nI k := by rw [mW_k (by decide)]; exact z30
      have hZ : ruZ Z (mW Z 29 (D + 1) (nI (j + 1))) D := ⟨fun q i hq => mW_k (by omega), fun q i _ _ hi => mW_i (by omega)⟩
      -- on with the next item, from 62
      have next : ∀ (s' : rS) (Z' : Nat → Nat → Int32) (k' n' r' : Int32) (w11 w12 : Int32), oneF X (perF X nm d) k (m * 5 + j) s = .inr s' → s'.1 ≤ 300 → ruZ (mW Z 29 (D + 1) (nI (j + 1))) Z' (D + 1) → VM G M_Mo_run 2 60 62 (ruL am o n r (D + 1) s'.1 s'.2 k' n' r' 0) [] am ad Z' Y Q := by
        intro s' Z' k' n' r' w11 w12 h1 hs' hz
        have e1 : itsF X (perF X nm d) k m (c + 1) j s = itsF X (perF X nm d) k m c (j + 1) s' := by
          show (match oneF X (perF X nm d) k (m * 5 + j) s with | .inl e => _ | .inr s' => _) = _
          rw [h1]
        have hz2 : ruZ Z Z' D := hZ.tr ⟨hz.1, fun q i a b c => hz.2 q i a b (by omega)⟩
        refine m_iload d_Mo_run_62 rfl ?_
        refine m_if_ne (tgt := 72) d_Mo_run_64 (by decide) (fun c => absurd (rfl) c) (fun _ => ?_)
        refine m_iload d_Mo_run_67 rfl ?_
        refine m_if_le (tgt := 301) d_Mo_run_69 (by decide) (fun c => absurd c (nI_nle (by omega) (by omega))) (fun _ => ?_)
        refine m_iload d_Mo_run_72 rfl ?_
        refine m_if_eq (tgt := 145) d_Mo_run_74 (by decide) (fun _ => ?_) (fun c => absurd (rfl) c)
        refine ih (j + 1) D k o n r k' n' r' s' Z' (by omega) hD hk hs' (fun q i hq => by rw [hz.1 q i hq]; exact zx2 q i hq) (by rw [hz.2 28 _ (by decide) (by decide) (Nat.le_refl _)]; exact w28) (by rw [hz.2 29 _ (by decide) (by decide) (Nat.le_refl _)]; exact w29) (by rw [hz.2 30 _ (by decide) (by decide) (Nat.le_refl _)]; exact w30) (fun e Z'' h2 h3 => KE e Z'' (by rw [e1]; exact h2) (hz2.tr h3)) (fun s'' Z'' k'' n'' r'' h2 h3 h4 => KO s'' Z'' k'' n'' r'' (by rw [e1]; exact h2) h3 (hz2.tr h4))
      by_cases hk0 : X 12 (m * 5 + j) = 0
      · rw [hk0]
        refine m_if_ne (tgt := 247) d_Mo_run_226 (by decide) (fun c => absurd (rfl) c) (fun _ => ?_)
        refine m_iload d_Mo_run_229 rfl ?_
        refine m_bipush (v := 31) d_Mo_run_231 (by decide) ?_
        refine m_imul d_Mo_run_233 ?_
        refine m_aload_n d_Mo_run_234 rfl (by first | rfl | exact vIsR_rf _) ?_
        refine m_get d_Mo_run_235 13 (by decide) kf_Mo_50 rfl ?_
        refine m_iload d_Mo_run_238 rfl ?_
        refine m_ald d_Mo_run_240 (m * 5 + j) (by decide) (by exact rfl) (by exact hi) ?_
        rw [mW_k (by decide), zx 13 _ (by decide)]
        refine m_iadd d_Mo_run_241 ?_
        refine m_istore d_Mo_run_242 (by decide) rfl ?_
        refine m_goto (tgt := 298) d_Mo_run_244 (by decide) ?_
        refine m_goto (tgt := 62) d_Mo_run_298 (by decide) ?_
        refine m_keep 11 rfl (next (s.1 + 1, s.2 * 31 + X 13 (m * 5 + j)) _ _ _ _ 0 0 ?_ (by show s.1 + 1 ≤ 300; omega) ⟨fun _ _ _ => rfl, fun _ _ _ _ _ => rfl⟩)
        simp [oneF, h300, hk0]
      · have h1 : oneF X (perF X nm d) k (m * 5 + j) s = perF X nm d (if X 12 (m * 5 + j) = 1 then cN X (m * 5 + j) else k) (X 14 (m * 5 + j)) (X 15 (m * 5 + j)) (s.1 + 1, s.2) := by simp [oneF, h300, hk0]
        have tail : ∀ kk : Nat, kk = (if X 12 (m * 5 + j) = 1 then cN X (m * 5 + j) else k) → kk < nc → VM G M_Mo_run 2 60 275 (ruL am o n r (D + 1) (s.1 + 1) s.2 k1 n1 r1 0 ++ [(11, .int (nI m)), (12, .int (nI (m * 5 + j)))]) [.int (nI kk)] am ad (mW Z 29 (D + 1) (nI (j + 1))) Y Q := by
          intro kk hkk hlt
          rw [← hkk] at h1
          refine m_istore d_Mo_run_275 (by decide) rfl ?_
          refine m_aload_n d_Mo_run_277 rfl (by first | rfl | exact vIsR_rf _) ?_
          refine m_get d_Mo_run_278 14 (by decide) kf_Mo_53 rfl ?_
          refine m_iload d_Mo_run_281 rfl ?_
          refine m_ald d_Mo_run_283 (m * 5 + j) (by decide) (by exact rfl) (by exact hi) ?_
          rw [zx2 14 _ (by decide)]
          refine m_istore d_Mo_run_284 (by decide) rfl ?_
          refine m_aload_n d_Mo_run_286 rfl (by first | rfl | exact vIsR_rf _) ?_
          refine m_get d_Mo_run_287 15 (by decide) kf_Mo_56 rfl ?_
          refine m_iload d_Mo_run_290 rfl ?_
          refine m_ald d_Mo_run_292 (m * 5 + j) (by decide) (by exact rfl) (by exact hi) ?_
          rw [zx2 15 _ (by decide)]
          refine m_istore d_Mo_run_293 (by decide) rfl ?_
          refine m_iconst (v := 1) d_Mo_run_295 (by decide) ?_
          refine m_istore d_Mo_run_296 (by decide) rfl ?_
          refine m_goto (tgt := 62) d_Mo_run_298 (by decide) ?_
          refine m_keep 11 rfl (hC (D + 1) kk o n r _ _ (s.1 + 1, s.2) _ (by omega) hlt (by show s.1 + 1 ≤ 300; omega) zx2 (fun e Z' h2 h3 => ?_) (fun s' Z' k' n' r' h2 h3 h4 => ?_))
          · refine KE e Z' ?_ (hZ.tr ⟨h3.1, fun q i a b c => h3.2 q i a b (by omega)⟩)
            show (match oneF X (perF X nm d) k (m * 5 + j) s with | .inl e => _ | .inr s' => _) = _
            rw [h1, h2]
          · exact next s' Z' k' n' r' 0 0 (by rw [h1]; exact h2) h3 h4
        refine m_if_ne (tgt := 247) d_Mo_run_226 (by decide) (fun _ => ?_) (fun c => absurd c (hk0))
        refine m_aload_n d_Mo_run_247 rfl (by first | rfl | exact vIsR_rf _) ?_
        refine m_get d_Mo_run_248 12 (by decide) kf_Mo_47 rfl ?_
        refine m_iload d_Mo_run_251 rfl ?_
        refine m_ald d_Mo_run_253 (m * 5 + j) (by decide) (by exact rfl) (by exact hi) ?_
        rw [zx2 12 _ (by decide)]
        refine m_iconst (v := 1) d_Mo_run_254 (by decide) ?_
        refine m_icmp_ne (tgt := 268) d_Mo_run_255 (by decide) (fun c_255 => ?_) (fun c_255 => ?_)
        · refine m_aload_n d_Mo_run_268 rfl (by first | rfl | exact vIsR_rf _) ?_
          refine m_get d_Mo_run_269 30 (by decide) kf_Mo_89 rfl ?_
          refine m_iload d_Mo_run_272 rfl ?_
          refine m_ald d_Mo_run_274 (D + 1) (by decide) (by exact rfl) (by exact hD17) ?_
          rw [w30]
          exact tail k (by rw [if_neg c_255]) hk
        · obtain ⟨g1, g2⟩ := hw.2.2.2.2.2 m hm j hji c_255
          refine m_aload_n d_Mo_run_258 rfl (by first | rfl | exact vIsR_rf _) ?_
          refine m_get d_Mo_run_259 13 (by decide) kf_Mo_50 rfl ?_
          refine m_iload d_Mo_run_262 rfl ?_
          refine m_ald d_Mo_run_264 (m * 5 + j) (by decide) (by exact rfl) (by exact hi) ?_
          refine m_goto (tgt := 275) d_Mo_run_265 (by decide) ?_
          rw [zx2 13 _ (by decide), g2]
          exact tail _ (by rw [if_pos c_255]) g1
theorem m_run_call {nc nm : Nat} {Q : vR → (Nat → Nat → Int32) → (Nat → Int32) → Prop} (hw : wW X nc nm) (hy : Y 17 = nI nm) : ∀ d, ruC G am ad X Y nc nm d Q := by
  have h24 := hw.2.1
  intro d
  induction d with
  | zero =>
    intro D k o n r n1 r1 s Z hD hk hs zx KE KO
    refine m_iload d_Mo_run_62 rfl ?_
    refine m_if_ne (tgt := 72) d_Mo_run_64 (by decide) (fun _ => ?_) (fun c => absurd c ((show ¬ (1 : Int32) = 0 by decide)))
    refine m_iload d_Mo_run_72 rfl ?_
    refine m_if_eq (tgt := 145) d_Mo_run_74 (by decide) (fun c => absurd c ((show ¬ (1 : Int32) = 0 by decide))) (fun _ => ?_)
    refine m_iload d_Mo_run_77 rfl ?_
    refine m_bipush (v := 16) d_Mo_run_79 (by decide) ?_
    refine m_icmp_ne (tgt := 90) d_Mo_run_81 (by decide) (fun c => absurd ((show nI D = 16 by rw [show D = 16 by omega]; rfl)) c) (fun _ => ?_)
    refine m_aload_n d_Mo_run_84 rfl (by first | rfl | exact vIsR_rf _) ?_
    refine m_iconst (v := 3) d_Mo_run_85 (by decide) ?_
    refine m_callV1r (M1 := M_Mo_fail) d_Mo_run_86 km_Mo_114 kI_Mo_fail ks_Mo_Mo_fail (by decide) (by first | rfl | exact vRf_cat _) (by decide) kM_Mo_fail ki_Mo (by decide) (by decide +kernel) c_Mo_fail ?_
    exact m_iret d_Mo_run_89 rfl rfl (KE 3 Z rfl ⟨fun _ _ _ => rfl, fun _ _ _ _ _ => rfl⟩)
  | succ d ih =>
    intro D k o n r n1 r1 s Z hD hk hs zx KE KO
    have hsm : sameS Z X := fun i => ⟨zx 0 i (by decide), zx 2 i (by decide), zx 3 i (by decide), zx 4 i (by decide)⟩
    refine m_iload d_Mo_run_62 rfl ?_
    refine m_if_ne (tgt := 72) d_Mo_run_64 (by decide) (fun _ => ?_) (fun c => absurd c ((show ¬ (1 : Int32) = 0 by decide)))
    refine m_iload d_Mo_run_72 rfl ?_
    refine m_if_eq (tgt := 145) d_Mo_run_74 (by decide) (fun c => absurd c ((show ¬ (1 : Int32) = 0 by decide))) (fun _ => ?_)
    refine m_iload d_Mo_run_77 rfl ?_
    refine m_bipush (v := 16) d_Mo_run_79 (by decide) ?_
    refine m_icmp_ne (tgt := 90) d_Mo_run_81 (by decide) (fun _ => ?_) (fun c => absurd c ((show ¬ nI D = 16 from fun z => by have := (nI_eq (b := 16) (by omega) (by omega)).mp z; omega)))
    refine m_aload_n d_Mo_run_90 rfl (by first | rfl | exact vIsR_rf _) ?_
    refine m_iload d_Mo_run_91 rfl ?_
    refine m_iload d_Mo_run_93 rfl ?_
    refine m_iload d_Mo_run_95 rfl ?_
    refine m_callV3r (M1 := M_Mo_find) d_Mo_run_97 km_Mo_125 kI_Mo_find ks_Mo_Mo_find (by decide) (by first | rfl | exact vRf_cat _) (by first | rfl | exact vRf_cat _) (by first | rfl | exact vRf_cat _) (by decide) kM_Mo_find ki_Mo (by decide) (by decide +kernel) (c_Mo_find (nc := nc) (nm := nm) (c := k) (sameS_wP hsm hw.1) hk hy h24) ?_
    rw [sameS_find hsm]
    cases hfd : findS X nm n1 r1 9 k with
    | none =>
      refine m_istore d_Mo_run_100 (by decide) rfl ?_
      refine m_iload d_Mo_run_102 rfl ?_
      refine m_if_ge (tgt := 113) d_Mo_run_104 (by decide) (fun c => absurd c ((show ¬ (0 : Int32) ≤ oI none by decide))) (fun _ => ?_)
      refine m_aload_n d_Mo_run_107 rfl (by first | rfl | exact vIsR_rf _) ?_
      refine m_iconst (v := 2) d_Mo_run_108 (by decide) ?_
      refine m_callV1r (M1 := M_Mo_fail) d_Mo_run_109 km_Mo_114 kI_Mo_fail ks_Mo_Mo_fail (by decide) (by first | rfl | exact vRf_cat _) (by decide) kM_Mo_fail ki_Mo (by decide) (by decide +kernel) c_Mo_fail ?_
      exact m_iret d_Mo_run_112 rfl rfl (KE 2 Z (by simp only [perF, hfd]) ⟨fun _ _ _ => rfl, fun _ _ _ _ _ => rfl⟩)
    | some m =>
      have hm : m < nm := findS_lt hfd
      rw [show oI (some m) = nI m from rfl]
      have hD17 : D + 1 < 17 := by omega
      have e1 : perF X nm (d + 1) k n1 r1 s = itsF X (perF X nm d) k m (iN X m) 0 s := by simp only [perF, hfd]
      refine m_istore d_Mo_run_100 (by decide) rfl ?_
      refine m_iload d_Mo_run_102 rfl ?_
      refine m_if_ge (tgt := 113) d_Mo_run_104 (by decide) (fun _ => ?_) (fun c => absurd ((show (0 : Int32) ≤ nI m from nI_pos' (by omega))) c)
      refine m_iincw (w := 1) d_Mo_run_113 rfl (by decide) (by decide) rfl ?_
      refine m_aload_n d_Mo_run_116 rfl (by first | rfl | exact vIsR_rf _) ?_
      refine m_get d_Mo_run_117 28 (by decide) kf_Mo_83 rfl ?_
      rw [nI_1]
      refine m_iload d_Mo_run_120 rfl ?_
      refine m_iload d_Mo_run_122 rfl ?_
      refine m_ast d_Mo_run_124 (D + 1) (by decide) (by exact rfl) (by exact hD17) ?_
      refine m_aload_n d_Mo_run_125 rfl (by first | rfl | exact vIsR_rf _) ?_
      refine m_get d_Mo_run_126 29 (by decide) kf_Mo_86 rfl ?_
      refine m_iload d_Mo_run_129 rfl ?_
      refine m_iconst (v := 0) d_Mo_run_131 (by decide) ?_
      refine m_ast d_Mo_run_132 (D + 1) (by decide) (by exact rfl) (by exact hD17) ?_
      refine m_at 133 rfl ?_
      refine m_aload_n d_Mo_run_133 rfl (by first | rfl | exact vIsR_rf _) ?_
      refine m_get d_Mo_run_134 30 (by decide) kf_Mo_89 rfl ?_
      refine m_iload d_Mo_run_137 rfl ?_
      refine m_iload d_Mo_run_139 rfl ?_
      refine m_ast d_Mo_run_141 (D + 1) (by decide) (by exact rfl) (by exact hD17) ?_
      refine m_iconst (v := 0) d_Mo_run_142 (by decide) ?_
      refine m_istore d_Mo_run_143 (by decide) rfl ?_
      have hZ : ruZ Z (mW (mW (mW Z 28 (D + 1) (nI m)) 29 (D + 1) 0) 30 (D + 1) (nI k)) D := ⟨fun q i hq => by rw [mW_k (by omega), mW_k (by omega), mW_k (by omega)], fun q i _ _ hi => by rw [mW_i (by omega), mW_i (by omega), mW_i (by omega)]⟩
      refine m_keep 11 rfl (m_run_items hw hy ih hm (iN X m) 0 D k o n r (nI k) n1 r1 s _ (by omega) (by omega) hk hs (fun q i hq => by rw [hZ.1 q i hq]; exact zx q i hq) (by rw [mW_k (by decide), mW_k (by decide), mW_at]) (by rw [mW_k (by decide), mW_at]; rfl) mW_at (fun e Z' h2 h3 => KE e Z' (by rw [e1]; exact h2) (hZ.tr h3)) (fun s' Z' k' n' r' h2 h3 h4 => KO s' Z' k' n' r' (by rw [e1]; exact h2) h3 (hZ.tr h4)))
def runQ (X : Nat → Nat → Int32) (Y : Nat → Int32) (p : rR) : vR → (Nat → Nat → Int32) → (Nat → Int32) → Prop := fun r X' Y' => (∀ k i, k < 28 → X' k i = X k i) ∧ match p with
  | .inl e => r = .inl (some (.int 0)) ∧ Y' = va_up Y 19 e
  | .inr s => r = .inl (some (.int s.2)) ∧ Y' = va_up Y 19 0
theorem m_run_go {o n r : Int32} {Q : vR → (Nat → Nat → Int32) → (Nat → Int32) → Prop} (k : VM G M_Mo_run 2 60 36 [(0, .ref am), (1, .int o), (2, .int n), (3, .int r)] [.int (bI (!metB Y o n r))] am ad X (va_up Y 19 (bI (!metB Y o n r))) Q) : VM G M_Mo_run 2 60 0 [(0, .ref am), (1, .int o), (2, .int n), (3, .int r)] [] am ad X Y Q := by
  have done : ∀ b : Bool, b = metB Y o n r → VM G M_Mo_run 2 60 33 [(0, .ref am), (1, .int o), (2, .int n), (3, .int r)] [.int (bI b), .ref am] am ad X Y Q := by
    intro b hb
    subst hb
    refine m_callV1r (M1 := M_Mo_bad) d_Mo_run_33 km_Mo_110 kI_Mo_bad ks_Mo_Mo_bad (by decide) (by first | rfl | exact vRf_cat _) (by decide) kM_Mo_bad ki_Mo (by decide) (by decide +kernel) c_Mo_bad ?_
    exact k
  refine m_aload_n d_Mo_run_0 rfl (by first | rfl | exact vIsR_rf _) ?_
  refine m_aload_n d_Mo_run_1 rfl (by first | rfl | exact vIsR_rf _) ?_
  refine m_iload_n d_Mo_run_2 rfl ?_
  refine m_callV1r (M1 := M_Mo_isClass) d_Mo_run_3 km_Mo_106 kI_Mo_isClass ks_Mo_Mo_isClass (by decide) (by first | rfl | exact vRf_cat _) (by decide) kM_Mo_isClass ki_Mo (by decide) (by decide +kernel) c_Mo_isClass ?_
  cases h1 : inB o 0 (Y 16 - 1) with
  | false =>
    refine m_if_eq (tgt := 32) d_Mo_run_6 (by decide) (fun _ => ?_) (fun c => absurd (rfl) c)
    refine m_iconst (v := 0) d_Mo_run_32 (by decide) ?_
    exact done false (by simp [metB, h1])
  | true =>
    refine m_if_eq (tgt := 32) d_Mo_run_6 (by decide) (fun c => absurd c (by decide)) (fun _ => ?_)
    refine m_iload_n d_Mo_run_9 rfl ?_
    refine m_iconst (v := 0) d_Mo_run_10 (by decide) ?_
    refine m_bipush (v := 25) d_Mo_run_11 (by decide) ?_
    refine m_callS3r (M1 := M_Mo_in) d_Mo_run_13 km_Mo_99 kS_Mo_in (by decide) (by first | rfl | exact vRf_cat _) (by first | rfl | exact vRf_cat _) (by first | rfl | exact vRf_cat _) (by decide) kM_Mo_in ki_Mo (by decide) (by decide +kernel) c_Mo_in ?_
    rw [show (decide ((0 : Int32) ≤ n) && decide (n ≤ 25)) = inB n 0 25 from rfl]
    cases h2 : inB n 0 25 with
    | false =>
      refine m_if_eq (tgt := 32) d_Mo_run_16 (by decide) (fun _ => ?_) (fun c => absurd (rfl) c)
      refine m_iconst (v := 0) d_Mo_run_32 (by decide) ?_
      exact done false (by simp [metB, h2])
    | true =>
      refine m_if_eq (tgt := 32) d_Mo_run_16 (by decide) (fun c => absurd c (by decide)) (fun _ => ?_)
      refine m_iload_n d_Mo_run_19 rfl ?_
      refine m_iconst (v := 0) d_Mo_run_20 (by decide) ?_
      refine m_iconst (v := 2) d_Mo_run_21 (by decide) ?_
      refine m_callS3r (M1 := M_Mo_in) d_Mo_run_22 km_Mo_99 kS_Mo_in (by decide) (by first | rfl | exact vRf_cat _) (by first | rfl | exact vRf_cat _) (by first | rfl | exact vRf_cat _) (by decide) kM_Mo_in ki_Mo (by decide) (by decide +kernel) c_Mo_in ?_
      rw [show (decide ((0 : Int32) ≤ r) && decide (r ≤ 2)) = inB r 0 2 from rfl]
      cases h3 : inB r 0 2 with
      | false =>
        refine m_if_eq (tgt := 32) d_Mo_run_25 (by decide) (fun _ => ?_) (fun c => absurd (rfl) c)
        refine m_iconst (v := 0) d_Mo_run_32 (by decide) ?_
        exact done false (by simp [metB, h3])
      | true =>
        refine m_if_eq (tgt := 32) d_Mo_run_25 (by decide) (fun c => absurd c (by decide)) (fun _ => ?_)
        refine m_iconst (v := 1) d_Mo_run_28 (by decide) ?_
        refine m_goto (tgt := 33) d_Mo_run_29 (by decide) ?_
        exact done true (by simp [metB, h1, h2, h3])
theorem c_Mo_run_bad {o n r : Int32} (hb : metB Y o n r = false) : VM G M_Mo_run 2 60 0 [(0, .ref am), (1, .int o), (2, .int n), (3, .int r)] [] am ad X Y (mRet (some (.int 0)) X (va_up Y 19 1)) := by
  refine m_run_go ?_
  rw [hb]
  refine m_if_eq (tgt := 41) d_Mo_run_36 (by decide) (fun c => absurd c (by decide)) (fun _ => ?_)
  refine m_iconst (v := 0) d_Mo_run_39 (by decide) ?_
  exact m_iret d_Mo_run_40 rfl rfl ⟨rfl, rfl, rfl⟩
theorem va_up_up {Y : Nat → Int32} {k : Nat} {x y : Int32} : va_up (va_up Y k x) k y = va_up Y k y := by
  funext i
  by_cases h : i = k
  · subst h; rw [va_up_self, va_up_self]
  · rw [va_up_ne _ _ h, va_up_ne _ _ h, va_up_ne _ _ h]
theorem c_Mo_run_ok {nc nm c : Nat} {n r : Int32} (hw : wW X nc nm) (hy : Y 17 = nI nm) (hb : metB Y (nI c) n r = true) (hc : c < nc) : VM G M_Mo_run 2 60 0 [(0, .ref am), (1, .int (nI c)), (2, .int n), (3, .int r)] [] am ad X Y (runQ X Y (perF X nm 16 c n r (0, 0))) := by
  refine m_run_go ?_
  rw [hb]
  refine m_if_eq (tgt := 41) d_Mo_run_36 (by decide) (fun _ => ?_) (fun c => absurd (rfl) c)
  refine m_iconst (v := 0) d_Mo_run_41 (by decide) ?_
  refine m_istore d_Mo_run_42 (by decide) rfl ?_
  refine m_iconst (v := 0) d_Mo_run_44 (by decide) ?_
  refine m_istore d_Mo_run_45 (by decide) rfl ?_
  refine m_iconst (v := 0) d_Mo_run_47 (by decide) ?_
  refine m_istore d_Mo_run_48 (by decide) rfl ?_
  refine m_iload_n d_Mo_run_50 rfl ?_
  refine m_istore d_Mo_run_51 (by decide) rfl ?_
  refine m_at 53 rfl ?_
  refine m_iload_n d_Mo_run_53 rfl ?_
  refine m_istore d_Mo_run_54 (by decide) rfl ?_
  refine m_iload_n d_Mo_run_56 rfl ?_
  refine m_istore d_Mo_run_57 (by decide) rfl ?_
  refine m_iconst (v := 1) d_Mo_run_59 (by decide) ?_
  refine m_istore d_Mo_run_60 (by decide) rfl ?_
  have hwy : (va_up Y 19 (bI !true)) 17 = nI nm := hy
  refine m_run_call (nm := nm) hw hwy 16 0 c (nI c) n r n r (0, 0) X rfl hc (by decide) (fun _ _ _ => rfl) (fun e Z' h1 h2 => ?_) (fun s' Z' k' n' r' h1 h2 h3 => ?_)
  · rw [h1]
    exact ⟨h2.1, rfl, va_up_up⟩
  · rw [h1]
    refine m_iload d_Mo_run_62 rfl ?_
    refine m_if_ne (tgt := 72) d_Mo_run_64 (by decide) (fun c => absurd (rfl) c) (fun _ => ?_)
    refine m_iload d_Mo_run_67 rfl ?_
    refine m_if_le (tgt := 301) d_Mo_run_69 (by decide) (fun _ => ?_) (fun c => absurd ((show nI 0 ≤ 0 by decide)) c)
    refine m_iload d_Mo_run_301 rfl ?_
    exact m_iret d_Mo_run_303 rfl rfl ⟨h3.1, rfl, rfl⟩
end VM14
