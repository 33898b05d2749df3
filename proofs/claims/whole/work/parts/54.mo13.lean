/-! The reference: rename, its first three loops. -/
section VM13
variable {G : vG} {am : Nat} {ad : Nat → Nat} {X : Nat → Nat → Int32} {Y : Nat → Int32}
theorem sf_skips {m : Nat} : ∀ r j, j + r = 5 → iN X m ≤ j → cntB (sfB X) ((m + 1) * 5) = cntB (sfB X) (m * 5 + j)
  | 0, j, hr, hj => by rw [show (m + 1) * 5 = m * 5 + j by omega]
  | r + 1, j, hr, hj => by
    have e : sfB X (m * 5 + j) = false := by
      simp only [sfB, Bool.and_eq_false_iff, decide_eq_false_iff_not]
      left
      rw [show (m * 5 + j) % 5 = j by omega, show (m * 5 + j) / 5 = m by omega]
      omega
    have hcs : cntB (sfB X) (m * 5 + j + 1) = cntB (sfB X) (m * 5 + j) := by show cntB (sfB X) (m * 5 + j) + _ = _; rw [e]; rfl
    rw [sf_skips r (j + 1) (by omega) (by omega), ← Nat.add_assoc]
    exact hcs
theorem sfB_at {m j : Nat} (h5 : j < 5) (hj : j < iN X m) : sfB X (m * 5 + j) = decide (X 12 (m * 5 + j) = 2) := by
  simp only [sfB]
  rw [show (m * 5 + j) % 5 = j by omega, show (m * 5 + j) / 5 = m by omega, decide_eq_true hj, Bool.true_and]
theorem rnZ_w25 {U : tU} {lab : Nat → Nat} {n nm nc i : Nat} {fr : Nat → Int32} {Z : Nat → Nat → Int32} {w : Int32} (h : rnZ X U lab n nm nc fr Z) : rnZ X U lab n nm nc fr (mW Z 25 i w) :=
  ⟨fun z hz => by rw [mW_k (by decide), mW_k (by decide), mW_k (by decide)]; exact h.1 z hz, fun x hx => by rw [mW_k (by decide)]; exact h.2.1 x hx, fun k i hk => by rw [mW_k (by omega)]; exact h.2.2.1 k i hk, fun g hg => by rw [mW_k (by decide)]; exact h.2.2.2 g hg⟩
theorem m_rn3 {U : tU} {lab : Nat → Nat} {nc nm : Nat} (hw : wW X nc nm) (hy : Y 17 = nI nm) (hf : famR X nc nm (gaN X nm) U lab) : ∀ r m (Z : Nat → Nat → Int32), m + r = nm → rnZ X U lab (gaN X nm) nm nc (frS X U lab nm (gaN X nm) nm) Z → (∀ q, q < m → ∀ j, j < iN X q → Z 25 (q * 5 + j) = nnF X lab nm (frS X U lab nm (gaN X nm) nm) (q * 5 + j)) → VM G M_Mo_rename 4 130 137 (rnL am (gaN X nm) (cntB (rtB lab) nm) (nm + cntB (sfB X) (m * 5)) m) [] am ad Z (va_up Y 19 0) (rnQ X Y nc nm) := by
  have h24 := hw.2.1
  have h144 := gaN_le (X := X) hw.2.1
  have hgn : nm ≤ gaN X nm := by unfold gaN; omega
  have hlab := hf.2.2.2.2.1
  have hwy : (va_up Y 19 0) 17 = nI nm := hy
  generalize hF : frS X U lab nm (gaN X nm) nm = F
  intro r
  induction r with
  | zero =>
    intro m Z hm hz h25
    refine m_iload d_Mo_rename_137 rfl ?_
    refine m_aload_n d_Mo_rename_139 rfl (by first | rfl | exact vIsR_rf _) ?_
    refine m_get d_Mo_rename_140 17 (by decide) kf_Mo_103 rfl ?_
    refine m_icmp_ge (tgt := 305) d_Mo_rename_143 (by decide) (fun _ => ?_) (fun c => absurd ((by rw [hwy]; exact nI_le (by omega) (by omega))) c)
    refine m_iconst (v := 0) d_Mo_rename_305 (by decide) ?_
    refine m_istore d_Mo_rename_306 (by decide) rfl ?_
    subst hF
    exact m_rn4 hw hy hf nm 0 Z (by omega) ⟨hz.2.1, hz.2.2.2, fun k i a b c => hz.2.2.1 k i c⟩ (fun q hq => h25 q (by omega)) (fun q hq => absurd hq (Nat.not_lt_zero q)) (fun q hq => absurd hq (Nat.not_lt_zero q)) (fun i _ => hz.2.2.1 14 i (by omega))
  | succ r ih =>
    intro m Z hm hz h25
    have hmn : m < nm := by omega
    have hm24 : m < 24 := by omega
    have hit := hw.2.2.2.1 m hmn
    have inner : ∀ r j (Z : Nat → Nat → Int32), j + r = iN X m → rnZ X U lab (gaN X nm) nm nc F Z → (∀ q, q < m → ∀ j, j < iN X q → Z 25 (q * 5 + j) = nnF X lab nm F (q * 5 + j)) → (∀ q, q < j → Z 25 (m * 5 + q) = nnF X lab nm F (m * 5 + q)) → VM G M_Mo_rename 4 130 152 (rnL am (gaN X nm) (cntB (rtB lab) nm) (nm + cntB (sfB X) (m * 5 + j)) m ++ [(5, .int (nI (m * 5 + j)))]) [] am ad Z (va_up Y 19 0) (rnQ X Y nc nm) := by
      intro r
      induction r with
      | zero =>
        intro j Z hj hz h25 h25c
        refine m_iload d_Mo_rename_152 rfl ?_
        refine m_iload d_Mo_rename_154 rfl ?_
        refine m_iconst (v := 5) d_Mo_rename_156 (by decide) ?_
        refine m_imul d_Mo_rename_157 ?_
        refine m_aload_n d_Mo_rename_158 rfl (by first | rfl | exact vIsR_rf _) ?_
        refine m_get d_Mo_rename_159 5 (by decide) kf_Mo_25 rfl ?_
        refine m_iload d_Mo_rename_162 rfl ?_
        refine m_ald d_Mo_rename_164 m (by decide) (by exact rfl) (by exact hm24) ?_
        rw [hz.2.2.1 5 m (by omega), hit.2, show nI m * 5 = nI (m * 5) from pk_mul m 5]
        refine m_iadd d_Mo_rename_165 ?_
        rw [nI_add]
        refine m_icmp_ge (tgt := 299) d_Mo_rename_166 (by decide) (fun _ => ?_) (fun c => absurd (nI_le (by omega) (by omega)) c)
        refine m_iincw (w := 1) d_Mo_rename_299 rfl (by decide) (by decide) rfl ?_
        refine m_goto (tgt := 137) d_Mo_rename_302 (by decide) ?_
        rw [nI_1, ← sf_skips (5 - j) j (by omega) (by omega)]
        refine m_keep 5 rfl (ih (m + 1) Z (by omega) hz (fun q hq i hi => ?_))
        by_cases e : q = m
        · subst e; exact h25c i (by omega)
        · exact h25 q (by omega) i hi
      | succ r ih2 =>
        intro j Z hj hz h25 h25c
        have hi : m * 5 + j < 120 := by omega
        have h5 : j < 5 := by omega
        have hji : j < iN X m := by omega
        have hcb := cntB_le (sfB X) (m * 5 + j)
        have es := sfB_at h5 hji
        have hsm := rnZ_same hz
        -- the end of the body
        have fin : ∀ (Z' : Nat → Nat → Int32) (x : Nat), x = nm + cntB (sfB X) (m * 5 + j + 1) → rnZ X U lab (gaN X nm) nm nc F Z' → (∀ i, i ≠ m * 5 + j → Z' 25 i = Z 25 i) → Z' 25 (m * 5 + j) = nnF X lab nm F (m * 5 + j) → ∀ w, VM G M_Mo_rename 4 130 293 (rnL am (gaN X nm) (cntB (rtB lab) nm) x m ++ [(5, .int (nI (m * 5 + j))), (6, .int w)]) [] am ad Z' (va_up Y 19 0) (rnQ X Y nc nm) := by
          intro Z' x hx z1 z2 z3 w
          subst hx
          refine m_iincw (w := 1) d_Mo_rename_293 rfl (by decide) (by decide) rfl ?_
          refine m_goto (tgt := 152) d_Mo_rename_296 (by decide) ?_
          rw [nI_1]
          refine m_keep 6 rfl (ih2 (j + 1) Z' (by omega) z1 (fun q hq i hi => ?_) (fun q hq => ?_))
          · have := (hw.2.2.2.1 q (by omega)).1
            rw [z2 _ (by omega)]; exact h25 q hq i hi
          · by_cases e : q = j
            · subst e; exact z3
            · rw [z2 _ (by omega)]; exact h25c q (by omega)
        -- found is known
        have mid : ∀ o : Option Nat, (∀ q, o = some q → q < nm) → (X 12 (m * 5 + j) ≠ 2 → frO F lab o = nnF X lab nm F (m * 5 + j)) → VM G M_Mo_rename 4 130 209 (rnL am (gaN X nm) (cntB (rtB lab) nm) (nm + cntB (sfB X) (m * 5 + j)) m ++ [(5, .int (nI (m * 5 + j)))]) [.int (oI o)] am ad Z (va_up Y 19 0) (rnQ X Y nc nm) := by
          intro o ho hno
          have put : ∀ w : Int32, w = frO F lab o → VM G M_Mo_rename 4 130 239 (rnL am (gaN X nm) (cntB (rtB lab) nm) (nm + cntB (sfB X) (m * 5 + j)) m ++ [(5, .int (nI (m * 5 + j))), (6, .int (oI o))]) [.int w, .int (nI (m * 5 + j)), .ref (ad 25)] am ad Z (va_up Y 19 0) (rnQ X Y nc nm) := by
            intro w hw2
            refine m_ast d_Mo_rename_239 (m * 5 + j) (by decide) (by exact rfl) (by exact hi) ?_
            refine m_aload_n d_Mo_rename_240 rfl (by first | rfl | exact vIsR_rf _) ?_
            refine m_get d_Mo_rename_241 12 (by decide) kf_Mo_47 rfl ?_
            refine m_iload d_Mo_rename_244 rfl ?_
            refine m_ald d_Mo_rename_246 (m * 5 + j) (by decide) (by exact rfl) (by exact hi) ?_
            rw [mW_k (by decide), hz.2.2.1 12 _ (by omega)]
            have hz2 := rnZ_w25 (i := m * 5 + j) (w := w) hz
            refine m_iconst (v := 2) d_Mo_rename_247 (by decide) ?_
            refine m_icmp_eq (tgt := 254) d_Mo_rename_248 (by decide) (fun c_248 => ?_) (fun c_248 => ?_)
            · -- a stand-in
              have hs : sfB X (m * 5 + j) = true := by rw [es]; exact decide_eq_true c_248
              have hcs : cntB (sfB X) (m * 5 + j + 1) = cntB (sfB X) (m * 5 + j) + 1 := by show cntB (sfB X) (m * 5 + j) + _ = _; rw [hs]; rfl
              have hlt : nm + cntB (sfB X) (m * 5 + j) < gaN X nm := by
                have := cntB_step (f := sfB X) (show m * 5 + j < nm * 5 by omega) hs
                unfold gaN; omega
              have hl := hlab _ hlt
              have put2 : ∀ w2 : Int32, w2 = nnF X lab nm F (m * 5 + j) → VM G M_Mo_rename 4 130 289 (rnL am (gaN X nm) (cntB (rtB lab) nm) (nm + cntB (sfB X) (m * 5 + j)) m ++ [(5, .int (nI (m * 5 + j))), (6, .int (oI o))]) [.int w2, .int (nI (m * 5 + j)), .ref (ad 25)] am ad (mW Z 25 (m * 5 + j) w) (va_up Y 19 0) (rnQ X Y nc nm) := by
                intro w2 hw3
                refine m_ast d_Mo_rename_289 (m * 5 + j) (by decide) (by exact rfl) (by exact hi) ?_
                refine m_iincw (w := 1) d_Mo_rename_290 rfl (by decide) (by decide) rfl ?_
                rw [nI_1]
                exact fin _ (nm + cntB (sfB X) (m * 5 + j) + 1) (by rw [hcs]; rfl) (rnZ_w25 hz2) (fun i hi => by rw [mW_i hi, mW_i hi]) (by rw [mW_at]; exact hw3) _
              refine m_aload_n d_Mo_rename_254 rfl (by first | rfl | exact vIsR_rf _) ?_
              refine m_get d_Mo_rename_255 25 (by decide) kf_Mo_74 rfl ?_
              refine m_iload d_Mo_rename_258 rfl ?_
              refine m_aload_n d_Mo_rename_260 rfl (by first | rfl | exact vIsR_rf _) ?_
              refine m_get d_Mo_rename_261 20 (by decide) kf_Mo_59 rfl ?_
              refine m_iload_n d_Mo_rename_264 rfl ?_
              refine m_ald d_Mo_rename_265 (nm + cntB (sfB X) (m * 5 + j)) (by decide) (by exact rfl) (by exact (show _ < 144 by omega)) ?_
              rw [hz2.2.1 _ hlt, ]
              refine m_aload_n d_Mo_rename_266 rfl (by first | rfl | exact vIsR_rf _) ?_
              refine m_get d_Mo_rename_267 17 (by decide) kf_Mo_103 rfl ?_
              rw [hwy]
              by_cases hln : lab (nm + cntB (sfB X) (m * 5 + j)) < nm
              · refine m_icmp_ge (tgt := 287) d_Mo_rename_270 (by decide) (fun c => absurd c (nI_ge hln (by omega))) (fun _ => ?_)
                refine m_aload_n d_Mo_rename_273 rfl (by first | rfl | exact vIsR_rf _) ?_
                refine m_get d_Mo_rename_274 24 (by decide) kf_Mo_71 rfl ?_
                refine m_aload_n d_Mo_rename_277 rfl (by first | rfl | exact vIsR_rf _) ?_
                refine m_get d_Mo_rename_278 20 (by decide) kf_Mo_59 rfl ?_
                refine m_iload_n d_Mo_rename_281 rfl ?_
                refine m_ald d_Mo_rename_282 (nm + cntB (sfB X) (m * 5 + j)) (by decide) (by exact rfl) (by exact (show _ < 144 by omega)) ?_
                rw [hz2.2.1 _ hlt]
                refine m_ald d_Mo_rename_283 (lab (nm + cntB (sfB X) (m * 5 + j))) (by decide) (by exact rfl) (by exact (show _ < 144 by omega)) ?_
                rw [hz2.2.2.2 _ hln]
                refine m_goto (tgt := 289) d_Mo_rename_284 (by decide) ?_
                exact put2 _ (by simp [nnF, c_248, hln])
              · refine m_icmp_ge (tgt := 287) d_Mo_rename_270 (by decide) (fun _ => ?_) (fun c => absurd (nI_le (by omega) (by omega)) c)
                refine m_bipush (v := 26) d_Mo_rename_287 (by decide) ?_
                exact put2 _ (by simp [nnF, c_248, hln])
            · have hs : sfB X (m * 5 + j) = false := by rw [es]; exact decide_eq_false c_248
              have hcs : cntB (sfB X) (m * 5 + j + 1) = cntB (sfB X) (m * 5 + j) := by show cntB (sfB X) (m * 5 + j) + _ = _; rw [hs]; rfl
              refine m_goto (tgt := 293) d_Mo_rename_251 (by decide) ?_
              exact fin _ _ (by rw [hcs]) hz2 (fun i hi => by rw [mW_i hi]) (by rw [mW_at, hw2]; exact hno c_248) _
          cases o with
          | none =>
            refine m_istore d_Mo_rename_209 (by decide) rfl ?_
            refine m_aload_n d_Mo_rename_211 rfl (by first | rfl | exact vIsR_rf _) ?_
            refine m_get d_Mo_rename_212 25 (by decide) kf_Mo_74 rfl ?_
            refine m_iload d_Mo_rename_215 rfl ?_
            refine m_iload d_Mo_rename_217 rfl ?_
            refine m_if_ge (tgt := 227) d_Mo_rename_219 (by decide) (fun c => absurd c ((show ¬ (0 : Int32) ≤ oI none by decide))) (fun _ => ?_)
            refine m_bipush (v := 26) d_Mo_rename_222 (by decide) ?_
            refine m_goto (tgt := 239) d_Mo_rename_224 (by decide) ?_
            exact put 26 rfl
          | some q =>
            have hq := ho q rfl
            have hlq := hlab q (by omega)
            refine m_istore d_Mo_rename_209 (by decide) rfl ?_
            refine m_aload_n d_Mo_rename_211 rfl (by first | rfl | exact vIsR_rf _) ?_
            refine m_get d_Mo_rename_212 25 (by decide) kf_Mo_74 rfl ?_
            refine m_iload d_Mo_rename_215 rfl ?_
            refine m_iload d_Mo_rename_217 rfl ?_
            refine m_if_ge (tgt := 227) d_Mo_rename_219 (by decide) (fun _ => ?_) (fun c => absurd ((show (0 : Int32) ≤ nI q from nI_pos' (by omega))) c)
            refine m_aload_n d_Mo_rename_227 rfl (by first | rfl | exact vIsR_rf _) ?_
            refine m_get d_Mo_rename_228 24 (by decide) kf_Mo_71 rfl ?_
            refine m_aload_n d_Mo_rename_231 rfl (by first | rfl | exact vIsR_rf _) ?_
            refine m_get d_Mo_rename_232 20 (by decide) kf_Mo_59 rfl ?_
            refine m_iload d_Mo_rename_235 rfl ?_
            refine m_ald d_Mo_rename_237 q (by decide) (by exact rfl) (by exact (show q < 144 by omega)) ?_
            rw [hz.2.1 q (by omega)]
            refine m_ald d_Mo_rename_238 (lab q) (by decide) (by exact rfl) (by exact (show lab q < 144 by omega)) ?_
            rw [hz.2.2.2 _ (by omega)]
            exact put _ rfl
        refine m_iload d_Mo_rename_152 rfl ?_
        refine m_iload d_Mo_rename_154 rfl ?_
        refine m_iconst (v := 5) d_Mo_rename_156 (by decide) ?_
        refine m_imul d_Mo_rename_157 ?_
        refine m_aload_n d_Mo_rename_158 rfl (by first | rfl | exact vIsR_rf _) ?_
        refine m_get d_Mo_rename_159 5 (by decide) kf_Mo_25 rfl ?_
        refine m_iload d_Mo_rename_162 rfl ?_
        refine m_ald d_Mo_rename_164 m (by decide) (by exact rfl) (by exact hm24) ?_
        rw [hz.2.2.1 5 m (by omega), hit.2, show nI m * 5 = nI (m * 5) from pk_mul m 5]
        refine m_iadd d_Mo_rename_165 ?_
        rw [nI_add]
        refine m_icmp_ge (tgt := 299) d_Mo_rename_166 (by decide) (fun c => absurd c (nI_ge (by omega) (by omega))) (fun _ => ?_)
        refine m_aload_n d_Mo_rename_169 rfl (by first | rfl | exact vIsR_rf _) ?_
        refine m_get d_Mo_rename_170 12 (by decide) kf_Mo_47 rfl ?_
        refine m_iload d_Mo_rename_173 rfl ?_
        refine m_ald d_Mo_rename_175 (m * 5 + j) (by decide) (by exact rfl) (by exact hi) ?_
        rw [hz.2.2.1 12 _ (by omega)]
        refine m_iconst (v := 1) d_Mo_rename_176 (by decide) ?_
        refine m_icmp_ne (tgt := 208) d_Mo_rename_177 (by decide) (fun c_177 => ?_) (fun c_177 => ?_)
        · refine m_iconst (v := (-1)) d_Mo_rename_208 (by decide) ?_
          exact mid none (fun q h => nomatch h) (fun h2 => by simp [nnF, frO, h2, c_177])
        · have h1 : X 12 (m * 5 + j) = 1 := c_177
          obtain ⟨g1, g2⟩ := hw.2.2.2.2.2 m hmn j hji h1
          refine m_aload_n d_Mo_rename_180 rfl (by first | rfl | exact vIsR_rf _) ?_
          refine m_aload_n d_Mo_rename_181 rfl (by first | rfl | exact vIsR_rf _) ?_
          refine m_get d_Mo_rename_182 13 (by decide) kf_Mo_50 rfl ?_
          refine m_iload d_Mo_rename_185 rfl ?_
          refine m_ald d_Mo_rename_187 (m * 5 + j) (by decide) (by exact rfl) (by exact hi) ?_
          refine m_aload_n d_Mo_rename_188 rfl (by first | rfl | exact vIsR_rf _) ?_
          refine m_get d_Mo_rename_189 14 (by decide) kf_Mo_53 rfl ?_
          refine m_iload d_Mo_rename_192 rfl ?_
          refine m_at 194 rfl ?_
          refine m_ald d_Mo_rename_194 (m * 5 + j) (by decide) (by exact rfl) (by exact hi) ?_
          refine m_aload_n d_Mo_rename_195 rfl (by first | rfl | exact vIsR_rf _) ?_
          refine m_get d_Mo_rename_196 15 (by decide) kf_Mo_56 rfl ?_
          refine m_iload d_Mo_rename_199 rfl ?_
          refine m_ald d_Mo_rename_201 (m * 5 + j) (by decide) (by exact rfl) (by exact hi) ?_
          rw [hz.2.2.1 13 _ (by omega), hz.2.2.1 14 _ (by omega), hz.2.2.1 15 _ (by omega), g2]
          refine m_callV3r (M1 := M_Mo_find) d_Mo_rename_202 km_Mo_125 kI_Mo_find ks_Mo_Mo_find (by decide) (by first | rfl | exact vRf_cat _) (by first | rfl | exact vRf_cat _) (by first | rfl | exact vRf_cat _) (by decide) kM_Mo_find ki_Mo (by decide) (by decide +kernel) (c_Mo_find (nc := nc) (nm := nm) (c := cN X (m * 5 + j)) (sameS_wP hsm hw.1) g1 hwy h24) ?_
          refine m_goto (tgt := 209) d_Mo_rename_205 (by decide) ?_
          rw [sameS_find hsm]
          exact mid (fdS X nm (m * 5 + j) (cN X (m * 5 + j))) (fun q h => findS_lt h) (fun h2 => by simp [nnF, h1])
    refine m_iload d_Mo_rename_137 rfl ?_
    refine m_aload_n d_Mo_rename_139 rfl (by first | rfl | exact vIsR_rf _) ?_
    refine m_get d_Mo_rename_140 17 (by decide) kf_Mo_103 rfl ?_
    refine m_icmp_ge (tgt := 305) d_Mo_rename_143 (by decide) (fun c => absurd c ((by rw [hwy]; exact nI_ge (by omega) (by omega)))) (fun _ => ?_)
    refine m_iload d_Mo_rename_146 rfl ?_
    refine m_iconst (v := 5) d_Mo_rename_148 (by decide) ?_
    refine m_imul d_Mo_rename_149 ?_
    refine m_istore d_Mo_rename_150 (by decide) rfl ?_
    rw [show nI m * 5 = nI (m * 5) from pk_mul m 5]
    exact inner (iN X m) 0 Z (by omega) hz h25 (fun q hq => absurd hq (Nat.not_lt_zero q))
theorem m_rn2 {U : tU} {lab : Nat → Nat} {nc nm : Nat} (hw : wW X nc nm) (hy : Y 17 = nI nm) (hf : famR X nc nm (gaN X nm) U lab) : ∀ r f (Z : Nat → Nat → Int32), f + r = nm → rnZ X U lab (gaN X nm) nm nc (frS X U lab nm (gaN X nm) f) Z → VM G M_Mo_rename 4 130 77 (rnL am (gaN X nm) (cntB (rtB lab) f) nm f) [] am ad Z (va_up Y 19 0) (rnQ X Y nc nm) := by
  have h24 := hw.2.1
  have h144 := gaN_le (X := X) hw.2.1
  have hgn : nm ≤ gaN X nm := by unfold gaN; omega
  have hlab := hf.2.2.2.2.1
  have hwy : (va_up Y 19 0) 17 = nI nm := hy
  intro r
  induction r with
  | zero =>
    intro f Z hr hz
    have hfn : f = nm := by omega
    subst hfn
    refine m_iload d_Mo_rename_77 rfl ?_
    refine m_aload_n d_Mo_rename_79 rfl (by first | rfl | exact vIsR_rf _) ?_
    refine m_get d_Mo_rename_80 17 (by decide) kf_Mo_103 rfl ?_
    refine m_icmp_ge (tgt := 134) d_Mo_rename_83 (by decide) (fun _ => ?_) (fun c => absurd ((by rw [hwy]; exact nI_le (by omega) (by omega))) c)
    refine m_iconst (v := 0) d_Mo_rename_134 (by decide) ?_
    refine m_istore d_Mo_rename_135 (by decide) rfl ?_
    exact m_rn3 hw hy hf f 0 Z (by omega) hz (fun q hq => absurd hq (Nat.not_lt_zero q))
  | succ r ih =>
    intro f Z hr hz
    have hfn : f < nm := by omega
    have hf144 : f < 144 := by omega
    have hl := hlab f (by omega)
    refine m_iload d_Mo_rename_77 rfl ?_
    refine m_aload_n d_Mo_rename_79 rfl (by first | rfl | exact vIsR_rf _) ?_
    refine m_get d_Mo_rename_80 17 (by decide) kf_Mo_103 rfl ?_
    refine m_icmp_ge (tgt := 134) d_Mo_rename_83 (by decide) (fun c => absurd c ((by rw [hwy]; exact nI_ge (by omega) (by omega)))) (fun _ => ?_)
    refine m_aload_n d_Mo_rename_86 rfl (by first | rfl | exact vIsR_rf _) ?_
    refine m_get d_Mo_rename_87 20 (by decide) kf_Mo_59 rfl ?_
    refine m_iload d_Mo_rename_90 rfl ?_
    refine m_ald d_Mo_rename_92 f (by decide) (by exact rfl) (by exact hf144) ?_
    refine m_at 93 rfl ?_
    refine m_iload d_Mo_rename_93 rfl ?_
    rw [hz.2.1 f (by omega)]
    refine m_icmp_eq (tgt := 101) d_Mo_rename_95 (by decide) (fun c_95 => ?_) (fun c_95 => ?_)
    · have e : lab f = f := (nI_eq (by omega) (by omega)).mp c_95
      have hc : cntB (rtB lab) (f + 1) = cntB (rtB lab) f + 1 := by show cntB (rtB lab) f + _ = _; rw [show rtB lab f = true from decide_eq_true e]; rfl
      refine m_iincw (w := 1) d_Mo_rename_101 rfl (by decide) (by decide) rfl ?_
      refine m_aload_n d_Mo_rename_104 rfl (by first | rfl | exact vIsR_rf _) ?_
      refine m_get d_Mo_rename_105 24 (by decide) kf_Mo_71 rfl ?_
      refine m_iload d_Mo_rename_108 rfl ?_
      refine m_ald d_Mo_rename_110 f (by decide) (by exact rfl) (by exact hf144) ?_
      rw [nI_1, ← hc, hz.2.2.2 f hfn]
      refine m_if_ge (tgt := 128) d_Mo_rename_111 (by decide) (fun c_111 => ?_) (fun c_111 => ?_)
      · refine m_iincw (w := 1) d_Mo_rename_128 rfl (by decide) (by decide) rfl ?_
        refine m_goto (tgt := 77) d_Mo_rename_131 (by decide) ?_
        rw [nI_1]
        refine ih (f + 1) Z (by omega) ?_
        rw [show frS X U lab nm (gaN X nm) (f + 1) = frS X U lab nm (gaN X nm) f from if_neg (fun z => Int32.not_lt.mpr c_111 z.2)]
        exact hz
      · refine m_aload_n d_Mo_rename_114 rfl (by first | rfl | exact vIsR_rf _) ?_
        refine m_get d_Mo_rename_115 24 (by decide) kf_Mo_71 rfl ?_
        refine m_iload d_Mo_rename_118 rfl ?_
        refine m_aload_n d_Mo_rename_120 rfl (by first | rfl | exact vIsR_rf _) ?_
        refine m_iload d_Mo_rename_121 rfl ?_
        refine m_iload_n d_Mo_rename_123 rfl ?_
        refine m_callV2r (M1 := M_Mo_freeName) d_Mo_rename_124 km_Mo_168 kI_Mo_freeName ks_Mo_Mo_freeName (by decide) (by first | rfl | exact vRf_cat _) (by first | rfl | exact vRf_cat _) (by decide) kM_Mo_freeName ki_Mo (by decide) (by decide +kernel) (c_Mo_freeName (n := gaN X nm) (nm := nm) (nc := nc) (f := f) hw.1 hz hlab h144 hgn h24 hfn hwy) ?_
        refine m_ast d_Mo_rename_127 f (by decide) (by exact rfl) (by exact hf144) ?_
        refine m_iincw (w := 1) d_Mo_rename_128 rfl (by decide) (by decide) rfl ?_
        refine m_goto (tgt := 77) d_Mo_rename_131 (by decide) ?_
        rw [nI_1]
        refine ih (f + 1) _ (by omega) ?_
        rw [show frS X U lab nm (gaN X nm) (f + 1) = va_up (frS X U lab nm (gaN X nm) f) f (nI (lF (tkB X U lab nm (gaN X nm) (frS X U lab nm (gaN X nm) f) f) 25 0)) from if_pos ⟨e, Int32.not_le.mp c_111⟩]
        refine ⟨fun z hz2 => by rw [mW_k (by decide), mW_k (by decide), mW_k (by decide)]; exact hz.1 z hz2, fun x hx => by rw [mW_k (by decide)]; exact hz.2.1 x hx, fun k i hk => by rw [mW_k (by omega)]; exact hz.2.2.1 k i hk, fun g hg => ?_⟩
        by_cases eg : g = f
        · subst eg; rw [mW_at, va_up_self]
        · rw [mW_i eg, va_up_ne _ _ eg]; exact hz.2.2.2 g hg
    · have e : ¬ lab f = f := fun z => c_95 (by rw [z])
      have hc : cntB (rtB lab) (f + 1) = cntB (rtB lab) f := by show cntB (rtB lab) f + _ = _; rw [show rtB lab f = false from decide_eq_false e]; rfl
      refine m_goto (tgt := 128) d_Mo_rename_98 (by decide) ?_
      refine m_iincw (w := 1) d_Mo_rename_128 rfl (by decide) (by decide) rfl ?_
      refine m_goto (tgt := 77) d_Mo_rename_131 (by decide) ?_
      rw [nI_1, ← hc]
      refine ih (f + 1) Z (by omega) ?_
      rw [show frS X U lab nm (gaN X nm) (f + 1) = frS X U lab nm (gaN X nm) f from if_neg (fun z => e z.1)]
      exact hz
theorem c_Mo_rename {nc nm : Nat} (hw : wW X nc nm) (hy : Y 17 = nI nm) : VM G M_Mo_rename 4 130 0 [(0, .ref am)] [] am ad X Y (rnQ X Y nc nm) := by
  have h24 := hw.2.1
  have h144 := gaN_le (X := X) hw.2.1
  have hgn : nm ≤ gaN X nm := by unfold gaN; omega
  have hwy : (va_up Y 19 0) 17 = nI nm := hy
  refine m_aload_n d_Mo_rename_0 rfl (by first | rfl | exact vIsR_rf _) ?_
  refine m_iconst (v := 0) d_Mo_rename_1 (by decide) ?_
  refine m_putI d_Mo_rename_2 19 (by decide) kf_Mo_92 ?_
  refine m_aload_n d_Mo_rename_5 rfl (by first | rfl | exact vIsR_rf _) ?_
  refine m_callV0 (M1 := M_Mo_gather) d_Mo_rename_6 km_Mo_161 kI_Mo_gather ks_Mo_Mo_gather (by decide) (by decide) kM_Mo_gather ki_Mo (by decide) (by decide +kernel) (c_Mo_gather (nc := nc) (nm := nm) hw hwy) (fun v Z Y' hq => ?_) (fun E Z Y' hq => nomatch hq.1)
  obtain ⟨hr, rfl, U, lab, hf, hu, h20, hz⟩ := hq
  cases hr
  have hlab := hf.2.2.2.2.1
  have l1 : ∀ r f (Z : Nat → Nat → Int32), f + r = nm → uR Z U (gaN X nm) nc → (∀ x, x < gaN X nm → Z 20 x = nI (lab x)) → (∀ k i, k < 20 ∨ 25 < k → Z k i = X k i) → (∀ g, g < f → Z 24 g = fr0 X lab nm g) → VM G M_Mo_rename 4 130 20 (rnL am (gaN X nm) 0 nm f) [] am ad Z (va_up Y 19 0) (rnQ X Y nc nm) := by
    intro r
    induction r with
    | zero =>
      intro f Z hr hu h20 hz h24b
      have hfn : f = nm := by omega
      subst hfn
      refine m_iload d_Mo_rename_20 rfl ?_
      refine m_aload_n d_Mo_rename_22 rfl (by first | rfl | exact vIsR_rf _) ?_
      refine m_get d_Mo_rename_23 17 (by decide) kf_Mo_103 rfl ?_
      refine m_icmp_ge (tgt := 74) d_Mo_rename_26 (by decide) (fun _ => ?_) (fun c => absurd ((by rw [hwy]; exact nI_le (by omega) (by omega))) c)
      refine m_iconst (v := 0) d_Mo_rename_74 (by decide) ?_
      refine m_istore d_Mo_rename_75 (by decide) rfl ?_
      exact m_rn2 hw hy hf f 0 Z (by omega) ⟨hu, h20, hz, h24b⟩
    | succ r ih =>
      intro f Z hr hu h20 hz h24b
      have hfn : f < nm := by omega
      have hf144 : f < 144 := by omega
      have hl := hlab f (by omega)
      have put : ∀ w : Int32, w = fr0 X lab nm f → VM G M_Mo_rename 4 130 67 (rnL am (gaN X nm) 0 nm f) [.int w, .int (nI f), .ref (ad 24)] am ad Z (va_up Y 19 0) (rnQ X Y nc nm) := by
        intro w hw2
        refine m_ast d_Mo_rename_67 f (by decide) (by exact rfl) (by exact hf144) ?_
        refine m_iincw (w := 1) d_Mo_rename_68 rfl (by decide) (by decide) rfl ?_
        refine m_goto (tgt := 20) d_Mo_rename_71 (by decide) ?_
        rw [nI_1]
        refine ih (f + 1) _ (by omega) (fun z hz2 => by rw [mW_k (by decide), mW_k (by decide), mW_k (by decide)]; exact hu z hz2) (fun x hx => by rw [mW_k (by decide)]; exact h20 x hx) (fun k i hk => by rw [mW_k (by omega)]; exact hz k i hk) (fun g hg => ?_)
        by_cases eg : g = f
        · subst eg; rw [mW_at]; exact hw2
        · rw [mW_i eg]; exact h24b g (by omega)
      refine m_iload d_Mo_rename_20 rfl ?_
      refine m_aload_n d_Mo_rename_22 rfl (by first | rfl | exact vIsR_rf _) ?_
      refine m_get d_Mo_rename_23 17 (by decide) kf_Mo_103 rfl ?_
      refine m_icmp_ge (tgt := 74) d_Mo_rename_26 (by decide) (fun c => absurd c ((by rw [hwy]; exact nI_ge (by omega) (by omega)))) (fun _ => ?_)
      refine m_aload_n d_Mo_rename_29 rfl (by first | rfl | exact vIsR_rf _) ?_
      refine m_get d_Mo_rename_30 24 (by decide) kf_Mo_71 rfl ?_
      refine m_iload d_Mo_rename_33 rfl ?_
      refine m_aload_n d_Mo_rename_35 rfl (by first | rfl | exact vIsR_rf _) ?_
      refine m_at 36 rfl ?_
      refine m_get d_Mo_rename_36 20 (by decide) kf_Mo_59 rfl ?_
      refine m_iload d_Mo_rename_39 rfl ?_
      refine m_ald d_Mo_rename_41 f (by decide) (by exact rfl) (by exact hf144) ?_
      refine m_iload d_Mo_rename_42 rfl ?_
      rw [h20 f (by omega)]
      refine m_icmp_ne (tgt := 66) d_Mo_rename_44 (by decide) (fun c_44 => ?_) (fun c_44 => ?_)
      · have e : rtB lab f = false := decide_eq_false (fun z => c_44 (by rw [z]))
        refine m_iconst (v := (-1)) d_Mo_rename_66 (by decide) ?_
        exact put _ (by simp [fr0, e])
      · have e : rtB lab f = true := decide_eq_true ((nI_eq (by omega) (by omega)).mp c_44)
        refine m_aload_n d_Mo_rename_47 rfl (by first | rfl | exact vIsR_rf _) ?_
        refine m_iload d_Mo_rename_48 rfl ?_
        refine m_callV1r (M1 := M_Mo_keptFamily) d_Mo_rename_50 km_Mo_165 kI_Mo_keptFamily ks_Mo_Mo_keptFamily (by decide) (by first | rfl | exact vRf_cat _) (by decide) kM_Mo_keptFamily ki_Mo (by decide) (by decide +kernel) (c_Mo_keptFamily (X := X) (lab := lab) (nm := nm) (f := f) hwy h24 (by omega) (fun x hx => ⟨h20 x (by omega), hlab x (by omega)⟩) (fun q hq => by rw [hz 9 q (by omega)]; exact hw.2.2.2.2.1 q hq)) ?_
        cases hk : kfB X lab nm f with
        | false =>
          refine m_if_eq (tgt := 66) d_Mo_rename_53 (by decide) (fun _ => ?_) (fun c => absurd (rfl) c)
          refine m_iconst (v := (-1)) d_Mo_rename_66 (by decide) ?_
          exact put _ (by simp [fr0, hk])
        | true =>
          refine m_if_eq (tgt := 66) d_Mo_rename_53 (by decide) (fun c => absurd c (by decide)) (fun _ => ?_)
          refine m_aload_n d_Mo_rename_56 rfl (by first | rfl | exact vIsR_rf _) ?_
          refine m_get d_Mo_rename_57 3 (by decide) kf_Mo_19 rfl ?_
          refine m_iload d_Mo_rename_60 rfl ?_
          refine m_ald d_Mo_rename_62 f (by decide) (by exact rfl) (by exact (show f < 24 by omega)) ?_
          rw [hz 3 f (by omega)]
          refine m_goto (tgt := 67) d_Mo_rename_63 (by decide) ?_
          exact put _ (by simp [fr0, e, hk])
  refine m_istore_n d_Mo_rename_9 (by decide) rfl ?_
  refine m_iconst (v := 0) d_Mo_rename_10 (by decide) ?_
  refine m_istore_n d_Mo_rename_11 (by decide) rfl ?_
  refine m_aload_n d_Mo_rename_12 rfl (by first | rfl | exact vIsR_rf _) ?_
  refine m_get d_Mo_rename_13 17 (by decide) kf_Mo_103 rfl ?_
  rw [hwy]
  refine m_istore_n d_Mo_rename_16 (by decide) rfl ?_
  refine m_iconst (v := 0) d_Mo_rename_17 (by decide) ?_
  refine m_istore d_Mo_rename_18 (by decide) rfl ?_
  exact l1 nm 0 Z (by omega) hu h20 (fun k i hk => hz k i (by omega)) (fun g hg => absurd hg (Nat.not_lt_zero g))
end VM13
