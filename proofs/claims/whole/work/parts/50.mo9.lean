/-! The reference: shrink. Also: locals that are no longer wanted are let go. -/
section VM9
theorem v_keep {G : vG} {M : vM} {fr lo pc : Nat} {lv lv1 : List (Nat × Value)} {st : List Value} {h : vH} {mc ms : Nat} {Q : vQ} (n : Nat) (e : lv.take n = lv1) (k : V G M fr lo pc lv1 st h mc ms Q) : V G M fr lo pc lv st h mc ms Q := by
  subst e
  intro p l e R s m args below meth c A H locs cells slots MC MS ls I
  obtain ⟨I1, I2, I3, I4, I5, ⟨I6, I7, I8⟩, I9⟩ := I
  exact k p l e R s m args below meth c A H locs cells slots MC MS ls ⟨I1, I2, I3, I4, I5, ⟨I6, I7, fun q hq => I8 q (List.mem_of_mem_take hq)⟩, fun q hq => I9 q (List.mem_of_mem_take hq)⟩
variable {G : vG} {am : Nat} {ad : Nat → Nat} {X : Nat → Nat → Int32} {Y : Nat → Int32}
theorem m_keep {M : vM} {fr lo pc : Nat} {lv lv1 : List (Nat × Value)} {st : List Value} {Q : vR → (Nat → Nat → Int32) → (Nat → Int32) → Prop} (n : Nat) (e : lv.take n = lv1) (k : VM G M fr lo pc lv1 st am ad X Y Q) : VM G M fr lo pc lv st am ad X Y Q := fun h hP => v_keep n e (k h hP)
def anyB (f : Nat → Bool) : Nat → Bool
  | 0 => false
  | n + 1 => anyB f n || f n
theorem anyB_iff {f : Nat → Bool} : ∀ {n : Nat}, anyB f n = true ↔ ∃ d, d < n ∧ f d = true
  | 0 => ⟨fun h => (nomatch h), fun ⟨d, h, _⟩ => absurd h (Nat.not_lt_zero d)⟩
  | n + 1 => by
    unfold anyB
    rw [Bool.or_eq_true, anyB_iff]
    constructor
    · rintro (⟨d, h1, h2⟩ | h)
      · exact ⟨d, by omega, h2⟩
      · exact ⟨n, by omega, h⟩
    · rintro ⟨d, h1, h2⟩
      by_cases hd : d = n
      · subst hd; exact Or.inr h2
      · exact Or.inl ⟨d, by omega, h2⟩
theorem cntB_step {f : Nat → Bool} : ∀ {n m : Nat}, m < n → f m = true → cntB f m < cntB f n
  | n + 1, m, h, hf => by
    unfold cntB
    by_cases hm : m = n
    · subst hm
      rw [if_pos hf]
      cases m with
      | zero => simp [cntB]
      | succ m => show cntB f (m + 1) < cntB f (m + 1) + 1; omega
    · have := cntB_step (show m < n by omega) hf
      cases m with
      | zero => show 0 < _; have h0 : cntB f 0 = 0 := rfl; rw [h0] at this; omega
      | succ m => show cntB f (m + 1) < _; omega
theorem cntB_up {f : Nat → Bool} : ∀ {n m : Nat}, m ≤ n → cntB f m ≤ cntB f n
  | 0, m, h => by rw [show m = 0 by omega]; exact Nat.le_refl _
  | n + 1, m, h => by
    by_cases hm : m = n + 1
    · rw [hm]; exact Nat.le_refl _
    · have := cntB_up (f := f) (show m ≤ n by omega)
      show cntB f m ≤ cntB f n + _
      omega
/-- the classes that stay -/
def stB (X : Nat → Nat → Int32) (A : Nat → Bool) (nc k : Nat) : Bool := anyB (fun d => A d && aboveS X k 9 d) nc
def nclF (st : Nat → Bool) (k : Nat) : Int32 := if st k then nI (cntB st k) else -1
/-- method m has moved -/
def mdR (X : Nat → Nat → Int32) (st gd : Nat → Bool) (Z : Nat → Nat → Int32) (m : Nat) : Prop :=
  Z 2 (cntB gd m) = nclF st (oN X m) ∧ (∀ k, 3 ≤ k → k ≤ 9 → Z k (cntB gd m) = X k m) ∧
  ∀ j, j < iN X m → Z 12 (cntB gd m * 5 + j) = X 12 (m * 5 + j) ∧ Z 13 (cntB gd m * 5 + j) = (if X 12 (m * 5 + j) = 1 then nclF st (cN X (m * 5 + j)) else X 13 (m * 5 + j)) ∧ Z 14 (cntB gd m * 5 + j) = X 14 (m * 5 + j) ∧ Z 15 (cntB gd m * 5 + j) = X 15 (m * 5 + j)
/-- class k has moved -/
def mcR (X : Nat → Nat → Int32) (st : Nat → Bool) (Z : Nat → Nat → Int32) (k : Nat) : Prop :=
  Z 0 (cntB st k) = (match pS X k with | none => -1 | some p => nclF st p) ∧ Z 1 (cntB st k) = X 1 k
def shR (X : Nat → Nat → Int32) (nc nm : Nat) (st gd : Nat → Bool) (Z : Nat → Nat → Int32) : Prop :=
  (∀ m, m < nm → gd m = true → mdR X st gd Z m) ∧ ∀ k, k < nc → st k = true → mcR X st Z k
def shY (Y : Nat → Int32) (a b c : Int32) : Nat → Int32 := va_up (va_up (va_up (va_up Y 19 0) 18 (Y 18 + a)) 17 b) 16 c
def shQ (X : Nat → Nat → Int32) (Y : Nat → Int32) (nc nm : Nat) (st gd : Nat → Bool) : vR → (Nat → Nat → Int32) → (Nat → Int32) → Prop := fun r X' Y' => r = .inl (some (.int (nI (nm - cntB gd nm)))) ∧ Y' = shY Y (nI (nm - cntB gd nm)) (nI (cntB gd nm)) (nI (cntB st nc)) ∧ shR X nc nm st gd X'
theorem nclF_t {st : Nat → Bool} {k : Nat} (h : st k = true) : nclF st k = nI (cntB st k) := by simp [nclF, h]
theorem nclF_f {st : Nat → Bool} {k : Nat} (h : st k = false) : nclF st k = -1 := by simp [nclF, h]
/-- the third loop -/
theorem m_sh3 {nc nm : Nat} {st gd : Nat → Bool} (hw : wW X nc nm) (hy : Y 17 = nI nm) (hyc : Y 16 = nI nc) : ∀ n k (Z : Nat → Nat → Int32), k + n = nc → (∀ c, c < nc → Z 27 c = nclF st c) → (∀ i, cntB st k ≤ i → Z 0 i = X 0 i ∧ Z 1 i = X 1 i) → (∀ m, m < nm → gd m = true → mdR X st gd Z m) → (∀ c, c < k → st c = true → mcR X st Z c) → VM G M_Mo_shrink 5 200 150 [(0, .ref am), (1, .int (nI (cntB st nc))), (2, .int (nI (cntB gd nm))), (3, .int (nI k))] [] am ad Z (va_up Y 19 0) (shQ X Y nc nm st gd) := by
  have h8 := hw.1.1
  intro n
  induction n with
  | zero =>
    intro k Z hk z27 z0 zm zc
    refine m_iload_n d_Mo_shrink_150 rfl ?_
    refine m_aload_n d_Mo_shrink_151 rfl (by first | rfl | exact vIsR_rf _) ?_
    refine m_get d_Mo_shrink_152 16 (by decide) kf_Mo_96 rfl ?_
    refine m_icmp_ge (tgt := 224) d_Mo_shrink_155 (by decide) (fun _ => ?_) (fun c => absurd ((by rw [show va_up Y 19 0 16 = nI nc from hyc]; exact nI_le (by omega) (by omega))) c)
    refine m_aload_n d_Mo_shrink_224 rfl (by first | rfl | exact vIsR_rf _) ?_
    refine m_get d_Mo_shrink_225 17 (by decide) kf_Mo_103 rfl ?_
    refine m_iload_n d_Mo_shrink_228 rfl ?_
    refine m_isub d_Mo_shrink_229 ?_
    rw [show va_up Y 19 0 17 = nI nm from hy, pk_sub (cntB_le gd nm)]
    refine m_istore_n d_Mo_shrink_230 (by decide) rfl ?_
    refine m_aload_n d_Mo_shrink_231 rfl (by first | rfl | exact vIsR_rf _) ?_
    refine m_dup d_Mo_shrink_232 (by first | rfl | exact vRf_cat _) ?_
    refine m_get d_Mo_shrink_233 18 (by decide) kf_Mo_145 rfl ?_
    refine m_iload_n d_Mo_shrink_236 rfl ?_
    refine m_iadd d_Mo_shrink_237 ?_
    refine m_putI d_Mo_shrink_238 18 (by decide) kf_Mo_145 ?_
    refine m_aload_n d_Mo_shrink_241 rfl (by first | rfl | exact vIsR_rf _) ?_
    refine m_at 242 rfl ?_
    refine m_iload_n d_Mo_shrink_242 rfl ?_
    refine m_putI d_Mo_shrink_243 17 (by decide) kf_Mo_103 ?_
    refine m_aload_n d_Mo_shrink_246 rfl (by first | rfl | exact vIsR_rf _) ?_
    refine m_iload_n d_Mo_shrink_247 rfl ?_
    refine m_putI d_Mo_shrink_248 16 (by decide) kf_Mo_96 ?_
    refine m_iload_n d_Mo_shrink_251 rfl ?_
    exact m_iret d_Mo_shrink_252 rfl rfl ⟨rfl, rfl, zm, fun c hc hs => zc c (by omega) hs⟩
  | succ n ih =>
    intro k Z hk z27 z0 zm zc
    have hkn : k < nc := by omega
    have hle := cntB_le st k
    refine m_iload_n d_Mo_shrink_150 rfl ?_
    refine m_aload_n d_Mo_shrink_151 rfl (by first | rfl | exact vIsR_rf _) ?_
    refine m_get d_Mo_shrink_152 16 (by decide) kf_Mo_96 rfl ?_
    refine m_icmp_ge (tgt := 224) d_Mo_shrink_155 (by decide) (fun c => absurd c ((by rw [show va_up Y 19 0 16 = nI nc from hyc]; exact nI_ge (by omega) (by omega)))) (fun _ => ?_)
    refine m_aload_n d_Mo_shrink_158 rfl (by first | rfl | exact vIsR_rf _) ?_
    refine m_get d_Mo_shrink_159 27 (by decide) kf_Mo_80 rfl ?_
    refine m_iload_n d_Mo_shrink_162 rfl ?_
    refine m_ald d_Mo_shrink_163 k (by decide) (by exact rfl) (by exact (show k < 8 by omega)) ?_
    rw [z27 k hkn]
    cases hs : st k with
    | false =>
      have hcs : cntB st (k + 1) = cntB st k := by show cntB st k + _ = _; rw [hs]; rfl
      rw [nclF_f hs]
      refine m_istore d_Mo_shrink_164 (by decide) rfl ?_
      refine m_iload d_Mo_shrink_166 rfl ?_
      refine m_if_ge (tgt := 174) d_Mo_shrink_168 (by decide) (fun c => absurd c (by decide)) (fun _ => ?_)
      refine m_goto (tgt := 218) d_Mo_shrink_171 (by decide) ?_
      refine m_iincw (w := 1) d_Mo_shrink_218 rfl (by decide) (by decide) rfl ?_
      refine m_goto (tgt := 150) d_Mo_shrink_221 (by decide) ?_
      rw [nI_1]
      refine m_keep 4 rfl (ih (k + 1) Z (by omega) z27 (by rw [hcs]; exact z0) zm (fun c hc h1 => ?_))
      exact zc c (by rcases Nat.lt_or_ge c k with q | q; exact q; exact absurd (show c = k by omega) (fun e => by rw [e, hs] at h1; cases h1)) h1
    | true =>
      have hcs : cntB st (k + 1) = cntB st k + 1 := by show cntB st k + _ = _; rw [hs]; rfl
      have hz := z0 k hle
      rw [nclF_t hs]
      refine m_istore d_Mo_shrink_164 (by decide) rfl ?_
      refine m_iload d_Mo_shrink_166 rfl ?_
      refine m_if_ge (tgt := 174) d_Mo_shrink_168 (by decide) (fun _ => ?_) (fun c => absurd (nI_pos' (by omega)) c)
      refine m_aload_n d_Mo_shrink_174 rfl (by first | rfl | exact vIsR_rf _) ?_
      refine m_get d_Mo_shrink_175 0 (by decide) kf_Mo_7 rfl ?_
      refine m_iload d_Mo_shrink_178 rfl ?_
      refine m_aload_n d_Mo_shrink_180 rfl (by first | rfl | exact vIsR_rf _) ?_
      refine m_get d_Mo_shrink_181 0 (by decide) kf_Mo_7 rfl ?_
      refine m_iload_n d_Mo_shrink_184 rfl ?_
      refine m_ald d_Mo_shrink_185 k (by decide) (by exact rfl) (by exact (show k < 8 by omega)) ?_
      rw [hz.1]
      have go : ∀ w : Int32, w = (match pS X k with | none => -1 | some p => nclF st p) → VM G M_Mo_shrink 5 200 204 [(0, .ref am), (1, .int (nI (cntB st nc))), (2, .int (nI (cntB gd nm))), (3, .int (nI k)), (4, .int (nI (cntB st k)))] [.int w, .int (nI (cntB st k)), .ref (ad 0)] am ad Z (va_up Y 19 0) (shQ X Y nc nm st gd) := by
        intro w hw2
        refine m_ast d_Mo_shrink_204 (cntB st k) (by decide) (by exact rfl) (by exact (show cntB st k < 8 by omega)) ?_
        refine m_aload_n d_Mo_shrink_205 rfl (by first | rfl | exact vIsR_rf _) ?_
        refine m_get d_Mo_shrink_206 1 (by decide) kf_Mo_13 rfl ?_
        refine m_iload d_Mo_shrink_209 rfl ?_
        refine m_aload_n d_Mo_shrink_211 rfl (by first | rfl | exact vIsR_rf _) ?_
        refine m_get d_Mo_shrink_212 1 (by decide) kf_Mo_13 rfl ?_
        refine m_iload_n d_Mo_shrink_215 rfl ?_
        refine m_ald d_Mo_shrink_216 k (by decide) (by exact rfl) (by exact (show k < 8 by omega)) ?_
        rw [mW_k (by decide), hz.2]
        refine m_ast d_Mo_shrink_217 (cntB st k) (by decide) (by exact rfl) (by exact (show cntB st k < 8 by omega)) ?_
        refine m_iincw (w := 1) d_Mo_shrink_218 rfl (by decide) (by decide) rfl ?_
        refine m_goto (tgt := 150) d_Mo_shrink_221 (by decide) ?_
        rw [nI_1]
        refine m_keep 4 rfl (ih (k + 1) _ (by omega) (fun c hc => ?_) (fun i hi => ?_) (fun m hm hg => ?_) (fun c hc h1 => ?_))
        · rw [mW_k (by decide), mW_k (by decide)]; exact z27 c hc
        · rw [hcs] at hi
          rw [mW_k (by decide), mW_i (by omega), mW_i (by omega), mW_k (by decide)]
          exact z0 i (by omega)
        · obtain ⟨a1, a2, a3⟩ := zm m hm hg
          refine ⟨by rw [mW_k (by decide), mW_k (by decide)]; exact a1, fun q h1 h2 => by rw [mW_k (by omega), mW_k (by omega)]; exact a2 q h1 h2, fun j hj => ?_⟩
          rw [mW_k (by decide), mW_k (by decide), mW_k (by decide), mW_k (by decide), mW_k (by decide), mW_k (by decide), mW_k (by decide), mW_k (by decide)]
          exact a3 j hj
        · by_cases hck : c = k
          · subst hck
            exact ⟨by rw [mW_k (by decide), mW_at]; exact hw2, by rw [mW_at]⟩
          · have hlt : c < k := by omega
            have h3 := cntB_step hlt h1
            obtain ⟨a1, a2⟩ := zc c hlt h1
            exact ⟨by rw [mW_k (by decide), mW_i (by omega)]; exact a1, by rw [mW_i (by omega), mW_k (by decide)]; exact a2⟩
      rcases wP_cases hw.1 hkn with ⟨e1, e2⟩ | ⟨d, hd, e1, e2⟩
      · rw [e1]
        refine m_if_ge (tgt := 193) d_Mo_shrink_186 (by decide) (fun c => absurd c (by decide)) (fun _ => ?_)
        refine m_iconst (v := (-1)) d_Mo_shrink_189 (by decide) ?_
        refine m_goto (tgt := 204) d_Mo_shrink_190 (by decide) ?_
        exact go _ (by rw [e2])
      · rw [e1]
        refine m_if_ge (tgt := 193) d_Mo_shrink_186 (by decide) (fun _ => ?_) (fun c => absurd (nI_pos' (by omega)) c)
        refine m_aload_n d_Mo_shrink_193 rfl (by first | rfl | exact vIsR_rf _) ?_
        refine m_get d_Mo_shrink_194 27 (by decide) kf_Mo_80 rfl ?_
        refine m_aload_n d_Mo_shrink_197 rfl (by first | rfl | exact vIsR_rf _) ?_
        refine m_get d_Mo_shrink_198 0 (by decide) kf_Mo_7 rfl ?_
        refine m_iload_n d_Mo_shrink_201 rfl ?_
        refine m_ald d_Mo_shrink_202 k (by decide) (by exact rfl) (by exact (show k < 8 by omega)) ?_
        rw [hz.1, e1]
        refine m_ald d_Mo_shrink_203 d (by decide) (by exact rfl) (by exact (show d < 8 by omega)) ?_
        rw [z27 d (by omega)]
        exact go _ (by rw [e2])
theorem mdR_mv {nc nm m : Nat} {st gd : Nat → Bool} {Z Z' : Nat → Nat → Int32} (hw : wW X nc nm) (hm : m < nm) (h2 : Z 2 m = X 2 m) (h3 : ∀ k, 3 ≤ k → k ≤ 9 → Z k m = X k m) (hi : ∀ k j, 12 ≤ k → k ≤ 15 → j < iN X m → Z k (m * 5 + j) = X k (m * 5 + j)) (z27 : ∀ c, c < nc → Z 27 c = nclF st c) (hv : mvR Z m (cntB gd m) Z') : mdR X st gd Z' m := by
  have eo : oN Z m = oN X m := by rw [oN, oN, h2]
  have ei : iN Z m = iN X m := by rw [iN, iN, h3 5 (by decide) (by decide)]
  obtain ⟨a1, a2, a3, _⟩ := hv
  refine ⟨by rw [a1, eo]; exact z27 _ (hw.2.2.1 m hm).1, fun k b1 b2 => by rw [a2 k b1 b2]; exact h3 k b1 b2, fun j hj => ?_⟩
  obtain ⟨b1, b2, b3, b4⟩ := a3 j (by rw [ei]; exact hj)
  have k12 := hi 12 j (by decide) (by decide) hj
  have k13 := hi 13 j (by decide) (by decide) hj
  refine ⟨by rw [b1]; exact k12, ?_, by rw [b3]; exact hi 14 j (by decide) (by decide) hj, by rw [b4]; exact hi 15 j (by decide) (by decide) hj⟩
  rw [b2, k12, k13]
  by_cases h1 : X 12 (m * 5 + j) = 1
  · rw [if_pos h1, if_pos h1, show cN Z (m * 5 + j) = cN X (m * 5 + j) by rw [cN, cN, k13]]
    exact z27 _ (hw.2.2.2.2.2 m hm j hj h1).1
  · rw [if_neg h1, if_neg h1]
/-- the second loop -/
theorem m_sh2 {nc nm : Nat} {A B st gd : Nat → Bool} (hw : wW X nc nm) (hy : Y 17 = nI nm) (hyc : Y 16 = nI nc) (hgd : ∀ m, gd m = (B m && st (oN X m))) : ∀ n m (Z : Nat → Nat → Int32), m + n = nm → (∀ c, c < nc → Z 27 c = nclF st c) → (∀ i, Z 0 i = X 0 i ∧ Z 1 i = X 1 i) → (∀ i, i < nm → Z 10 i = bI (B i)) → (∀ k i, 2 ≤ k → k ≤ 9 → cntB gd m ≤ i → Z k i = X k i) → (∀ k i, 12 ≤ k → k ≤ 15 → cntB gd m * 5 ≤ i → Z k i = X k i) → (∀ q, q < m → gd q = true → mdR X st gd Z q) → VM G M_Mo_shrink 5 200 99 [(0, .ref am), (1, .int (nI (cntB st nc))), (2, .int (nI (cntB gd m))), (3, .int (nI m))] [] am ad Z (va_up Y 19 0) (shQ X Y nc nm st gd) := by
  have h8 := hw.1.1
  have h24 := hw.2.1
  intro n
  induction n with
  | zero =>
    intro m Z hm z27 z0 z10 zk zi zm
    have hmn : m = nm := by omega
    subst hmn
    refine m_iload_n d_Mo_shrink_99 rfl ?_
    refine m_aload_n d_Mo_shrink_100 rfl (by first | rfl | exact vIsR_rf _) ?_
    refine m_get d_Mo_shrink_101 17 (by decide) kf_Mo_103 rfl ?_
    refine m_icmp_ge (tgt := 148) d_Mo_shrink_104 (by decide) (fun _ => ?_) (fun c => absurd ((by rw [show va_up Y 19 0 17 = nI m from hy]; exact nI_le (by omega) (by omega))) c)
    refine m_iconst (v := 0) d_Mo_shrink_148 (by decide) ?_
    refine m_istore_n d_Mo_shrink_149 (by decide) rfl ?_
    exact m_sh3 hw hy hyc nc 0 Z (by omega) z27 (fun i _ => z0 i) zm (fun c hc => absurd hc (Nat.not_lt_zero c))
  | succ n ih =>
    intro m Z hm z27 z0 z10 zk zi zm
    have hmn : m < nm := by omega
    have hle := cntB_le gd m
    have ho := hw.2.2.1 m hmn
    have hw2 := hw.2.2.2
    have hnot : gd m = false → VM G M_Mo_shrink 5 200 142 [(0, .ref am), (1, .int (nI (cntB st nc))), (2, .int (nI (cntB gd m))), (3, .int (nI m))] [] am ad Z (va_up Y 19 0) (shQ X Y nc nm st gd) := by
      intro hg
      have hcs : cntB gd (m + 1) = cntB gd m := by show cntB gd m + _ = _; rw [hg]; rfl
      refine m_iincw (w := 1) d_Mo_shrink_142 rfl (by decide) (by decide) rfl ?_
      refine m_goto (tgt := 99) d_Mo_shrink_145 (by decide) ?_
      rw [nI_1]
      have := ih (m + 1) Z (by omega) z27 z0 z10 (by rw [hcs]; exact zk) (by rw [hcs]; exact zi) (fun c hc h1 => zm c (by rcases Nat.lt_or_ge c m with q | q; exact q; exact absurd (show c = m by omega) (fun e => by rw [e, hg] at h1; cases h1)) h1)
      rw [hcs] at this
      exact this
    refine m_iload_n d_Mo_shrink_99 rfl ?_
    refine m_aload_n d_Mo_shrink_100 rfl (by first | rfl | exact vIsR_rf _) ?_
    refine m_get d_Mo_shrink_101 17 (by decide) kf_Mo_103 rfl ?_
    refine m_icmp_ge (tgt := 148) d_Mo_shrink_104 (by decide) (fun c => absurd c ((by rw [show va_up Y 19 0 17 = nI nm from hy]; exact nI_ge (by omega) (by omega)))) (fun _ => ?_)
    refine m_aload_n d_Mo_shrink_107 rfl (by first | rfl | exact vIsR_rf _) ?_
    refine m_get d_Mo_shrink_108 10 (by decide) kf_Mo_41 rfl ?_
    refine m_iload_n d_Mo_shrink_111 rfl ?_
    refine m_zald d_Mo_shrink_112 m (by decide) (by exact rfl) (by exact (show m < 24 by omega)) ?_
    rw [z10 m hmn]
    cases hb : B m with
    | false =>
      refine m_if_eq (tgt := 142) d_Mo_shrink_113 (by decide) (fun _ => ?_) (fun c => absurd (rfl) c)
      exact hnot (by rw [hgd, hb]; rfl)
    | true =>
      refine m_if_eq (tgt := 142) d_Mo_shrink_113 (by decide) (fun c => absurd c (by decide)) (fun _ => ?_)
      refine m_aload_n d_Mo_shrink_116 rfl (by first | rfl | exact vIsR_rf _) ?_
      refine m_get d_Mo_shrink_117 27 (by decide) kf_Mo_80 rfl ?_
      refine m_aload_n d_Mo_shrink_120 rfl (by first | rfl | exact vIsR_rf _) ?_
      refine m_get d_Mo_shrink_121 2 (by decide) kf_Mo_16 rfl ?_
      refine m_iload_n d_Mo_shrink_124 rfl ?_
      refine m_ald d_Mo_shrink_125 m (by decide) (by exact rfl) (by exact (show m < 24 by omega)) ?_
      rw [zk 2 m (by decide) (by decide) hle, ho.2]
      refine m_ald d_Mo_shrink_126 (oN X m) (by decide) (by exact rfl) (by exact (show oN X m < 8 by omega)) ?_
      rw [z27 _ ho.1]
      cases hs : st (oN X m) with
      | false =>
        rw [nclF_f hs]
        refine m_if_ge (tgt := 133) d_Mo_shrink_127 (by decide) (fun c => absurd c (by decide)) (fun _ => ?_)
        refine m_goto (tgt := 142) d_Mo_shrink_130 (by decide) ?_
        exact hnot (by rw [hgd, hs, Bool.and_false])
      | true =>
        have hg : gd m = true := by rw [hgd, hb, hs]; rfl
        have hcs : cntB gd (m + 1) = cntB gd m + 1 := by show cntB gd m + _ = _; rw [hg]; rfl
        have e2 : Z 2 m = X 2 m := zk 2 m (by decide) (by decide) hle
        have e3 : ∀ k, 3 ≤ k → k ≤ 9 → Z k m = X k m := fun k a b => zk k m (by omega) b hle
        have e5 : ∀ k j, 12 ≤ k → k ≤ 15 → j < iN X m → Z k (m * 5 + j) = X k (m * 5 + j) := fun k j a b _ => zi k _ a b (by omega)
        have eo : oN Z m = oN X m := by rw [oN, oN, e2]
        have ei : iN Z m = iN X m := by rw [iN, iN, e3 5 (by decide) (by decide)]
        rw [nclF_t hs]
        refine m_if_ge (tgt := 133) d_Mo_shrink_127 (by decide) (fun _ => ?_) (fun c => absurd (nI_pos' (by have := cntB_le st (oN X m); omega)) c)
        refine m_aload_n d_Mo_shrink_133 rfl (by first | rfl | exact vIsR_rf _) ?_
        refine m_iload_n d_Mo_shrink_134 rfl ?_
        refine m_iload_n d_Mo_shrink_135 rfl ?_
        refine m_callV2 (M1 := M_Mo_moveMethod) d_Mo_shrink_136 km_Mo_141 kI_Mo_moveMethod ks_Mo_Mo_moveMethod (by decide) (by first | rfl | exact vRf_cat _) (by first | rfl | exact vRf_cat _) (by decide) kM_Mo_moveMethod ki_Mo (by decide) (by decide +kernel) (c_Mo_moveMethod (nc := nc) (m := m) (to := cntB gd m) (by omega) hle ⟨by rw [eo]; exact ho.1, by rw [eo, e2]; exact ho.2⟩ h8 ⟨by rw [ei]; exact (hw2.1 m hmn).1, by rw [ei, e3 5 (by decide) (by decide)]; exact (hw2.1 m hmn).2⟩ (by rw [kN, e3 9 (by decide) (by decide)]; exact hw2.2.1 m hmn) (fun j hj h1 => by rw [ei] at hj; have k13 := e5 13 j (by decide) (by decide) hj; rw [e5 12 j (by decide) (by decide) hj] at h1; rw [cN, k13]; exact hw2.2.2 m hmn j hj h1)) (fun v Z' Y' hq => ?_) (fun E Z' Y' hq => nomatch hq.1)
        obtain ⟨hr, rfl, hv⟩ := hq
        cases hr
        refine m_iincw (w := 1) d_Mo_shrink_139 rfl (by decide) (by decide) rfl ?_
        refine m_iincw (w := 1) d_Mo_shrink_142 rfl (by decide) (by decide) rfl ?_
        refine m_goto (tgt := 99) d_Mo_shrink_145 (by decide) ?_
        rw [nI_1, nI_1, ← hcs]
        have hzz := hv.2.2.2
        refine ih (m + 1) Z' (by omega) (fun c hc => ?_) (fun i => ?_) (fun i hi => ?_) (fun k i k1 k2 hi => ?_) (fun k i k1 k2 hi => ?_) (fun q hq h1 => ?_)
        · rw [hzz 27 c (fun _ h => by omega) (fun _ h => by omega)]; exact z27 c hc
        · rw [hzz 0 i (fun h => by omega) (fun h => by omega), hzz 1 i (fun h => by omega) (fun h => by omega)]; exact z0 i
        · rw [hzz 10 i (fun _ h => by omega) (fun h => by omega)]; exact z10 i hi
        · rw [hcs] at hi
          rw [hzz k i (fun _ _ => by omega) (fun h => by omega)]; exact zk k i k1 k2 (by omega)
        · rw [hcs] at hi
          rw [hzz k i (fun _ h => by omega) (fun _ _ => by omega)]; exact zi k i k1 k2 (by omega)
        · by_cases hqm : q = m
          · subst hqm
            exact mdR_mv hw hmn e2 e3 e5 z27 hv
          · have hlt : q < m := by omega
            have hcl := cntB_step hlt h1
            have hiq := (hw2.1 q (by omega)).1
            obtain ⟨a1, a2, a3⟩ := zm q hlt h1
            refine ⟨?_, fun k b1 b2 => ?_, fun j hj => ?_⟩
            · rw [hzz 2 _ (fun _ _ => by omega) (fun h => by omega)]; exact a1
            · rw [hzz k _ (fun _ _ => by omega) (fun h => by omega)]; exact a2 k b1 b2
            · rw [hzz 12 _ (fun _ h => by omega) (fun _ _ => by omega), hzz 13 _ (fun _ h => by omega) (fun _ _ => by omega), hzz 14 _ (fun _ h => by omega) (fun _ _ => by omega), hzz 15 _ (fun _ h => by omega) (fun _ _ => by omega)]
              exact a3 j hj
/-- the first loop -/
theorem m_sh1 {nc nm : Nat} {A B st gd : Nat → Bool} (hw : wW X nc nm) (hy : Y 17 = nI nm) (hyc : Y 16 = nI nc) (hgd : ∀ m, gd m = (B m && st (oN X m))) (hst : ∀ k, st k = stB X A nc k) : ∀ n k (Z : Nat → Nat → Int32), k + n = nc → (∀ c, c < k → Z 27 c = nclF st c) → (∀ q i, q ≠ 27 → Z q i = xLM X A B nc nm q i) → VM G M_Mo_shrink 5 200 15 [(0, .ref am), (1, .int (nI (cntB st k))), (2, .int 0), (3, .int (nI k))] [] am ad Z (va_up Y 19 0) (shQ X Y nc nm st gd) := by
  have h8 := hw.1.1
  have h24 := hw.2.1
  intro n
  induction n with
  | zero =>
    intro k Z hk z27 zq
    have hkn : k = nc := by omega
    subst hkn
    refine m_iload_n d_Mo_shrink_15 rfl ?_
    refine m_aload_n d_Mo_shrink_16 rfl (by first | rfl | exact vIsR_rf _) ?_
    refine m_get d_Mo_shrink_17 16 (by decide) kf_Mo_96 rfl ?_
    refine m_icmp_ge (tgt := 97) d_Mo_shrink_20 (by decide) (fun _ => ?_) (fun c => absurd ((by rw [show va_up Y 19 0 16 = nI k from hyc]; exact nI_le (by omega) (by omega))) c)
    refine m_iconst (v := 0) d_Mo_shrink_97 (by decide) ?_
    refine m_istore_n d_Mo_shrink_98 (by decide) rfl ?_
    have zo : ∀ q i, q ≠ 27 → q ≠ 10 → q ≠ 11 → Z q i = X q i := fun q i a b c => by rw [zq q i a, xLM_o b c]
    exact m_sh2 (A := A) hw hy hyc hgd nm 0 Z (by omega) z27 (fun i => ⟨zo 0 i (by decide) (by decide) (by decide), zo 1 i (by decide) (by decide) (by decide)⟩) (fun i hi => by rw [zq 10 i (by decide), xLM_10 hi]) (fun q i a b _ => zo q i (by omega) (by omega) (by omega)) (fun q i a b _ => zo q i (by omega) (by omega) (by omega)) (fun q hq => absurd hq (Nat.not_lt_zero q))
  | succ n ih =>
    intro k Z hk z27 zq
    have hkn : k < nc := by omega
    have hsm : sameS Z X := fun i => ⟨by rw [zq 0 i (by decide), xLM_o (by decide) (by decide)], by rw [zq 2 i (by decide), xLM_o (by decide) (by decide)], by rw [zq 3 i (by decide), xLM_o (by decide) (by decide)], by rw [zq 4 i (by decide), xLM_o (by decide) (by decide)]⟩
    -- the inner loop
    have inner : ∀ n d, d + n = nc → VM G M_Mo_shrink 5 200 29 [(0, .ref am), (1, .int (nI (cntB st k))), (2, .int 0), (3, .int (nI k)), (4, .int (bI (anyB (fun d => A d && aboveS X k 9 d) d))), (5, .int (nI d))] [] am ad Z (va_up Y 19 0) (shQ X Y nc nm st gd) := by
      intro n2
      induction n2 with
      | zero =>
        intro d hd
        have hdn : d = nc := by omega
        subst hdn
        refine m_iload d_Mo_shrink_29 rfl ?_
        refine m_aload_n d_Mo_shrink_31 rfl (by first | rfl | exact vIsR_rf _) ?_
        refine m_get d_Mo_shrink_32 16 (by decide) kf_Mo_96 rfl ?_
        refine m_icmp_ge (tgt := 67) d_Mo_shrink_35 (by decide) (fun _ => ?_) (fun c => absurd ((by rw [show va_up Y 19 0 16 = nI d from hyc]; exact nI_le (by omega) (by omega))) c)
        have e : anyB (fun e => A e && aboveS X k 9 e) d = st k := by rw [hst]; rfl
        rw [e]
        have fin : ∀ w : Int32, w = nclF st k → VM G M_Mo_shrink 5 200 82 [(0, .ref am), (1, .int (nI (cntB st k))), (2, .int 0), (3, .int (nI k)), (4, .int (bI (st k))), (5, .int (nI d))] [.int w, .int (nI k), .ref (ad 27)] am ad Z (va_up Y 19 0) (shQ X Y d nm st gd) := by
          intro w hw2
          refine m_ast d_Mo_shrink_82 k (by decide) (by exact rfl) (by exact (show k < 8 by omega)) ?_
          refine m_iload d_Mo_shrink_83 rfl ?_
          have hz27 : ∀ c, c < k + 1 → mW Z 27 k w 27 c = nclF st c := fun c hc => by
            by_cases hck : c = k
            · subst hck; rw [mW_at]; exact hw2
            · rw [mW_i hck]; exact z27 c (by omega)
          have hzq : ∀ q i, q ≠ 27 → mW Z 27 k w q i = xLM X A B d nm q i := fun q i a => by rw [mW_k a]; exact zq q i a
          have nx := ih (k + 1) (mW Z 27 k w) (by omega) hz27 hzq
          cases hs : st k with
          | false =>
            rw [show cntB st (k + 1) = cntB st k by show cntB st k + _ = _; rw [hs]; rfl] at nx
            refine m_if_eq (tgt := 91) d_Mo_shrink_85 (by decide) (fun _ => ?_) (fun c => absurd (rfl) c)
            refine m_iincw (w := 1) d_Mo_shrink_91 rfl (by decide) (by decide) rfl ?_
            refine m_goto (tgt := 15) d_Mo_shrink_94 (by decide) ?_
            rw [nI_1]
            exact m_keep 4 rfl nx
          | true =>
            rw [show cntB st (k + 1) = cntB st k + 1 by show cntB st k + _ = _; rw [hs]; rfl] at nx
            refine m_if_eq (tgt := 91) d_Mo_shrink_85 (by decide) (fun c => absurd c (by decide)) (fun _ => ?_)
            refine m_iincw (w := 1) d_Mo_shrink_88 rfl (by decide) (by decide) rfl ?_
            refine m_iincw (w := 1) d_Mo_shrink_91 rfl (by decide) (by decide) rfl ?_
            refine m_goto (tgt := 15) d_Mo_shrink_94 (by decide) ?_
            rw [nI_1, nI_1]
            exact m_keep 4 rfl nx
        refine m_aload_n d_Mo_shrink_67 rfl (by first | rfl | exact vIsR_rf _) ?_
        refine m_get d_Mo_shrink_68 27 (by decide) kf_Mo_80 rfl ?_
        refine m_iload_n d_Mo_shrink_71 rfl ?_
        refine m_iload d_Mo_shrink_72 rfl ?_
        cases hs : st k with
        | false =>
          rw [hs] at fin
          refine m_if_eq (tgt := 81) d_Mo_shrink_74 (by decide) (fun _ => ?_) (fun c => absurd (rfl) c)
          refine m_iconst (v := (-1)) d_Mo_shrink_81 (by decide) ?_
          exact fin _ (nclF_f hs).symm
        | true =>
          rw [hs] at fin
          refine m_if_eq (tgt := 81) d_Mo_shrink_74 (by decide) (fun c => absurd c (by decide)) (fun _ => ?_)
          refine m_iload_n d_Mo_shrink_77 rfl ?_
          refine m_goto (tgt := 82) d_Mo_shrink_78 (by decide) ?_
          exact fin _ (nclF_t hs).symm
      | succ n2 ih2 =>
        intro d hd
        have hdn : d < nc := by omega
        have nx := ih2 (d + 1) (by omega)
        refine m_iload d_Mo_shrink_29 rfl ?_
        refine m_aload_n d_Mo_shrink_31 rfl (by first | rfl | exact vIsR_rf _) ?_
        refine m_get d_Mo_shrink_32 16 (by decide) kf_Mo_96 rfl ?_
        refine m_icmp_ge (tgt := 67) d_Mo_shrink_35 (by decide) (fun c => absurd c ((by rw [show va_up Y 19 0 16 = nI nc from hyc]; exact nI_ge (by omega) (by omega)))) (fun _ => ?_)
        refine m_aload_n d_Mo_shrink_38 rfl (by first | rfl | exact vIsR_rf _) ?_
        refine m_get d_Mo_shrink_39 11 (by decide) kf_Mo_44 rfl ?_
        refine m_iload d_Mo_shrink_42 rfl ?_
        refine m_zald d_Mo_shrink_44 d (by decide) (by exact rfl) (by exact (show d < 8 by omega)) ?_
        rw [zq 11 d (by decide), xLM_11 hdn]
        cases ha : A d with
        | false =>
          rw [show anyB (fun d => A d && aboveS X k 9 d) (d + 1) = anyB (fun d => A d && aboveS X k 9 d) d by simp [anyB, ha]] at nx
          refine m_if_eq (tgt := 61) d_Mo_shrink_45 (by decide) (fun _ => ?_) (fun c => absurd (rfl) c)
          refine m_iincw (w := 1) d_Mo_shrink_61 rfl (by decide) (by decide) rfl ?_
          refine m_goto (tgt := 29) d_Mo_shrink_64 (by decide) ?_
          rw [nI_1]
          exact nx
        | true =>
          refine m_if_eq (tgt := 61) d_Mo_shrink_45 (by decide) (fun c => absurd c (by decide)) (fun _ => ?_)
          refine m_aload_n d_Mo_shrink_48 rfl (by first | rfl | exact vIsR_rf _) ?_
          refine m_iload_n d_Mo_shrink_49 rfl ?_
          refine m_iload d_Mo_shrink_50 rfl ?_
          refine m_callV2r (M1 := M_Mo_above) d_Mo_shrink_52 km_Mo_128 kI_Mo_above ks_Mo_Mo_above (by decide) (by first | rfl | exact vRf_cat _) (by first | rfl | exact vRf_cat _) (by decide) kM_Mo_above ki_Mo (by decide) (by decide +kernel) (c_Mo_above (nc := nc) (k := k) (d := d) (sameS_wP hsm hw.1) hkn hdn) ?_
          rw [sameS_above hsm]
          cases hab : aboveS X k 9 d with
          | false =>
            rw [show anyB (fun d => A d && aboveS X k 9 d) (d + 1) = anyB (fun d => A d && aboveS X k 9 d) d by simp [anyB, hab]] at nx
            refine m_if_eq (tgt := 61) d_Mo_shrink_55 (by decide) (fun _ => ?_) (fun c => absurd (rfl) c)
            refine m_iincw (w := 1) d_Mo_shrink_61 rfl (by decide) (by decide) rfl ?_
            refine m_goto (tgt := 29) d_Mo_shrink_64 (by decide) ?_
            rw [nI_1]
            exact nx
          | true =>
            rw [show anyB (fun d => A d && aboveS X k 9 d) (d + 1) = true by simp [anyB, ha, hab]] at nx
            refine m_if_eq (tgt := 61) d_Mo_shrink_55 (by decide) (fun c => absurd c (by decide)) (fun _ => ?_)
            refine m_iconst (v := 1) d_Mo_shrink_58 (by decide) ?_
            refine m_istore d_Mo_shrink_59 (by decide) rfl ?_
            refine m_iincw (w := 1) d_Mo_shrink_61 rfl (by decide) (by decide) rfl ?_
            refine m_goto (tgt := 29) d_Mo_shrink_64 (by decide) ?_
            rw [nI_1]
            exact nx
    refine m_iload_n d_Mo_shrink_15 rfl ?_
    refine m_aload_n d_Mo_shrink_16 rfl (by first | rfl | exact vIsR_rf _) ?_
    refine m_get d_Mo_shrink_17 16 (by decide) kf_Mo_96 rfl ?_
    refine m_icmp_ge (tgt := 97) d_Mo_shrink_20 (by decide) (fun c => absurd c ((by rw [show va_up Y 19 0 16 = nI nc from hyc]; exact nI_ge (by omega) (by omega)))) (fun _ => ?_)
    refine m_iconst (v := 0) d_Mo_shrink_23 (by decide) ?_
    refine m_istore d_Mo_shrink_24 (by decide) rfl ?_
    refine m_iconst (v := 0) d_Mo_shrink_26 (by decide) ?_
    refine m_istore d_Mo_shrink_27 (by decide) rfl ?_
    exact inner nc 0 (by omega)
def shSt (X : Nat → Nat → Int32) (nc nm : Nat) : Nat → Bool := stB X (liveF X nc nm).1 nc
def shGd (X : Nat → Nat → Int32) (nc nm : Nat) : Nat → Bool := fun m => (liveF X nc nm).2.1 m && shSt X nc nm (oN X m)
theorem c_Mo_shrink {nc nm : Nat} (hw : wW X nc nm) (hy : Y 17 = nI nm) (hyc : Y 16 = nI nc) : VM G M_Mo_shrink 5 200 0 [(0, .ref am)] [] am ad X Y (shQ X Y nc nm (shSt X nc nm) (shGd X nc nm)) := by
  refine m_aload_n d_Mo_shrink_0 rfl (by first | rfl | exact vIsR_rf _) ?_
  refine m_iconst (v := 0) d_Mo_shrink_1 (by decide) ?_
  refine m_putI d_Mo_shrink_2 19 (by decide) kf_Mo_92 ?_
  refine m_aload_n d_Mo_shrink_5 rfl (by first | rfl | exact vIsR_rf _) ?_
  refine m_callV0u (M1 := M_Mo_findLive) d_Mo_shrink_6 km_Mo_138 kI_Mo_findLive ks_Mo_Mo_findLive (by decide) (by decide) kM_Mo_findLive ki_Mo (by decide) (by decide +kernel) (c_Mo_findLive (nc := nc) (nm := nm) hw hy hyc) ?_
  refine m_iconst (v := 0) d_Mo_shrink_9 (by decide) ?_
  refine m_istore_n d_Mo_shrink_10 (by decide) rfl ?_
  refine m_iconst (v := 0) d_Mo_shrink_11 (by decide) ?_
  refine m_istore_n d_Mo_shrink_12 (by decide) rfl ?_
  refine m_iconst (v := 0) d_Mo_shrink_13 (by decide) ?_
  refine m_istore_n d_Mo_shrink_14 (by decide) rfl ?_
  exact m_sh1 hw hy hyc (fun m => rfl) (fun k => rfl) nc 0 _ (by omega) (fun c hc => absurd hc (Nat.not_lt_zero c)) (fun q i _ => rfl)
end VM9
