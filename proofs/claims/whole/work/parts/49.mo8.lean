/-! The reference: moveMethod. -/
section VM8
variable {G : vG} {am : Nat} {ad : Nat → Nat} {X : Nat → Nat → Int32} {Y : Nat → Int32}
/-- m's row and items stand at 'to'; all else is as it was -/
def mvR (X : Nat → Nat → Int32) (m to : Nat) (X' : Nat → Nat → Int32) : Prop :=
  X' 2 to = X 27 (oN X m) ∧ (∀ k, 3 ≤ k → k ≤ 9 → X' k to = X k m) ∧
  (∀ j, j < iN X m → X' 12 (to * 5 + j) = X 12 (m * 5 + j) ∧ X' 13 (to * 5 + j) = (if X 12 (m * 5 + j) = 1 then X 27 (cN X (m * 5 + j)) else X 13 (m * 5 + j)) ∧ X' 14 (to * 5 + j) = X 14 (m * 5 + j) ∧ X' 15 (to * 5 + j) = X 15 (m * 5 + j)) ∧
  (∀ k i, (2 ≤ k → k ≤ 9 → i ≠ to) → (12 ≤ k → k ≤ 15 → i < to * 5 ∨ to * 5 + 5 ≤ i) → X' k i = X k i)
theorem c_Mo_moveMethod {nc m to : Nat} (hm : m < 24) (hto : to ≤ m) (ho : oN X m < nc ∧ X 2 m = nI (oN X m)) (hc8 : nc ≤ 8) (hi : iN X m ≤ 5 ∧ X 5 m = nI (iN X m)) (hk9 : X 9 m = bI (kN X m)) (hc : ∀ j, j < iN X m → X 12 (m * 5 + j) = 1 → cN X (m * 5 + j) < nc ∧ X 13 (m * 5 + j) = nI (cN X (m * 5 + j))) : VM G M_Mo_moveMethod 0 0 0 [(0, .ref am), (1, .int (nI m)), (2, .int (nI to))] [] am ad X Y (fun r X' Y' => r = .inl none ∧ Y' = Y ∧ mvR X m to X') := by
  have hto24 : to < 24 := by omega
  -- the items, one by one
  have loop : ∀ n j (Z : Nat → Nat → Int32) (lv4 : List (Nat × Value)), j + n = iN X m → (lv4 = [] ∨ ∃ x y, lv4 = [(4, .int x), (5, .int y)]) → Z 2 to = X 27 (oN X m) → (∀ k, 3 ≤ k → k ≤ 9 → Z k to = X k m) → (∀ i, i < j → Z 12 (to * 5 + i) = X 12 (m * 5 + i) ∧ Z 13 (to * 5 + i) = (if X 12 (m * 5 + i) = 1 then X 27 (cN X (m * 5 + i)) else X 13 (m * 5 + i)) ∧ Z 14 (to * 5 + i) = X 14 (m * 5 + i) ∧ Z 15 (to * 5 + i) = X 15 (m * 5 + i)) → (∀ k i, (2 ≤ k → k ≤ 9 → i ≠ to) → (12 ≤ k → k ≤ 15 → i < to * 5 ∨ to * 5 + j ≤ i) → Z k i = X k i) → VM G M_Mo_moveMethod 0 0 103 ([(0, .ref am), (1, .int (nI m)), (2, .int (nI to)), (3, .int (nI j))] ++ lv4) [] am ad Z Y (fun r X' Y' => r = .inl none ∧ Y' = Y ∧ mvR X m to X') := by
    intro n
    induction n with
    | zero =>
      intro j Z lv4 hj h4 z2 z3 zi zk
      have e5 : Z 5 m = nI (iN X m) := by
        by_cases hmt : m = to
        · rw [hmt, z3 5 (by decide) (by decide), ← hmt]; exact hi.2
        · rw [zk 5 m (fun _ _ => hmt) (fun h => absurd h (by decide))]; exact hi.2
      have fin : (Sum.inl none : vR) = .inl none ∧ Y = Y ∧ mvR X m to Z := ⟨rfl, rfl, z2, z3, fun i h => zi i (by omega), fun k i h1 h2 => zk k i h1 (fun a b => by have := h2 a b; omega)⟩
      rcases h4 with rfl | ⟨x, y, rfl⟩
      · refine m_iload_n d_Mo_moveMethod_103 rfl ?_
        refine m_aload_n d_Mo_moveMethod_104 rfl (by first | rfl | exact vIsR_rf _) ?_
        refine m_get d_Mo_moveMethod_105 5 (by decide) kf_Mo_25 rfl ?_
        refine m_iload_n d_Mo_moveMethod_108 rfl ?_
        refine m_ald d_Mo_moveMethod_109 m (by decide) (by exact rfl) (by exact hm) ?_
        rw [e5]
        refine m_icmp_ge (tgt := 215) d_Mo_moveMethod_110 (by decide) (fun _ => ?_) (fun c => absurd (nI_le (by omega) (by omega)) c)
        exact m_vret d_Mo_moveMethod_215 rfl fin
      · refine m_iload_n d_Mo_moveMethod_103 rfl ?_
        refine m_aload_n d_Mo_moveMethod_104 rfl (by first | rfl | exact vIsR_rf _) ?_
        refine m_get d_Mo_moveMethod_105 5 (by decide) kf_Mo_25 rfl ?_
        refine m_iload_n d_Mo_moveMethod_108 rfl ?_
        refine m_ald d_Mo_moveMethod_109 m (by decide) (by exact rfl) (by exact hm) ?_
        rw [e5]
        refine m_icmp_ge (tgt := 215) d_Mo_moveMethod_110 (by decide) (fun _ => ?_) (fun c => absurd (nI_le (by omega) (by omega)) c)
        exact m_vret d_Mo_moveMethod_215 rfl fin
    | succ n ih =>
      intro j Z lv4 hj h4 z2 z3 zi zk
      have hj5 : j < 5 := by omega
      have hf : m * 5 + j < 120 := by omega
      have ht : to * 5 + j < 120 := by omega
      have e5 : Z 5 m = nI (iN X m) := by
        by_cases hmt : m = to
        · rw [hmt, z3 5 (by decide) (by decide), ← hmt]; exact hi.2
        · rw [zk 5 m (fun _ _ => hmt) (fun h => absurd h (by decide))]; exact hi.2
      have src : ∀ k, 12 ≤ k → k ≤ 15 → Z k (m * 5 + j) = X k (m * 5 + j) := fun k h1 h2 => zk k _ (fun _ h => by omega) (fun _ _ => by omega)
      have z27 : ∀ c, Z 27 c = X 27 c := fun c => zk 27 c (fun _ h => by omega) (fun _ h => by omega)
      have e1 : nI m * 5 + nI j = nI (m * 5 + j) := by rw [show (5 : Int32) = nI 5 from rfl, pk_mul, nI_add]
      have e2 : nI to * 5 + nI j = nI (to * 5 + j) := by rw [show (5 : Int32) = nI 5 from rfl, pk_mul, nI_add]
      -- the body, from 127 on
      have body : VM G M_Mo_moveMethod 0 0 127 [(0, .ref am), (1, .int (nI m)), (2, .int (nI to)), (3, .int (nI j)), (4, .int (nI (m * 5 + j))), (5, .int (nI (to * 5 + j)))] [] am ad Z Y (fun r X' Y' => r = .inl none ∧ Y' = Y ∧ mvR X m to X') := by
        refine m_aload_n d_Mo_moveMethod_127 rfl (by first | rfl | exact vIsR_rf _) ?_
        refine m_get d_Mo_moveMethod_128 12 (by decide) kf_Mo_47 rfl ?_
        refine m_iload d_Mo_moveMethod_131 rfl ?_
        refine m_aload_n d_Mo_moveMethod_133 rfl (by first | rfl | exact vIsR_rf _) ?_
        refine m_get d_Mo_moveMethod_134 12 (by decide) kf_Mo_47 rfl ?_
        refine m_iload d_Mo_moveMethod_137 rfl ?_
        refine m_ald d_Mo_moveMethod_139 (m * 5 + j) (by decide) (by exact rfl) (by exact hf) ?_
        rw [src 12 (by decide) (by decide)]
        refine m_ast d_Mo_moveMethod_140 (to * 5 + j) (by decide) (by exact rfl) (by exact ht) ?_
        have last : ∀ w : Int32, w = (if X 12 (m * 5 + j) = 1 then X 27 (cN X (m * 5 + j)) else X 13 (m * 5 + j)) → VM G M_Mo_moveMethod 0 0 180 [(0, .ref am), (1, .int (nI m)), (2, .int (nI to)), (3, .int (nI j)), (4, .int (nI (m * 5 + j))), (5, .int (nI (to * 5 + j)))] [.int w, .int (nI (to * 5 + j)), .ref (ad 13)] am ad (mW Z 12 (to * 5 + j) (X 12 (m * 5 + j))) Y (fun r X' Y' => r = .inl none ∧ Y' = Y ∧ mvR X m to X') := by
          intro w hw
          refine m_ast d_Mo_moveMethod_180 (to * 5 + j) (by decide) (by exact rfl) (by exact ht) ?_
          refine m_aload_n d_Mo_moveMethod_181 rfl (by first | rfl | exact vIsR_rf _) ?_
          refine m_get d_Mo_moveMethod_182 14 (by decide) kf_Mo_53 rfl ?_
          refine m_iload d_Mo_moveMethod_185 rfl ?_
          refine m_aload_n d_Mo_moveMethod_187 rfl (by first | rfl | exact vIsR_rf _) ?_
          refine m_get d_Mo_moveMethod_188 14 (by decide) kf_Mo_53 rfl ?_
          refine m_iload d_Mo_moveMethod_191 rfl ?_
          refine m_ald d_Mo_moveMethod_193 (m * 5 + j) (by decide) (by exact rfl) (by exact hf) ?_
          rw [mW_k (by decide), mW_k (by decide), src 14 (by decide) (by decide)]
          refine m_ast d_Mo_moveMethod_194 (to * 5 + j) (by decide) (by exact rfl) (by exact ht) ?_
          refine m_aload_n d_Mo_moveMethod_195 rfl (by first | rfl | exact vIsR_rf _) ?_
          refine m_get d_Mo_moveMethod_196 15 (by decide) kf_Mo_56 rfl ?_
          refine m_iload d_Mo_moveMethod_199 rfl ?_
          refine m_aload_n d_Mo_moveMethod_201 rfl (by first | rfl | exact vIsR_rf _) ?_
          refine m_get d_Mo_moveMethod_202 15 (by decide) kf_Mo_56 rfl ?_
          refine m_iload d_Mo_moveMethod_205 rfl ?_
          refine m_ald d_Mo_moveMethod_207 (m * 5 + j) (by decide) (by exact rfl) (by exact hf) ?_
          rw [mW_k (by decide), mW_k (by decide), mW_k (by decide), src 15 (by decide) (by decide)]
          refine m_ast d_Mo_moveMethod_208 (to * 5 + j) (by decide) (by exact rfl) (by exact ht) ?_
          refine m_iincw (w := 1) d_Mo_moveMethod_209 rfl (by decide) (by decide) rfl ?_
          refine m_goto (tgt := 103) d_Mo_moveMethod_212 (by decide) ?_
          rw [nI_1]
          refine ih (j + 1) _ [(4, .int (nI (m * 5 + j))), (5, .int (nI (to * 5 + j)))] (by omega) (Or.inr ⟨_, _, rfl⟩) (by simp [mW, z2]) (fun k h1 h2 => ?_) (fun i hij => ?_) (fun k i h1 h2 => ?_)
          · rw [mW_k (by omega), mW_k (by omega), mW_k (by omega), mW_k (by omega)]
            exact z3 k h1 h2
          · by_cases hi2 : i = j
            · subst hi2
              simp [mW, hw]
            · obtain ⟨a1, a2, a3, a4⟩ := zi i (by omega)
              have hne : to * 5 + i ≠ to * 5 + j := by omega
              simp [mW, hi2, a1, a2, a3, a4]
          · by_cases hik : 12 ≤ k ∧ k ≤ 15
            · have h3 := h2 hik.1 hik.2
              rw [mW_i (by omega), mW_i (by omega), mW_i (by omega), mW_i (by omega)]
              exact zk k i h1 (fun _ _ => by omega)
            · rw [mW_k (by omega), mW_k (by omega), mW_k (by omega), mW_k (by omega)]
              exact zk k i h1 (fun a b => absurd ⟨a, b⟩ hik)
        refine m_aload_n d_Mo_moveMethod_141 rfl (by first | rfl | exact vIsR_rf _) ?_
        refine m_get d_Mo_moveMethod_142 13 (by decide) kf_Mo_50 rfl ?_
        refine m_iload d_Mo_moveMethod_145 rfl ?_
        refine m_aload_n d_Mo_moveMethod_147 rfl (by first | rfl | exact vIsR_rf _) ?_
        refine m_get d_Mo_moveMethod_148 12 (by decide) kf_Mo_47 rfl ?_
        refine m_iload d_Mo_moveMethod_151 rfl ?_
        refine m_ald d_Mo_moveMethod_153 (m * 5 + j) (by decide) (by exact rfl) (by exact hf) ?_
        have e12 : mW Z 12 (to * 5 + j) (X 12 (m * 5 + j)) 12 (m * 5 + j) = X 12 (m * 5 + j) := by
          by_cases hmt : m * 5 + j = to * 5 + j
          · rw [hmt, mW_at]
          · rw [mW_i hmt]; exact src 12 (by decide) (by decide)
        rw [e12]
        refine m_iconst (v := 1) d_Mo_moveMethod_154 (by decide) ?_
        refine m_icmp_ne (tgt := 173) d_Mo_moveMethod_155 (by decide) (fun c_155 => ?_) (fun c_155 => ?_)
        · refine m_aload_n d_Mo_moveMethod_173 rfl (by first | rfl | exact vIsR_rf _) ?_
          refine m_get d_Mo_moveMethod_174 13 (by decide) kf_Mo_50 rfl ?_
          refine m_iload d_Mo_moveMethod_177 rfl ?_
          refine m_ald d_Mo_moveMethod_179 (m * 5 + j) (by decide) (by exact rfl) (by exact hf) ?_
          rw [mW_k (by decide), src 13 (by decide) (by decide)]
          exact last _ (by rw [if_neg c_155])
        · have h1 : X 12 (m * 5 + j) = 1 := c_155
          obtain ⟨h2, h3⟩ := hc j (by omega) h1
          refine m_aload_n d_Mo_moveMethod_158 rfl (by first | rfl | exact vIsR_rf _) ?_
          refine m_get d_Mo_moveMethod_159 27 (by decide) kf_Mo_80 rfl ?_
          refine m_aload_n d_Mo_moveMethod_162 rfl (by first | rfl | exact vIsR_rf _) ?_
          refine m_get d_Mo_moveMethod_163 13 (by decide) kf_Mo_50 rfl ?_
          refine m_iload d_Mo_moveMethod_166 rfl ?_
          refine m_ald d_Mo_moveMethod_168 (m * 5 + j) (by decide) (by exact rfl) (by exact hf) ?_
          rw [mW_k (by decide), src 13 (by decide) (by decide), h3]
          refine m_ald d_Mo_moveMethod_169 (cN X (m * 5 + j)) (by decide) (by exact rfl) (by exact (show cN X (m * 5 + j) < 8 by omega)) ?_
          refine m_goto (tgt := 180) d_Mo_moveMethod_170 (by decide) ?_
          rw [mW_k (by decide), z27]
          exact last _ (by rw [if_pos h1])
      rcases h4 with rfl | ⟨x, y, rfl⟩
      · refine m_iload_n d_Mo_moveMethod_103 rfl ?_
        refine m_aload_n d_Mo_moveMethod_104 rfl (by first | rfl | exact vIsR_rf _) ?_
        refine m_get d_Mo_moveMethod_105 5 (by decide) kf_Mo_25 rfl ?_
        refine m_iload_n d_Mo_moveMethod_108 rfl ?_
        refine m_ald d_Mo_moveMethod_109 m (by decide) (by exact rfl) (by exact hm) ?_
        rw [e5]
        refine m_icmp_ge (tgt := 215) d_Mo_moveMethod_110 (by decide) (fun c => absurd c (nI_ge (by omega) (by omega))) (fun _ => ?_)
        refine m_iload_n d_Mo_moveMethod_113 rfl ?_
        refine m_iconst (v := 5) d_Mo_moveMethod_114 (by decide) ?_
        refine m_imul d_Mo_moveMethod_115 ?_
        refine m_iload_n d_Mo_moveMethod_116 rfl ?_
        refine m_iadd d_Mo_moveMethod_117 ?_
        rw [e1]
        refine m_istore d_Mo_moveMethod_118 (by decide) rfl ?_
        refine m_iload_n d_Mo_moveMethod_120 rfl ?_
        refine m_iconst (v := 5) d_Mo_moveMethod_121 (by decide) ?_
        refine m_imul d_Mo_moveMethod_122 ?_
        refine m_iload_n d_Mo_moveMethod_123 rfl ?_
        refine m_iadd d_Mo_moveMethod_124 ?_
        rw [e2]
        refine m_istore d_Mo_moveMethod_125 (by decide) rfl ?_
        exact body
      · refine m_iload_n d_Mo_moveMethod_103 rfl ?_
        refine m_aload_n d_Mo_moveMethod_104 rfl (by first | rfl | exact vIsR_rf _) ?_
        refine m_get d_Mo_moveMethod_105 5 (by decide) kf_Mo_25 rfl ?_
        refine m_iload_n d_Mo_moveMethod_108 rfl ?_
        refine m_ald d_Mo_moveMethod_109 m (by decide) (by exact rfl) (by exact hm) ?_
        rw [e5]
        refine m_icmp_ge (tgt := 215) d_Mo_moveMethod_110 (by decide) (fun c => absurd c (nI_ge (by omega) (by omega))) (fun _ => ?_)
        refine m_iload_n d_Mo_moveMethod_113 rfl ?_
        refine m_iconst (v := 5) d_Mo_moveMethod_114 (by decide) ?_
        refine m_imul d_Mo_moveMethod_115 ?_
        refine m_iload_n d_Mo_moveMethod_116 rfl ?_
        refine m_iadd d_Mo_moveMethod_117 ?_
        rw [e1]
        refine m_istore d_Mo_moveMethod_118 (by decide) rfl ?_
        refine m_iload_n d_Mo_moveMethod_120 rfl ?_
        refine m_iconst (v := 5) d_Mo_moveMethod_121 (by decide) ?_
        refine m_imul d_Mo_moveMethod_122 ?_
        refine m_iload_n d_Mo_moveMethod_123 rfl ?_
        refine m_iadd d_Mo_moveMethod_124 ?_
        rw [e2]
        refine m_istore d_Mo_moveMethod_125 (by decide) rfl ?_
        exact body
  refine m_aload_n d_Mo_moveMethod_0 rfl (by first | rfl | exact vIsR_rf _) ?_
  refine m_get d_Mo_moveMethod_1 2 (by decide) kf_Mo_16 rfl ?_
  refine m_iload_n d_Mo_moveMethod_4 rfl ?_
  refine m_aload_n d_Mo_moveMethod_5 rfl (by first | rfl | exact vIsR_rf _) ?_
  refine m_get d_Mo_moveMethod_6 27 (by decide) kf_Mo_80 rfl ?_
  refine m_aload_n d_Mo_moveMethod_9 rfl (by first | rfl | exact vIsR_rf _) ?_
  refine m_get d_Mo_moveMethod_10 2 (by decide) kf_Mo_16 rfl ?_
  refine m_iload_n d_Mo_moveMethod_13 rfl ?_
  refine m_at 14 rfl ?_
  refine m_ald d_Mo_moveMethod_14 m (by decide) (by exact rfl) (by exact hm) ?_
  rw [ho.2]
  refine m_ald d_Mo_moveMethod_15 (oN X m) (by decide) (by exact rfl) (by exact (show oN X m < 8 by omega)) ?_
  refine m_ast d_Mo_moveMethod_16 to (by decide) (by exact rfl) (by exact hto24) ?_
  refine m_aload_n d_Mo_moveMethod_17 rfl (by first | rfl | exact vIsR_rf _) ?_
  refine m_get d_Mo_moveMethod_18 3 (by decide) kf_Mo_19 rfl ?_
  refine m_iload_n d_Mo_moveMethod_21 rfl ?_
  refine m_aload_n d_Mo_moveMethod_22 rfl (by first | rfl | exact vIsR_rf _) ?_
  refine m_get d_Mo_moveMethod_23 3 (by decide) kf_Mo_19 rfl ?_
  refine m_iload_n d_Mo_moveMethod_26 rfl ?_
  refine m_at 27 rfl ?_
  refine m_ald d_Mo_moveMethod_27 m (by decide) (by exact rfl) (by exact hm) ?_
  simp only [mW_k, ne_eq, not_false_eq_true, Nat.reduceEqDiff]
  refine m_ast d_Mo_moveMethod_28 to (by decide) (by exact rfl) (by exact hto24) ?_
  refine m_aload_n d_Mo_moveMethod_29 rfl (by first | rfl | exact vIsR_rf _) ?_
  refine m_get d_Mo_moveMethod_30 4 (by decide) kf_Mo_22 rfl ?_
  refine m_iload_n d_Mo_moveMethod_33 rfl ?_
  refine m_aload_n d_Mo_moveMethod_34 rfl (by first | rfl | exact vIsR_rf _) ?_
  refine m_get d_Mo_moveMethod_35 4 (by decide) kf_Mo_22 rfl ?_
  refine m_iload_n d_Mo_moveMethod_38 rfl ?_
  refine m_ald d_Mo_moveMethod_39 m (by decide) (by exact rfl) (by exact hm) ?_
  simp only [mW_k, ne_eq, not_false_eq_true, Nat.reduceEqDiff]
  refine m_ast d_Mo_moveMethod_40 to (by decide) (by exact rfl) (by exact hto24) ?_
  refine m_aload_n d_Mo_moveMethod_41 rfl (by first | rfl | exact vIsR_rf _) ?_
  refine m_get d_Mo_moveMethod_42 5 (by decide) kf_Mo_25 rfl ?_
  refine m_iload_n d_Mo_moveMethod_45 rfl ?_
  refine m_aload_n d_Mo_moveMethod_46 rfl (by first | rfl | exact vIsR_rf _) ?_
  refine m_get d_Mo_moveMethod_47 5 (by decide) kf_Mo_25 rfl ?_
  refine m_iload_n d_Mo_moveMethod_50 rfl ?_
  refine m_ald d_Mo_moveMethod_51 m (by decide) (by exact rfl) (by exact hm) ?_
  simp only [mW_k, ne_eq, not_false_eq_true, Nat.reduceEqDiff]
  refine m_ast d_Mo_moveMethod_52 to (by decide) (by exact rfl) (by exact hto24) ?_
  refine m_aload_n d_Mo_moveMethod_53 rfl (by first | rfl | exact vIsR_rf _) ?_
  refine m_get d_Mo_moveMethod_54 9 (by decide) kf_Mo_37 rfl ?_
  refine m_iload_n d_Mo_moveMethod_57 rfl ?_
  refine m_aload_n d_Mo_moveMethod_58 rfl (by first | rfl | exact vIsR_rf _) ?_
  refine m_get d_Mo_moveMethod_59 9 (by decide) kf_Mo_37 rfl ?_
  refine m_iload_n d_Mo_moveMethod_62 rfl ?_
  refine m_zald d_Mo_moveMethod_63 m (by decide) (by exact rfl) (by exact hm) ?_
  simp only [mW_k, ne_eq, not_false_eq_true, Nat.reduceEqDiff]
  rw [hk9]
  refine m_zast d_Mo_moveMethod_64 to (by decide) (by exact rfl) (by exact hto24) (by exact (bI_np _)) ?_
  refine m_aload_n d_Mo_moveMethod_65 rfl (by first | rfl | exact vIsR_rf _) ?_
  refine m_get d_Mo_moveMethod_66 6 (by decide) kf_Mo_28 rfl ?_
  refine m_iload_n d_Mo_moveMethod_69 rfl ?_
  refine m_aload_n d_Mo_moveMethod_70 rfl (by first | rfl | exact vIsR_rf _) ?_
  refine m_get d_Mo_moveMethod_71 6 (by decide) kf_Mo_28 rfl ?_
  refine m_iload_n d_Mo_moveMethod_74 rfl ?_
  refine m_ald d_Mo_moveMethod_75 m (by decide) (by exact rfl) (by exact hm) ?_
  simp only [mW_k, ne_eq, not_false_eq_true, Nat.reduceEqDiff]
  refine m_ast d_Mo_moveMethod_76 to (by decide) (by exact rfl) (by exact hto24) ?_
  refine m_aload_n d_Mo_moveMethod_77 rfl (by first | rfl | exact vIsR_rf _) ?_
  refine m_get d_Mo_moveMethod_78 7 (by decide) kf_Mo_31 rfl ?_
  refine m_iload_n d_Mo_moveMethod_81 rfl ?_
  refine m_aload_n d_Mo_moveMethod_82 rfl (by first | rfl | exact vIsR_rf _) ?_
  refine m_get d_Mo_moveMethod_83 7 (by decide) kf_Mo_31 rfl ?_
  refine m_iload_n d_Mo_moveMethod_86 rfl ?_
  refine m_ald d_Mo_moveMethod_87 m (by decide) (by exact rfl) (by exact hm) ?_
  simp only [mW_k, ne_eq, not_false_eq_true, Nat.reduceEqDiff]
  refine m_ast d_Mo_moveMethod_88 to (by decide) (by exact rfl) (by exact hto24) ?_
  refine m_aload_n d_Mo_moveMethod_89 rfl (by first | rfl | exact vIsR_rf _) ?_
  refine m_get d_Mo_moveMethod_90 8 (by decide) kf_Mo_34 rfl ?_
  refine m_iload_n d_Mo_moveMethod_93 rfl ?_
  refine m_aload_n d_Mo_moveMethod_94 rfl (by first | rfl | exact vIsR_rf _) ?_
  refine m_get d_Mo_moveMethod_95 8 (by decide) kf_Mo_34 rfl ?_
  refine m_iload_n d_Mo_moveMethod_98 rfl ?_
  refine m_ald d_Mo_moveMethod_99 m (by decide) (by exact rfl) (by exact hm) ?_
  simp only [mW_k, ne_eq, not_false_eq_true, Nat.reduceEqDiff]
  refine m_ast d_Mo_moveMethod_100 to (by decide) (by exact rfl) (by exact hto24) ?_
  refine m_iconst (v := 0) d_Mo_moveMethod_101 (by decide) ?_
  refine m_istore_n d_Mo_moveMethod_102 (by decide) rfl ?_
  refine loop (iN X m) 0 _ [] (by omega) (Or.inl rfl) (by simp [mW]) (fun k h1 h2 => ?_) (fun i hi => absurd hi (Nat.not_lt_zero _)) (fun k i h1 h2 => ?_)
  · rcases (show k = 3 ∨ k = 4 ∨ k = 5 ∨ k = 6 ∨ k = 7 ∨ k = 8 ∨ k = 9 by omega) with rfl | rfl | rfl | rfl | rfl | rfl | rfl <;> simp [mW, hk9]
  · by_cases hit : i = to
    · have hk : k < 2 ∨ 9 < k := by
        rcases Nat.lt_or_ge k 2 with q | q
        · exact Or.inl q
        · rcases Nat.lt_or_ge 9 k with p | p
          · exact Or.inr p
          · exact absurd hit (h1 q p)
      rw [mW_k (by omega), mW_k (by omega), mW_k (by omega), mW_k (by omega), mW_k (by omega), mW_k (by omega), mW_k (by omega), mW_k (by omega)]
    · rw [mW_i hit, mW_i hit, mW_i hit, mW_i hit, mW_i hit, mW_i hit, mW_i hit, mW_i hit]
end VM8
