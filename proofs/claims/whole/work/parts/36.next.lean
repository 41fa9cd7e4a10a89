theorem m_in (θ : Site) (S : St) (v a b : Int64) : Cti yX10_in cX10_in 6 (some .boolean) 0 θ shM [.long v, .long a, .long b] S (fun r S' => r = nI (if a ≤ v ∧ v ≤ b then 1 else 0) ∧ S' = S) := by
  refine Cti.mkz (own := RX10) 0 [some (.long v), none, some (.long a), none, some (.long b), none] (fun K hC => ?_)
  refine q_lload_n hC dX10_in_0 ?_
  refine q_lload_n hC dX10_in_1 ?_
  refine q_lcmp hC dX10_in_2 ?_
  refine q_if_lt hC 17 dX10_in_3 (by decide) (fun hb => ?_) (fun hb => ?_)
  · have h1 : ¬ a ≤ v := by have := (lg_lt v a).mp hb; exact Int64.not_le.mpr this
    refine q_iconst (v := nI 0) hC dX10_in_17 (by decide) ?_
    refine q_iret hC dX10_in_18 ?_
    exact ⟨⟨by rw [if_neg (fun z => h1 z.1)], rfl⟩, by decide⟩
  · have h1 : a ≤ v := Int64.not_lt.mp (fun z => hb ((lg_lt v a).mpr z))
    refine q_lload_n hC dX10_in_6 ?_
    refine q_lload hC dX10_in_7 ?_
    refine q_lcmp hC dX10_in_9 ?_
    refine q_if_gt hC 17 dX10_in_10 (by decide) (fun hb2 => ?_) (fun hb2 => ?_)
    · have h2 : ¬ v ≤ b := by have := (lg_gt v b).mp hb2; exact Int64.not_le.mpr this
      refine q_iconst (v := nI 0) hC dX10_in_17 (by decide) ?_
      refine q_iret hC dX10_in_18 ?_
      exact ⟨⟨by rw [if_neg (fun z => h2 z.2)], rfl⟩, by decide⟩
    · have h2 : v ≤ b := Int64.not_lt.mp (fun z => hb2 ((lg_gt v b).mpr z))
      refine q_iconst (v := nI 1) hC dX10_in_13 (by decide) ?_
      refine q_goto hC 18 dX10_in_14 (by decide) ?_
      refine q_iret hC dX10_in_18 ?_
      exact ⟨⟨by rw [if_pos ⟨h1, h2⟩], rfl⟩, by decide⟩
theorem m_isLetter (θ : Site) (S : St) (b : Nat) (hb : b < 256) : Cti yX10_isLetter cX10_isLetter 1 (some .boolean) 0 θ shM [.int (nI b)] S (fun r S' => r = nI (if isL b = true then 1 else 0) ∧ S' = S) := by
  refine Cti.mkz (own := RX10) 0 [some (.int (nI b))] (fun K hC => ?_)
  refine q_iload_n hC dX10_isLetter_0 ?_
  refine q_bipush (v := nI 96) hC dX10_isLetter_1 (by decide) ?_
  refine q_icmp_le hC 16 dX10_isLetter_3 (by decide) (fun h1 => ?_) (fun h1 => ?_)
  · have h9 : ¬ isL b = true := fun z => by have := isL_bd z; have := (nI_leI (by omega) (by omega)).mp h1; omega
    refine q_iconst (v := nI 0) hC dX10_isLetter_16 (by decide) ?_
    refine q_iret hC dX10_isLetter_17 ?_
    exact ⟨⟨by rw [if_neg h9], rfl⟩, by decide⟩
  · refine q_iload_n hC dX10_isLetter_6 ?_
    refine q_bipush (v := nI 123) hC dX10_isLetter_7 (by decide) ?_
    refine q_icmp_ge hC 16 dX10_isLetter_9 (by decide) (fun h2 => ?_) (fun h2 => ?_)
    · have h9 : ¬ isL b = true := fun z => by have := isL_bd z; have := (nI_leI (by omega) (by omega)).mp h2; omega
      refine q_iconst (v := nI 0) hC dX10_isLetter_16 (by decide) ?_
      refine q_iret hC dX10_isLetter_17 ?_
      exact ⟨⟨by rw [if_neg h9], rfl⟩, by decide⟩
    · have h9 : isL b = true := by
        unfold isL
        simp only [Bool.and_eq_true, decide_eq_true_eq]
        constructor
        · rcases Nat.lt_or_ge 96 b with h | h
          · omega
          · exact absurd (nI_le h (by omega)) h1
        · rcases Nat.lt_or_ge b 123 with h | h
          · omega
          · exact absurd (nI_le h (by omega)) h2
      refine q_iconst (v := nI 1) hC dX10_isLetter_12 (by decide) ?_
      refine q_goto hC 17 dX10_isLetter_13 (by decide) ?_
      refine q_iret hC dX10_isLetter_17 ?_
      exact ⟨⟨by rw [if_pos h9], rfl⟩, by decide⟩
theorem m_isFigure (θ : Site) (S : St) (b : Nat) (hb : b < 256) : Cti yX10_isFigure cX10_isFigure 1 (some .boolean) 0 θ shM [.int (nI b)] S (fun r S' => r = nI (if isD b = true then 1 else 0) ∧ S' = S) := by
  refine Cti.mkz (own := RX10) 0 [some (.int (nI b))] (fun K hC => ?_)
  refine q_iload_n hC dX10_isFigure_0 ?_
  refine q_bipush (v := nI 47) hC dX10_isFigure_1 (by decide) ?_
  refine q_icmp_le hC 16 dX10_isFigure_3 (by decide) (fun h1 => ?_) (fun h1 => ?_)
  · have h9 : ¬ isD b = true := fun z => by have := isD_bd z; have := (nI_leI (by omega) (by omega)).mp h1; omega
    refine q_iconst (v := nI 0) hC dX10_isFigure_16 (by decide) ?_
    refine q_iret hC dX10_isFigure_17 ?_
    exact ⟨⟨by rw [if_neg h9], rfl⟩, by decide⟩
  · refine q_iload_n hC dX10_isFigure_6 ?_
    refine q_bipush (v := nI 58) hC dX10_isFigure_7 (by decide) ?_
    refine q_icmp_ge hC 16 dX10_isFigure_9 (by decide) (fun h2 => ?_) (fun h2 => ?_)
    · have h9 : ¬ isD b = true := fun z => by have := isD_bd z; have := (nI_leI (by omega) (by omega)).mp h2; omega
      refine q_iconst (v := nI 0) hC dX10_isFigure_16 (by decide) ?_
      refine q_iret hC dX10_isFigure_17 ?_
      exact ⟨⟨by rw [if_neg h9], rfl⟩, by decide⟩
    · have h9 : isD b = true := by
        unfold isD
        simp only [Bool.and_eq_true, decide_eq_true_eq]
        constructor
        · rcases Nat.lt_or_ge 47 b with h | h
          · omega
          · exact absurd (nI_le h (by omega)) h1
        · rcases Nat.lt_or_ge b 58 with h | h
          · omega
          · exact absurd (nI_le h (by omega)) h2
      refine q_iconst (v := nI 1) hC dX10_isFigure_12 (by decide) ?_
      refine q_goto hC 17 dX10_isFigure_13 (by decide) ?_
      refine q_iret hC dX10_isFigure_17 ?_
      exact ⟨⟨by rw [if_pos h9], rfl⟩, by decide⟩
/-- the reference's next() -/
theorem m_next (θ : Site) (S : St) (a0 L : Nat) (x : Nat → Nat) (hx : MTx S L x) (h17 : S.1 0 17 = nI a0) (haL : a0 ≤ L) : Ctv yX10_next cX10_next 2 none 1 θ shM [.ref (sA θ 0)] S (fun S' => FrN S S' ∧ MTok S' L x a0) := by
  have hL := hx.1
  have hx2 := hx.2.1
  have hbd := tk_bd (x := x) haL
  refine Ctv.mk (own := RX10) 1 [some (.ref (sA θ 0)), none] (fun K hC => ?_)
  generalize hs : tkS L x a0 = s at hbd
  -- kinds other than 2 are through at 237
  have skip : ∀ kd l1 S1, kd ≤ 4 → kd ≠ 2 → FrN S S1 → S1.1 0 19 = nI kd → MTok S1 L x a0 → K 237 [some (.ref (sA θ 0)), l1] [] S1 := by
    intro kd l1 S1 hk h2 hF1 g1 hm
    have n2 : ¬ nI kd = nI 2 := fun z => h2 (nI_small (by omega) (by omega) z)
    refine q_aload_n hC dX10_next_237 ?_
    refine q_getI hC (by first | assumption | rfl) flX10_102 dX10_next_238 ?_
    rw [g1]
    refine q_iconst (v := nI 2) hC dX10_next_241 (by decide) ?_
    refine q_icmp_ne hC 330 dX10_next_242 (by decide) (fun hb => ?_) (fun hb => ?_)
    · refine q_aload_n hC dX10_next_330 ?_
      refine q_getI hC (by first | assumption | rfl) flX10_102 dX10_next_331 ?_
      rw [g1]
      refine q_iconst (v := nI 2) hC dX10_next_334 (by decide) ?_
      refine q_icmp_ne hC 370 dX10_next_335 (by decide) (fun hb2 => ?_) (fun hb2 => ?_)
      · refine q_vret hC dX10_next_370 ?_
        exact ⟨hF1, hm⟩
      · exact absurd hb2 n2
    · exact absurd hb n2
  have skip1 : ∀ kd l1 S1, kd ≤ 4 → kd ≠ 2 → kd ≠ 1 → FrN S S1 → S1.1 0 19 = nI kd → MTok S1 L x a0 → K 143 [some (.ref (sA θ 0)), l1] [] S1 := by
    intro kd l1 S1 hk h2 h1 hF1 g1 hm
    have n1 : ¬ nI kd = nI 1 := fun z => h1 (nI_small (by omega) (by omega) z)
    refine q_aload_n hC dX10_next_143 ?_
    refine q_getI hC (by first | assumption | rfl) flX10_102 dX10_next_144 ?_
    rw [g1]
    refine q_iconst (v := nI 1) hC dX10_next_147 (by decide) ?_
    refine q_icmp_ne hC 237 dX10_next_148 (by decide) (fun hb => ?_) (fun hb => ?_)
    · exact skip kd l1 S1 hk h2 hF1 g1 hm
    · exact absurd hb n1
  -- words
  have words : isL (x s) = true → s < L → ∀ n a l1 S1, L - a ≤ n → s ≤ a → a ≤ L → FrN S S1 → S1.1 0 17 = nI a → S1.1 0 18 = nI s → S1.1 0 19 = nI 1 → S1.2 0 20 = cdV x s (a - s) → sk (fun i => isL (x i)) L a = wEn L x s → K 143 [some (.ref (sA θ 0)), l1] [] S1 := by
    intro hl0 hsL n
    have hsb := sk_bd (c := fun i => isL (x i)) (L := L) _ s rfl hbd.2.1
    have eE : tkE L x a0 = wEn L x s := by unfold tkE eAt; rw [hs, if_pos hsL, if_pos hl0]
    have eK : tkK L x a0 = wK x s (wEn L x s) := by unfold tkK kAt; rw [hs, if_pos hsL, if_pos hl0]
    have wk := wK_le x s (wEn L x s)
    have fin : ∀ a l1 S1, a = wEn L x s → FrN S S1 → S1.1 0 17 = nI a → S1.1 0 18 = nI s → S1.1 0 19 = nI 1 → S1.2 0 20 = cdV x s (a - s) → K 237 [some (.ref (sA θ 0)), l1] [] S1 := by
      intro a l1 S1 ha hF1 g1 g2 g3 g4
      subst ha
      refine skip 1 l1 S1 (by omega) (by omega) hF1 g3 ⟨by rw [hs]; exact g2, 1, by omega, g3, by omega, by omega, fun _ => by rw [eE]; exact g1, fun z => by omega, fun _ => by omega, fun _ => ⟨by rw [eK, eE, hs], fun i hi => ?_⟩, fun z => absurd rfl z⟩
      rw [g4, eE, hs]
      exact cdV_iff hi (fun j hj => hsb.2.2.1 (s + j) (by omega) (by show s + j < wEn L x s; omega))
    induction n with
    | zero =>
      intro a l1 S1 hn hsa haL2 hF1 g1 g2 g3 g4 hsk
      have hx1 := hF1.tx hx
      refine q_aload_n hC dX10_next_143 ?_
      refine q_getI hC (by first | assumption | rfl) flX10_102 dX10_next_144 ?_
      rw [g3]
      refine q_iconst (v := nI 1) hC dX10_next_147 (by decide) ?_
      refine q_icmp_ne hC 237 dX10_next_148 (by decide) (fun hb => ?_) (fun hb => ?_)
      · exact absurd rfl hb
      · refine q_aload_n hC dX10_next_151 ?_
        refine q_getI hC (by first | assumption | rfl) flX10_85 dX10_next_152 ?_
        rw [g1]
        refine q_aload_n hC dX10_next_155 ?_
        refine q_getI hC (by first | assumption | rfl) flX10_80 dX10_next_156 ?_
        rw [hx1.2.2.1]
        refine q_icmp_ge hC 237 dX10_next_159 (by decide) (fun hb2 => ?_) (fun hb2 => ?_)
        · exact fin a l1 S1 (by rw [← hsk, sk_stop (by omega)]) hF1 g1 g2 g3 g4
        · exact absurd (nI_le (by omega) (by omega)) hb2
    | succ n ih =>
      intro a l1 S1 hn hsa haL2 hF1 g1 g2 g3 g4 hsk
      have hx1 := hF1.tx hx
      refine q_aload_n hC dX10_next_143 ?_
      refine q_getI hC (by first | assumption | rfl) flX10_102 dX10_next_144 ?_
      rw [g3]
      refine q_iconst (v := nI 1) hC dX10_next_147 (by decide) ?_
      refine q_icmp_ne hC 237 dX10_next_148 (by decide) (fun hb => ?_) (fun hb => ?_)
      · exact absurd rfl hb
      · refine q_aload_n hC dX10_next_151 ?_
        refine q_getI hC (by first | assumption | rfl) flX10_85 dX10_next_152 ?_
        rw [g1]
        refine q_aload_n hC dX10_next_155 ?_
        refine q_getI hC (by first | assumption | rfl) flX10_80 dX10_next_156 ?_
        rw [hx1.2.2.1]
        refine q_icmp_ge hC 237 dX10_next_159 (by decide) (fun hb2 => ?_) (fun hb2 => ?_)
        · have : L ≤ a := (nI_leI (by omega) (by omega)).mp hb2
          exact fin a l1 S1 (by rw [← hsk, sk_stop (by omega)]) hF1 g1 g2 g3 g4
        · have haL3 : a < L := by
            rcases Nat.lt_or_ge a L with h | h
            · exact h
            · exact absurd (nI_le h (by omega)) hb2
          refine q_aload_n hC dX10_next_162 ?_
          refine q_getR hC (by first | assumption | rfl) flX10_7 dX10_next_163 ?_
          refine q_aload_n hC dX10_next_166 ?_
          refine q_getI hC (by first | assumption | rfl) flX10_85 dX10_next_167 ?_
          rw [g1]
          refine q_ialdn hC (by first | assumption | rfl) (by first | assumption | omega) dX10_next_170 ?_
          rw [hx1.2.2.2 a haL3]
          refine q_calliS1 hC csX10_95 dX10_next_171 (m_isLetter θ _ (x a) (hx2 a)) (by decide) (fun r S1 hr => ?_)
          obtain ⟨rfl, rfl⟩ := hr
          by_cases hl : isL (x a) = true
          · rw [if_pos hl]
            have hlb := isL_bd hl
            refine q_if_eq hC 237 dX10_next_174 (by decide) (fun hb3 => ?_) (fun hb3 => ?_)
            · exact absurd hb3 (by decide)
            · have tail : ∀ v, v = cdV x s (a + 1 - s) → K 221 [some (.ref (sA θ 0)), l1] [.long v, .ref (sA θ 0)] S1 := by
                intro v hv
                subst hv
                refine q_putL hC (by first | assumption | rfl) fpX10_91 dX10_next_221 ?_
                refine q_aload_n hC dX10_next_224 ?_
                refine q_dup hC dX10_next_225 rfl ?_
                refine q_getI hC (by first | assumption | rfl) flX10_85 dX10_next_226 ?_
                have e0 : (upL S1 0 20 (cdV x s (a + 1 - s))).1 0 17 = nI a := g1
                refine q_eq hC e0 ?_
                refine q_iconst (v := nI 1) hC dX10_next_229 (by decide) ?_
                refine q_iadd hC dX10_next_230 ?_
                rw [nI_add]
                refine q_putI hC (by first | assumption | rfl) fpX10_85 dX10_next_231 ?_
                refine q_goto hC 143 dX10_next_234 (by decide) ?_
                exact ih (a + 1) _ _ (by omega) (by omega) (by omega) (hF1.trans (FrN.uL.trans (FrN.u1 (by omega)))) up_s (by rw [up_of (by decide)]; exact g2) (by rw [up_of (by decide)]; exact g3) (by rw [up_2]; exact upL_s) (by rw [← hsk, sk_go haL3 hl])
              refine q_aload_n hC dX10_next_177 ?_
              refine q_aload_n hC dX10_next_178 ?_
              refine q_getI hC (by first | assumption | rfl) flX10_85 dX10_next_179 ?_
              rw [g1]
              refine q_aload_n hC dX10_next_182 ?_
              refine q_getI hC (by first | assumption | rfl) flX10_88 dX10_next_183 ?_
              rw [g2]
              refine q_isub hC dX10_next_186 ?_
              rw [pk_sub hsa]
              refine q_bipush (v := nI 7) hC dX10_next_187 (by decide) ?_
              refine q_icmp_ge hC 218 dX10_next_189 (by decide) (fun hb4 => ?_) (fun hb4 => ?_)
              · have h7 : 7 ≤ a - s := (nI_leI (by omega) (by omega)).mp hb4
                refine q_ldc2 hC klX10_109 dX10_next_218 ?_
                exact tail _ (by unfold cdV; rw [if_neg (by omega)])
              · have h7 : a - s < 7 := by
                  rcases Nat.lt_or_ge (a - s) 7 with h | h
                  · exact h
                  · exact absurd (nI_le h (by omega)) hb4
                refine q_ldc2 hC klX10_105 dX10_next_192 ?_
                refine q_aload_n hC dX10_next_195 ?_
                refine q_getL hC (by first | assumption | rfl) flX10_91 dX10_next_196 ?_
                rw [g4]
                have e1 : cdV x s (a - s) = lN (cdN x s (a - s)) := by unfold cdV; rw [if_pos (by omega)]
                rw [e1]
                refine q_lmul hC dX10_next_199 ?_
                rw [lN_mul]
                refine q_aload_n hC dX10_next_200 ?_
                refine q_getR hC (by first | assumption | rfl) flX10_7 dX10_next_201 ?_
                refine q_aload_n hC dX10_next_204 ?_
                refine q_getI hC (by first | assumption | rfl) flX10_85 dX10_next_205 ?_
                rw [g1]
                refine q_ialdn hC (by first | assumption | rfl) (by first | assumption | omega) dX10_next_208 ?_
                rw [hx1.2.2.2 a haL3]
                refine q_i2l hC dX10_next_209 ?_
                rw [nI_l (by omega)]
                refine q_ladd hC dX10_next_210 ?_
                rw [lN_add]
                refine q_ldc2 hC klX10_107 dX10_next_211 ?_
                refine q_lsub hC dX10_next_214 ?_
                rw [lN_sub (by omega)]
                refine q_goto hC 221 dX10_next_215 (by decide) ?_
                refine tail _ ?_
                unfold cdV
                rw [if_pos (by omega), show a + 1 - s = (a - s) + 1 by omega]
                simp only [cdN]
                rw [show s + (a - s) = a by omega]
                congr 1; omega
          · rw [if_neg hl]
            refine q_if_eq hC 237 dX10_next_174 (by decide) (fun hb3 => ?_) (fun hb3 => ?_)
            · exact fin a l1 _ (by rw [← hsk, sk_stop (c := fun i => isL (x i)) (fun z => hl z.2)]) hF1 g1 g2 g3 g4
            · exact absurd (by decide) hb3
  -- numbers
  have nums : isL (x s) ≠ true → isD (x s) = true → s < L → ∀ n a l1 S1, L - a ≤ n → s ≤ a → a ≤ L → FrN S S1 → S1.1 0 17 = nI a → S1.1 0 18 = nI s → S1.1 0 19 = nI 2 → S1.2 0 20 = lN (mnN x s (a - s)) → sk (fun i => isD (x i)) L a = dEn L x s → K 237 [some (.ref (sA θ 0)), l1] [] S1 := by
    intro hl0 hd0 hsL n
    have hsb := sk_bd (c := fun i => isD (x i)) (L := L) _ s rfl hbd.2.1
    have eE : tkE L x a0 = dEn L x s := by unfold tkE eAt; rw [hs, if_pos hsL, if_neg hl0, if_pos hd0]
    have eK : tkK L x a0 = nK L x s := by unfold tkK kAt; rw [hs, if_pos hsL, if_neg hl0, if_pos hd0]
    have eV : tkV L x a0 = nvN x s (dEn L x s - s) := by unfold tkV nval; rw [hs]
    have hk1 : 1 ≤ dEn L x s - s := by
      have h1 : dEn L x s = sk (fun i => isD (x i)) L (s + 1) := sk_go hsL hd0
      have h2 := sk_le (c := fun i => isD (x i)) (L := L) (a := s + 1) (by omega)
      omega
    have hdl : dEn L x s ≤ L := hsb.2.1
    have hdd : ∀ i, i < dEn L x s - s → isD (x (s + i)) = true := fun j hj => hsb.2.2.1 (s + j) (by omega) (by show s + j < dEn L x s; omega)
    have fin : ∀ a l1 S1, a = dEn L x s → FrN S S1 → S1.1 0 17 = nI a → S1.1 0 18 = nI s → S1.1 0 19 = nI 2 → S1.2 0 20 = lN (mnN x s (a - s)) → K 330 [some (.ref (sA θ 0)), l1] [] S1 := by
      intro a l1 S1 ha hF1 g1 g2 g3 g4
      subst ha
      have hx1 := hF1.tx hx
      have good : ¬ (x s = 48 ∧ 1 < dEn L x s - s) → K 370 [some (.ref (sA θ 0)), l1] [] S1 := by
        intro hz
        obtain ⟨p1, p2, p3⟩ := nv_mn hdd hk1 hz
        refine q_vret hC dX10_next_370 ?_
        refine ⟨hF1, by rw [hs]; exact g2, 2, by omega, g3, ?_, ?_, fun _ => by rw [eE]; exact g1, fun _ => ⟨mnN x s (dEn L x s - s), mnN_le x hx2 s _, g4, fun m hm => ?_, fun hm => ?_⟩, fun z => absurd rfl z, fun z => by omega, fun _ => ?_⟩
        · rw [eK]; unfold nK; split <;> omega
        · rw [eK]; unfold nK; split <;> omega
        · rw [eK, eV]; unfold nK nval
          by_cases h3 : 3 ≤ dEn L x s - s
          · rw [if_pos (Or.inr (p1.mpr h3)), p3 h3]; omega
          · rw [if_neg (fun z => z.elim hz (fun q => h3 (p1.mp q))), (p2 (by omega)).1]; omega
        · by_cases h3 : 3 ≤ dEn L x s - s
          · rw [p3 h3] at hm; omega
          · rw [eV, (p2 (by omega)).1]
        · rw [eK]; unfold nK; split <;> omega
      refine q_aload_n hC dX10_next_330 ?_
      refine q_getI hC (by first | assumption | rfl) flX10_102 dX10_next_331 ?_
      rw [g3]
      refine q_iconst (v := nI 2) hC dX10_next_334 (by decide) ?_
      refine q_icmp_ne hC 370 dX10_next_335 (by decide) (fun hb => ?_) (fun hb => ?_)
      · exact absurd rfl hb
      · refine q_aload_n hC dX10_next_338 ?_
        refine q_getR hC (by first | assumption | rfl) flX10_7 dX10_next_339 ?_
        refine q_aload_n hC dX10_next_342 ?_
        refine q_getI hC (by first | assumption | rfl) flX10_88 dX10_next_343 ?_
        rw [g2]
        refine q_ialdn hC (by first | assumption | rfl) (by first | assumption | omega) dX10_next_346 ?_
        rw [hx1.2.2.2 s hsL]
        have hxs := hx2 s
        refine q_bipush (v := nI 48) hC dX10_next_347 (by decide) ?_
        refine q_icmp_ne hC 370 dX10_next_349 (by decide) (fun hb2 => ?_) (fun hb2 => ?_)
        · exact good (fun z => hb2 (by rw [z.1]))
        · have h48 : x s = 48 := nI_small (by omega) (by omega) hb2
          refine q_aload_n hC dX10_next_352 ?_
          refine q_getI hC (by first | assumption | rfl) flX10_85 dX10_next_353 ?_
          rw [g1]
          refine q_aload_n hC dX10_next_356 ?_
          refine q_getI hC (by first | assumption | rfl) flX10_88 dX10_next_357 ?_
          rw [g2]
          refine q_isub hC dX10_next_360 ?_
          rw [pk_sub (by omega)]
          refine q_iconst (v := nI 1) hC dX10_next_361 (by decide) ?_
          refine q_icmp_le hC 370 dX10_next_362 (by decide) (fun hb3 => ?_) (fun hb3 => ?_)
          · have : dEn L x s - s ≤ 1 := (nI_leI (by omega) (by omega)).mp hb3
            exact good (fun z => by omega)
          · have h1 : 1 < dEn L x s - s := by
              rcases Nat.lt_or_ge 1 (dEn L x s - s) with h | h
              · exact h
              · exact absurd (nI_le h (by omega)) hb3
            refine q_aload_n hC dX10_next_365 ?_
            refine q_iconst (v := nI 4) hC dX10_next_366 (by decide) ?_
            refine q_putI hC (by first | assumption | rfl) fpX10_102 dX10_next_367 ?_
            refine q_vret hC dX10_next_370 ?_
            have e8 : nK L x s = 8 := by unfold nK; rw [if_pos (Or.inl ⟨h48, h1⟩)]
            refine ⟨hF1.trans (FrN.u1 (by omega)), by rw [hs, up_of (by decide)]; exact g2, 4, by omega, up_s, by omega, by omega, fun z => absurd rfl z, fun z => by omega, fun _ => by omega, fun z => by omega, fun _ => by omega⟩
    induction n with
    | zero =>
      intro a l1 S1 hn hsa haL2 hF1 g1 g2 g3 g4 hsk
      have hx1 := hF1.tx hx
      refine q_aload_n hC dX10_next_237 ?_
      refine q_getI hC (by first | assumption | rfl) flX10_102 dX10_next_238 ?_
      rw [g3]
      refine q_iconst (v := nI 2) hC dX10_next_241 (by decide) ?_
      refine q_icmp_ne hC 330 dX10_next_242 (by decide) (fun hb => ?_) (fun hb => ?_)
      · exact absurd rfl hb
      · refine q_aload_n hC dX10_next_245 ?_
        refine q_getI hC (by first | assumption | rfl) flX10_85 dX10_next_246 ?_
        rw [g1]
        refine q_aload_n hC dX10_next_249 ?_
        refine q_getI hC (by first | assumption | rfl) flX10_80 dX10_next_250 ?_
        rw [hx1.2.2.1]
        refine q_icmp_ge hC 330 dX10_next_253 (by decide) (fun hb2 => ?_) (fun hb2 => ?_)
        · exact fin a l1 S1 (by rw [← hsk, sk_stop (by omega)]) hF1 g1 g2 g3 g4
        · exact absurd (nI_le (by omega) (by omega)) hb2
    | succ n ih =>
      intro a l1 S1 hn hsa haL2 hF1 g1 g2 g3 g4 hsk
      have hx1 := hF1.tx hx
      refine q_aload_n hC dX10_next_237 ?_
      refine q_getI hC (by first | assumption | rfl) flX10_102 dX10_next_238 ?_
      rw [g3]
      refine q_iconst (v := nI 2) hC dX10_next_241 (by decide) ?_
      refine q_icmp_ne hC 330 dX10_next_242 (by decide) (fun hb => ?_) (fun hb => ?_)
      · exact absurd rfl hb
      · refine q_aload_n hC dX10_next_245 ?_
        refine q_getI hC (by first | assumption | rfl) flX10_85 dX10_next_246 ?_
        rw [g1]
        refine q_aload_n hC dX10_next_249 ?_
        refine q_getI hC (by first | assumption | rfl) flX10_80 dX10_next_250 ?_
        rw [hx1.2.2.1]
        refine q_icmp_ge hC 330 dX10_next_253 (by decide) (fun hb2 => ?_) (fun hb2 => ?_)
        · have : L ≤ a := (nI_leI (by omega) (by omega)).mp hb2
          exact fin a l1 S1 (by rw [← hsk, sk_stop (by omega)]) hF1 g1 g2 g3 g4
        · have haL3 : a < L := by
            rcases Nat.lt_or_ge a L with h | h
            · exact h
            · exact absurd (nI_le h (by omega)) hb2
          refine q_aload_n hC dX10_next_256 ?_
          refine q_getR hC (by first | assumption | rfl) flX10_7 dX10_next_257 ?_
          refine q_aload_n hC dX10_next_260 ?_
          refine q_getI hC (by first | assumption | rfl) flX10_85 dX10_next_261 ?_
          rw [g1]
          refine q_ialdn hC (by first | assumption | rfl) (by first | assumption | omega) dX10_next_264 ?_
          rw [hx1.2.2.2 a haL3]
          refine q_calliS1 hC csX10_99 dX10_next_265 (m_isFigure θ _ (x a) (hx2 a)) (by decide) (fun r S1 hr => ?_)
          obtain ⟨rfl, rfl⟩ := hr
          by_cases hl : isD (x a) = true
          · rw [if_pos hl]
            have hlb := isD_bd hl
            refine q_if_eq hC 330 dX10_next_268 (by decide) (fun hb3 => ?_) (fun hb3 => ?_)
            · exact absurd hb3 (by decide)
            · have tail : ∀ v, v = lN (mnN x s (a + 1 - s)) → K 314 [some (.ref (sA θ 0)), l1] [.long v, .ref (sA θ 0)] S1 := by
                intro v hv
                subst hv
                refine q_putL hC (by first | assumption | rfl) fpX10_91 dX10_next_314 ?_
                refine q_aload_n hC dX10_next_317 ?_
                refine q_dup hC dX10_next_318 rfl ?_
                refine q_getI hC (by first | assumption | rfl) flX10_85 dX10_next_319 ?_
                have e0 : (upL S1 0 20 (lN (mnN x s (a + 1 - s)))).1 0 17 = nI a := g1
                refine q_eq hC e0 ?_
                refine q_iconst (v := nI 1) hC dX10_next_322 (by decide) ?_
                refine q_iadd hC dX10_next_323 ?_
                rw [nI_add]
                refine q_putI hC (by first | assumption | rfl) fpX10_85 dX10_next_324 ?_
                refine q_goto hC 237 dX10_next_327 (by decide) ?_
                exact ih (a + 1) _ _ (by omega) (by omega) (by omega) (hF1.trans (FrN.uL.trans (FrN.u1 (by omega)))) up_s (by rw [up_of (by decide)]; exact g2) (by rw [up_of (by decide)]; exact g3) (by rw [up_2]; exact upL_s) (by rw [← hsk, sk_go haL3 hl])
              refine q_aload_n hC dX10_next_271 ?_
              refine q_aload_n hC dX10_next_272 ?_
              refine q_getI hC (by first | assumption | rfl) flX10_85 dX10_next_273 ?_
              rw [g1]
              refine q_aload_n hC dX10_next_276 ?_
              refine q_getI hC (by first | assumption | rfl) flX10_88 dX10_next_277 ?_
              rw [g2]
              refine q_isub hC dX10_next_280 ?_
              rw [pk_sub hsa]
              refine q_iconst (v := nI 2) hC dX10_next_281 (by decide) ?_
              refine q_icmp_ge hC 311 dX10_next_282 (by decide) (fun hb4 => ?_) (fun hb4 => ?_)
              · have h7 : 2 ≤ a - s := (nI_leI (by omega) (by omega)).mp hb4
                refine q_ldc2 hC klX10_115 dX10_next_311 ?_
                refine tail _ ?_
                rw [show a + 1 - s = (a - s) + 1 by omega]
                simp only [mnN]
                rw [if_neg (by omega)]
              · have h7 : a - s < 2 := by
                  rcases Nat.lt_or_ge (a - s) 2 with h | h
                  · exact h
                  · exact absurd (nI_le h (by omega)) hb4
                refine q_ldc2 hC klX10_111 dX10_next_285 ?_
                refine q_aload_n hC dX10_next_288 ?_
                refine q_getL hC (by first | assumption | rfl) flX10_91 dX10_next_289 ?_
                rw [g4]
                refine q_lmul hC dX10_next_292 ?_
                rw [lN_mul]
                refine q_aload_n hC dX10_next_293 ?_
                refine q_getR hC (by first | assumption | rfl) flX10_7 dX10_next_294 ?_
                refine q_aload_n hC dX10_next_297 ?_
                refine q_getI hC (by first | assumption | rfl) flX10_85 dX10_next_298 ?_
                rw [g1]
                refine q_ialdn hC (by first | assumption | rfl) (by first | assumption | omega) dX10_next_301 ?_
                rw [hx1.2.2.2 a haL3]
                refine q_i2l hC dX10_next_302 ?_
                rw [nI_l (by omega)]
                refine q_ladd hC dX10_next_303 ?_
                rw [lN_add]
                refine q_ldc2 hC klX10_113 dX10_next_304 ?_
                refine q_lsub hC dX10_next_307 ?_
                rw [lN_sub (by omega)]
                refine q_goto hC 314 dX10_next_308 (by decide) ?_
                refine tail _ ?_
                rw [show a + 1 - s = (a - s) + 1 by omega]
                simp only [mnN]
                rw [if_pos h7, show s + (a - s) = a by omega]
                congr 1; omega
          · rw [if_neg hl]
            refine q_if_eq hC 330 dX10_next_268 (by decide) (fun hb3 => ?_) (fun hb3 => ?_)
            · exact fin a l1 _ (by rw [← hsk, sk_stop (c := fun i => isD (x i)) (fun z => hl z.2)]) hF1 g1 g2 g3 g4
            · exact absurd (by decide) hb3
  -- the kind is set
  have kinds : ∀ kd l1 S1, kd ≤ 4 → FrN S S1 → S1.1 0 17 = nI s → S1.1 0 18 = nI s → S1.2 0 20 = lN 0 → (s < L → kd = (if isL (x s) = true then 1 else if isD (x s) = true then 2 else if x s = 59 then 3 else 4)) → (¬ s < L → kd = 0) → K 118 [some (.ref (sA θ 0)), l1] [.int (nI kd), .ref (sA θ 0)] S1 := by
    intro kd l1 S1 hk hF1 g1 g2 g3 hk1 hk2
    have hcon : tkK L x a0 = kAt L x s := by unfold tkK; rw [hs]
    have hconE : tkE L x a0 = eAt L x s := by unfold tkE; rw [hs]
    refine q_putI hC (by first | assumption | rfl) fpX10_102 dX10_next_118 ?_
    refine q_aload_n hC dX10_next_121 ?_
    refine q_dup hC dX10_next_122 rfl ?_
    refine q_getI hC (by first | assumption | rfl) flX10_85 dX10_next_123 ?_
    rw [up_of (by decide), g1]
    refine q_aload_n hC dX10_next_126 ?_
    refine q_getI hC (by first | assumption | rfl) flX10_102 dX10_next_127 ?_
    rw [up_s]
    by_cases h3 : kd = 3
    · subst h3
      have hsL : s < L := by
        rcases Nat.lt_or_ge s L with h | h
        · exact h
        · exact absurd (hk2 (by omega)) (by decide)
      have hc := hk1 hsL
      have c1 : ¬ isL (x s) = true := fun z => by rw [if_pos z] at hc; omega
      rw [if_neg c1] at hc
      have c2 : ¬ isD (x s) = true := fun z => by rw [if_pos z] at hc; omega
      rw [if_neg c2] at hc
      have c3 : x s = 59 := by
        by_cases z : x s = 59
        · exact z
        · rw [if_neg z] at hc; omega
      refine q_iconst (v := nI 3) hC dX10_next_130 (by decide) ?_
      refine q_icmp_ne hC 138 dX10_next_131 (by decide) (fun hb => ?_) (fun hb => ?_)
      · exact absurd rfl hb
      · refine q_iconst (v := nI 1) hC dX10_next_134 (by decide) ?_
        refine q_goto hC 139 dX10_next_135 (by decide) ?_
        refine q_iadd hC dX10_next_139 ?_
        rw [nI_add]
        refine q_putI hC (by first | assumption | rfl) fpX10_85 dX10_next_140 ?_
        have eK : kAt L x s = 2 := by unfold kAt; rw [if_pos hsL, if_neg c1, if_neg c2, if_pos c3]
        have eE : eAt L x s = s + 1 := by unfold eAt; rw [if_pos hsL, if_neg c1, if_neg c2]
        refine skip1 3 l1 _ (by omega) (by omega) (by omega) (hF1.trans ((FrN.u1 (by omega)).trans (FrN.u1 (by omega)))) (by rw [up_of (by decide), up_s]) ⟨by rw [hs, up_of (by decide), up_of (by decide)]; exact g2, 3, by omega, by rw [up_of (by decide), up_s], by omega, by omega, fun _ => by rw [up_s, hconE, eE], fun z => by omega, fun _ => by omega, fun z => by omega, fun _ => by omega⟩
    · have n3 : ¬ nI kd = nI 3 := fun z => h3 (nI_small (by omega) (by omega) z)
      refine q_iconst (v := nI 3) hC dX10_next_130 (by decide) ?_
      refine q_icmp_ne hC 138 dX10_next_131 (by decide) (fun hb => ?_) (fun hb => ?_)
      · refine q_iconst (v := nI 0) hC dX10_next_138 (by decide) ?_
        refine q_iadd hC dX10_next_139 ?_
        rw [nI_add, Nat.add_zero]
        refine q_putI hC (by first | assumption | rfl) fpX10_85 dX10_next_140 ?_
        have hF2 : FrN S (up (up S1 0 19 (nI kd)) 0 17 (nI s)) := hF1.trans ((FrN.u1 (by omega)).trans (FrN.u1 (by omega)))
        have q1 : (up (up S1 0 19 (nI kd)) 0 17 (nI s)).1 0 17 = nI s := up_s
        have q2 : (up (up S1 0 19 (nI kd)) 0 17 (nI s)).1 0 18 = nI s := by rw [up_of (by decide), up_of (by decide)]; exact g2
        have q3 : (up (up S1 0 19 (nI kd)) 0 17 (nI s)).1 0 19 = nI kd := by rw [up_of (by decide), up_s]
        have q4 : (up (up S1 0 19 (nI kd)) 0 17 (nI s)).2 0 20 = lN 0 := g3
        generalize up (up S1 0 19 (nI kd)) 0 17 (nI s) = S2 at hF2 q1 q2 q3 q4 ⊢
        by_cases hsL : s < L
        · have hc := hk1 hsL
          by_cases c1 : isL (x s) = true
          · rw [if_pos c1] at hc
            subst hc
            exact words c1 hsL (L - s) s l1 S2 (Nat.le_refl _) (Nat.le_refl _) hbd.2.1 hF2 q1 q2 q3 (by rw [q4, Nat.sub_self]; rfl) rfl
          · rw [if_neg c1] at hc
            by_cases c2 : isD (x s) = true
            · rw [if_pos c2] at hc
              subst hc
              refine q_aload_n hC dX10_next_143 ?_
              refine q_getI hC (by first | assumption | rfl) flX10_102 dX10_next_144 ?_
              rw [q3]
              refine q_iconst (v := nI 1) hC dX10_next_147 (by decide) ?_
              refine q_icmp_ne hC 237 dX10_next_148 (by decide) (fun hb2 => ?_) (fun hb2 => ?_)
              · exact nums c1 c2 hsL (L - s) s l1 S2 (Nat.le_refl _) (Nat.le_refl _) hbd.2.1 hF2 q1 q2 q3 (by rw [q4, Nat.sub_self]; rfl) rfl
              · exact absurd hb2 (by decide)
            · rw [if_neg c2] at hc
              have c3 : ¬ x s = 59 := fun z => by rw [if_pos z] at hc; exact h3 hc
              rw [if_neg c3] at hc
              subst hc
              have eK : kAt L x s = 8 := by unfold kAt; rw [if_pos hsL, if_neg c1, if_neg c2, if_neg c3]
              exact skip1 4 l1 S2 (by omega) (by omega) (by omega) hF2 q3 ⟨by rw [hs]; exact q2, 4, by omega, q3, by omega, by omega, fun z => absurd rfl z, fun z => by omega, fun _ => by omega, fun z => by omega, fun _ => by omega⟩
        · have hc := hk2 hsL
          subst hc
          have eK : kAt L x s = 0 := by unfold kAt; rw [if_neg hsL]
          have eE : eAt L x s = s := by unfold eAt; rw [if_neg hsL]
          exact skip1 0 l1 S2 (by omega) (by omega) (by omega) hF2 q3 ⟨by rw [hs]; exact q2, 0, by omega, q3, by omega, by omega, fun _ => by rw [hconE, eE]; exact q1, fun z => by omega, fun _ => by omega, fun z => by omega, fun _ => by omega⟩
      · exact absurd hb n3
  -- behind the blanks
  have begin' : ∀ S1, FrN S S1 → S1.1 0 17 = nI s → K 38 [some (.ref (sA θ 0)), none] [] S1 := by
    intro S1 hF1 g1
    refine q_aload_n hC dX10_next_38 ?_
    refine q_aload_n hC dX10_next_39 ?_
    refine q_getI hC (by first | assumption | rfl) flX10_85 dX10_next_40 ?_
    rw [g1]
    refine q_putI hC (by first | assumption | rfl) fpX10_88 dX10_next_43 ?_
    refine q_aload_n hC dX10_next_46 ?_
    refine q_lconst (v := lN 0) hC dX10_next_47 (by decide) ?_
    refine q_putL hC (by first | assumption | rfl) fpX10_91 dX10_next_48 ?_
    refine q_aload_n hC dX10_next_51 ?_
    refine q_getI hC (by first | assumption | rfl) flX10_85 dX10_next_52 ?_
    have hF2 : FrN S (upL (up S1 0 18 (nI s)) 0 20 (lN 0)) := hF1.trans ((FrN.u1 (by omega)).trans FrN.uL)
    have q1 : (upL (up S1 0 18 (nI s)) 0 20 (lN 0)).1 0 17 = nI s := by show (up S1 0 18 (nI s)).1 0 17 = nI s; rw [up_of (by decide)]; exact g1
    have q2 : (upL (up S1 0 18 (nI s)) 0 20 (lN 0)).1 0 18 = nI s := by rw [upL_1]; exact up_s
    have q4 : (upL (up S1 0 18 (nI s)) 0 20 (lN 0)).2 0 20 = lN 0 := upL_s
    generalize upL (up S1 0 18 (nI s)) 0 20 (lN 0) = S2 at hF2 q1 q2 q4 ⊢
    have hx1 := hF2.tx hx
    rw [q1]
    refine q_aload_n hC dX10_next_55 ?_
    refine q_getI hC (by first | assumption | rfl) flX10_80 dX10_next_56 ?_
    rw [hx1.2.2.1]
    refine q_icmp_ge hC 74 dX10_next_59 (by decide) (fun hb => ?_) (fun hb => ?_)
    · have hsL : ¬ s < L := by have := (nI_leI (by omega) (by omega)).mp hb; omega
      refine q_iconst (v := (-1)) hC dX10_next_74 (by decide) ?_
      refine q_istore_1 hC dX10_next_75 ?_
      refine q_aload_n hC dX10_next_76 ?_
      refine q_iload_n hC dX10_next_77 ?_
      refine q_if_ge hC 85 dX10_next_78 (by decide) (fun hb2 => ?_) (fun hb2 => ?_)
      · exact absurd hb2 (by decide)
      · refine q_iconst (v := nI 0) hC dX10_next_81 (by decide) ?_
        refine q_goto hC 118 dX10_next_82 (by decide) ?_
        exact kinds 0 _ S2 (by omega) hF2 q1 q2 q4 (fun z => absurd z hsL) (fun _ => rfl)
    · have hsL : s < L := by
        rcases Nat.lt_or_ge s L with h | h
        · exact h
        · exact absurd (nI_le h (by omega)) hb
      have hxs := hx2 s
      refine q_aload_n hC dX10_next_62 ?_
      refine q_getR hC (by first | assumption | rfl) flX10_7 dX10_next_63 ?_
      refine q_aload_n hC dX10_next_66 ?_
      refine q_getI hC (by first | assumption | rfl) flX10_85 dX10_next_67 ?_
      rw [q1]
      refine q_ialdn hC (by first | assumption | rfl) (by first | assumption | omega) dX10_next_70 ?_
      rw [hx1.2.2.2 s hsL]
      refine q_goto hC 75 dX10_next_71 (by decide) ?_
      refine q_istore_1 hC dX10_next_75 ?_
      refine q_aload_n hC dX10_next_76 ?_
      refine q_iload_n hC dX10_next_77 ?_
      refine q_if_ge hC 85 dX10_next_78 (by decide) (fun hb2 => ?_) (fun hb2 => ?_)
      · refine q_iload_n hC dX10_next_85 ?_
        refine q_calliS1 hC csX10_95 dX10_next_86 (m_isLetter θ _ (x s) (hx2 s)) (by decide) (fun r S1 hr => ?_)
        obtain ⟨rfl, rfl⟩ := hr
        by_cases c1 : isL (x s) = true
        · rw [if_pos c1]
          refine q_if_eq hC 96 dX10_next_89 (by decide) (fun hb3 => ?_) (fun hb3 => ?_)
          · exact absurd hb3 (by decide)
          · refine q_iconst (v := nI 1) hC dX10_next_92 (by decide) ?_
            refine q_goto hC 118 dX10_next_93 (by decide) ?_
            exact kinds 1 _ _ (by omega) hF2 q1 q2 q4 (fun _ => by rw [if_pos c1]) (fun z => absurd hsL z)
        · rw [if_neg c1]
          refine q_if_eq hC 96 dX10_next_89 (by decide) (fun hb3 => ?_) (fun hb3 => ?_)
          · refine q_iload_n hC dX10_next_96 ?_
            refine q_calliS1 hC csX10_99 dX10_next_97 (m_isFigure θ _ (x s) (hx2 s)) (by decide) (fun r S1 hr => ?_)
            obtain ⟨rfl, rfl⟩ := hr
            by_cases c2 : isD (x s) = true
            · rw [if_pos c2]
              refine q_if_eq hC 107 dX10_next_100 (by decide) (fun hb4 => ?_) (fun hb4 => ?_)
              · exact absurd hb4 (by decide)
              · refine q_iconst (v := nI 2) hC dX10_next_103 (by decide) ?_
                refine q_goto hC 118 dX10_next_104 (by decide) ?_
                exact kinds 2 _ _ (by omega) hF2 q1 q2 q4 (fun _ => by rw [if_neg c1, if_pos c2]) (fun z => absurd hsL z)
            · rw [if_neg c2]
              refine q_if_eq hC 107 dX10_next_100 (by decide) (fun hb4 => ?_) (fun hb4 => ?_)
              · refine q_iload_n hC dX10_next_107 ?_
                refine q_bipush (v := nI 59) hC dX10_next_108 (by decide) ?_
                refine q_icmp_ne hC 117 dX10_next_110 (by decide) (fun hb5 => ?_) (fun hb5 => ?_)
                · have c3 : ¬ x s = 59 := fun z => hb5 (by rw [z])
                  refine q_iconst (v := nI 4) hC dX10_next_117 (by decide) ?_
                  exact kinds 4 _ _ (by omega) hF2 q1 q2 q4 (fun _ => by rw [if_neg c1, if_neg c2, if_neg c3]) (fun z => absurd hsL z)
                · have c3 : x s = 59 := nI_small (by omega) (by omega) hb5
                  refine q_iconst (v := nI 3) hC dX10_next_113 (by decide) ?_
                  refine q_goto hC 118 dX10_next_114 (by decide) ?_
                  exact kinds 3 _ _ (by omega) hF2 q1 q2 q4 (fun _ => by rw [if_neg c1, if_neg c2, if_pos c3]) (fun z => absurd hsL z)
              · exact absurd (by decide) hb4
          · exact absurd (by decide) hb3
      · exact absurd (nI_pos' (by omega)) hb2
  have loop : ∀ n a S1, L - a ≤ n → a ≤ L → FrN S S1 → S1.1 0 17 = nI a → sk (blk x) L a = s → K 0 [some (.ref (sA θ 0)), none] [] S1 := by
    intro n
    induction n with
    | zero =>
      intro a S1 hn haL hF1 g1 hsk
      have hx1 := hF1.tx hx
      refine q_aload_n hC dX10_next_0 ?_
      refine q_getI hC (by first | assumption | rfl) flX10_85 dX10_next_1 ?_
      rw [g1]
      refine q_aload_n hC dX10_next_4 ?_
      refine q_getI hC (by first | assumption | rfl) flX10_80 dX10_next_5 ?_
      rw [hx1.2.2.1]
      refine q_icmp_ge hC 38 dX10_next_8 (by decide) (fun hb => ?_) (fun hb => ?_)
      · rw [sk_stop (by omega)] at hsk
        exact begin' S1 hF1 (by rw [← hsk]; exact g1)
      · exact absurd (nI_le (by omega) (by omega)) hb
    | succ n ih =>
      intro a S1 hn haL hF1 g1 hsk
      have hx1 := hF1.tx hx
      refine q_aload_n hC dX10_next_0 ?_
      refine q_getI hC (by first | assumption | rfl) flX10_85 dX10_next_1 ?_
      rw [g1]
      refine q_aload_n hC dX10_next_4 ?_
      refine q_getI hC (by first | assumption | rfl) flX10_80 dX10_next_5 ?_
      rw [hx1.2.2.1]
      refine q_icmp_ge hC 38 dX10_next_8 (by decide) (fun hb => ?_) (fun hb => ?_)
      · have : L ≤ a := (nI_leI (by omega) (by omega)).mp hb
        rw [sk_stop (by omega)] at hsk
        exact begin' S1 hF1 (by rw [← hsk]; exact g1)
      · have haL2 : a < L := by
          rcases Nat.lt_or_ge a L with h | h
          · exact h
          · exact absurd (nI_le h (by omega)) hb
        have hxa := hx2 a
        refine q_aload_n hC dX10_next_11 ?_
        refine q_getR hC (by first | assumption | rfl) flX10_7 dX10_next_12 ?_
        refine q_aload_n hC dX10_next_15 ?_
        refine q_getI hC (by first | assumption | rfl) flX10_85 dX10_next_16 ?_
        rw [g1]
        refine q_ialdn hC (by first | assumption | rfl) (by first | assumption | omega) dX10_next_19 ?_
        rw [hx1.2.2.2 a haL2]
        refine q_bipush (v := nI 32) hC dX10_next_20 (by decide) ?_
        refine q_icmp_ne hC 38 dX10_next_22 (by decide) (fun hb2 => ?_) (fun hb2 => ?_)
        · have h32 : ¬ blk x a = true := fun z => hb2 (by unfold blk at z; rw [decide_eq_true_eq] at z; rw [z])
          rw [sk_stop (fun z => h32 z.2)] at hsk
          exact begin' S1 hF1 (by rw [← hsk]; exact g1)
        · have h32 : blk x a = true := by unfold blk; rw [decide_eq_true_eq]; exact nI_small (by omega) (by omega) hb2
          refine q_aload_n hC dX10_next_25 ?_
          refine q_dup hC dX10_next_26 rfl ?_
          refine q_getI hC (by first | assumption | rfl) flX10_85 dX10_next_27 ?_
          rw [g1]
          refine q_iconst (v := nI 1) hC dX10_next_30 (by decide) ?_
          refine q_iadd hC dX10_next_31 ?_
          rw [nI_add]
          refine q_putI hC (by first | assumption | rfl) fpX10_85 dX10_next_32 ?_
          refine q_goto hC 0 dX10_next_35 (by decide) ?_
          exact ih (a + 1) _ (by omega) (by omega) (hF1.trans (FrN.u1 (by omega))) up_s (by rw [← hsk, sk_go haL2 h32])
  exact loop (L - a0) a0 S (Nat.le_refl _) haL FrN.rfl' h17 (by rw [← hs]; rfl)
