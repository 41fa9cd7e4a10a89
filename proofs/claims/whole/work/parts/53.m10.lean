theorem m_paves (θ : Site) (S : St) (T : Tn) (N : Nw) (hok : TnOk T) (hNo : NwOk T N) (hT : MTw S T) (hN : MNw S T N) : Cti yX10_paves cX10_paves 7 (some .int) 5 θ shM [.ref (sA θ 0)] S (fun r S' => r = nI (fitN T N none) ∧ Fr S S' [17, 18, 19] ∧ ∀ q, q < tP T → S'.1 19 q = nI (pvR T N q (MR T (stm N) (tP T) 0))) := by
  have h8 := hok.1
  have hF4 := hok.2.1
  have hn10 := hNo.2.2.1
  obtain ⟨bb, sb, hbs, hww⟩ := hN.2.2
  have hMle : MR T (stm N) (tP T) 0 ≤ 65536 := by
    have h1 := MR_le T (stm N) hF4 (tP T) 0
    have h2 : 4 ^ tP T ≤ 4 ^ 8 := Nat.pow_le_pow_right (by omega) h8
    have h3 : 4 ^ 8 = 65536 := by decide
    omega
  refine Cti.mk (own := RX10) 6 [some (.ref (sA θ 0)), none, none, none, none, none, none] (fun K hC => ?_)
  have rows : ∀ m row S1 l4 l5 l6, row + m = MR T (stm N) (tP T) 0 → Fr S S1 [17, 18, 19] → (∀ f, f < 4 → S1.1 18 f = nI (nW N f)) → (∀ q, q < tP T → S1.1 19 q = nI (pvR T N q row)) → K 86 [some (.ref (sA θ 0)), some (.int (nI (cnt (fun r => gdR T N r (tF T)) row))), some (.int (nI (MR T (stm N) (tP T) 0))), some (.int (nI row)), l4, l5, l6] [] S1 := by
    intro m
    induction m with
    | zero =>
      intro row S1 l4 l5 l6 hr hF hW hP
      have e : row = MR T (stm N) (tP T) 0 := by omega
      subst e
      refine q_iload_n hC dX10_paves_86 ?_
      refine q_iload_n hC dX10_paves_87 ?_
      refine q_icmp_ge hC 227 dX10_paves_88 (by decide) (fun hb => ?_) (fun hz => absurd hz (fun z => z (nI_le (Nat.le_refl _) (by omega))))
      refine q_iload_n hC dX10_paves_227 ?_
      refine q_iret hC dX10_paves_228 ?_
      exact ⟨by rw [fit_cnt h8], hF, hP⟩
    | succ m ih =>
      intro row S1 l4 l5 l6 hr hF hW hP
      have hrow : row < MR T (stm N) (tP T) 0 := by omega
      have hT1 : MTw S1 T := hT.go (by rw [hF.c 0]) (by rw [hF.c 0]) (fun a g1 g2 => hF.1 a (by simp only [List.mem_cons, List.not_mem_nil, or_false]; omega))
      refine q_iload_n hC dX10_paves_86 ?_
      refine q_iload_n hC dX10_paves_87 ?_
      refine q_icmp_ge hC 227 dX10_paves_88 (by decide) (fun hz => absurd hz (fun z => by have := (nI_leI (by omega) (by omega)).mp z; omega)) (fun hb => ?_)
      refine q_aload_n hC dX10_paves_91 ?_
      refine q_iload_n hC dX10_paves_92 ?_
      refine q_callvV1 hC (by first | assumption | rfl) cvX10_209 dX10_paves_93 (m_lays θ _ row T N hok hNo hT1 (fun p hp => by rw [hF.c 8]; exact (hN.1 p hp).1) hrow) (by decide) (fun S2 hr2 => ?_)
      obtain ⟨hF2, hL2⟩ := hr2
      have hF2' := hF.trans (hF2.mono (M := [17, 18, 19]) (by decide))
      have hW2 : ∀ f, f < 4 → S2.1 18 f = nI (nW N f) := fun f hf => by rw [hF2.c 18]; exact hW f hf
      have hP2 : ∀ q, q < tP T → S2.1 19 q = nI (pvR T N q row) := fun q hq => by rw [hF2.c 19]; exact hP q hq
      have hf2 : S2.1 0 6 = nI (tF T) := by rw [hF2'.c 0]; exact hT.2.1
      have hp2 : S2.1 0 2 = nI (tP T) := by rw [hF2'.c 0]; exact hT.1
      have skip : ∀ l5 l6, ¬ gdR T N row (tF T) = true → K 159 [some (.ref (sA θ 0)), some (.int (nI (cnt (fun r => gdR T N r (tF T)) row))), some (.int (nI (MR T (stm N) (tP T) 0))), some (.int (nI row)), some (.int (nI 0)), l5, l6] [] S2 := by
        intro l5 l6 hg
        have ec : cnt (fun r => gdR T N r (tF T)) (row + 1) = cnt (fun r => gdR T N r (tF T)) row := by
          simp only [cnt]; rw [if_neg hg, Nat.add_zero]
        refine q_iload hC dX10_paves_159 ?_
        refine q_if_ne hC 167 dX10_paves_161 (by decide) (fun hz => absurd hz (by first | decide | exact (show ¬ nI 1 = 0 by decide))) (fun hb => ?_)
        refine q_goto hC 221 dX10_paves_164 (by decide) ?_
        refine q_inc1_3 hC dX10_paves_221 ?_
        refine q_goto hC 86 dX10_paves_224 (by decide) ?_
        rw [← ec]
        refine ih (row + 1) S2 _ _ _ (by omega) hF2' hW2 (fun q hq => ?_)
        rw [hP2 q hq]
        simp only [pvR]; rw [if_neg (fun z => hg z.1)]
      have take : ∀ l5 l6, gdR T N row (tF T) = true → K 159 [some (.ref (sA θ 0)), some (.int (nI (cnt (fun r => gdR T N r (tF T)) row))), some (.int (nI (MR T (stm N) (tP T) 0))), some (.int (nI row)), some (.int (nI 1)), l5, l6] [] S2 := by
        intro l5 l6 hg
        have ec : cnt (fun r => gdR T N r (tF T)) (row + 1) = cnt (fun r => gdR T N r (tF T)) row + 1 := by
          simp only [cnt]; rw [if_pos hg]
        have lp : ∀ k p S3, p + k = tP T → Fr S2 S3 [19] → (∀ q, q < p → S3.1 19 q = nI (pvR T N q (row + 1))) → (∀ q, p ≤ q → q < tP T → S3.1 19 q = nI (pvR T N q row)) → K 173 [some (.ref (sA θ 0)), some (.int (nI (cnt (fun r => gdR T N r (tF T)) row + 1))), some (.int (nI (MR T (stm N) (tP T) 0))), some (.int (nI row)), some (.int (nI 1)), some (.int (nI p)), l6] [] S3 := by
          intro k
          induction k with
          | zero =>
            intro p S3 hp hF3 ha hv0
            have e : p = tP T := by omega
            subst e
            refine q_iload hC dX10_paves_173 ?_
            refine q_aload_n hC dX10_paves_175 ?_
            refine q_getI hC (by first | assumption | rfl) flX10_67 dX10_paves_176 ?_
            rw [hF3.c 0, hp2]
            refine q_icmp_ge hC 221 dX10_paves_179 (by decide) (fun hb => ?_) (fun hz => absurd hz (fun z => z (nI_le (Nat.le_refl _) (by omega))))
            refine q_inc1_3 hC dX10_paves_221 ?_
            refine q_goto hC 86 dX10_paves_224 (by decide) ?_
            rw [← ec]
            exact ih (row + 1) S3 _ _ _ (by omega) (hF2'.trans (hF3.mono (by decide))) (fun f hf => by rw [hF3.c 18]; exact hW2 f hf) ha
          | succ k ihp =>
            intro p S3 hp hF3 ha hv0
            have hp8 : p < 8 := by omega
            have hpP : p < tP T := by omega
            refine q_iload hC dX10_paves_173 ?_
            refine q_aload_n hC dX10_paves_175 ?_
            refine q_getI hC (by first | assumption | rfl) flX10_67 dX10_paves_176 ?_
            rw [hF3.c 0, hp2]
            refine q_icmp_ge hC 221 dX10_paves_179 (by decide) (fun hz => absurd hz (fun z => by have := (nI_leI (by omega) (by omega)).mp z; omega)) (fun hb => ?_)
            refine q_aload_n hC dX10_paves_182 ?_
            refine q_getR hC (by first | assumption | rfl) flX10_64 dX10_paves_183 ?_
            refine q_iload hC dX10_paves_186 ?_
            refine q_dup2 hC dX10_paves_188 rfl rfl ?_
            refine q_ialdn hC (by first | assumption | rfl) (by first | assumption | omega) dX10_paves_189 ?_
            rw [hv0 p (Nat.le_refl _) hpP]
            refine q_aload_n hC dX10_paves_190 ?_
            refine q_getR hC (by first | assumption | rfl) flX10_58 dX10_paves_191 ?_
            refine q_iload hC dX10_paves_194 ?_
            refine q_ialdn hC (by first | assumption | rfl) (by first | assumption | omega) dX10_paves_196 ?_
            rw [hF3.c 17, hL2 p hpP]
            by_cases h5 : nO N p = 5
            · have et : tlA T (stm N) row p = -5 := by unfold tlA; rw [if_pos ((bit_st hp8).mpr h5)]
              rw [et]
              refine q_if_ge hC 204 dX10_paves_197 (by decide) (fun hz => absurd hz (by first | decide | exact (show ¬ nI 1 = 0 by decide))) (fun hb => ?_)
              refine q_iconst (v := nI 0) hC dX10_paves_200 (by decide) ?_
              refine q_goto hC 213 dX10_paves_201 (by decide) ?_
              refine q_ior hC dX10_paves_213 ?_
              rw [or_n, Nat.or_zero]
              refine q_iastn hC (by first | assumption | rfl) (by first | assumption | omega) dX10_paves_214 ?_
              refine q_inc1_5 hC dX10_paves_215 ?_
              refine q_goto hC 173 dX10_paves_218 (by decide) ?_
              refine ihp (p + 1) _ (by omega) (hF3.trans Fr.u1) (fun q hq => ?_) (fun q h1 h2 => ?_)
              · by_cases e : q = p
                · subst e
                  rw [up_s]
                  simp only [pvR]; rw [if_neg (fun z => z.2 h5)]
                · rw [up_of e]; exact ha q (by omega)
              · rw [up_of (by omega)]; exact hv0 q (by omega) h2
            · have hs : ¬ stm N / 2 ^ p % 2 = 1 := fun z => h5 ((bit_st hp8).mp z)
              have et : tlA T (stm N) row p = nI (dA T (stm N) row p) := by unfold tlA; rw [if_neg hs]
              have hd : dA T (stm N) row p < tF T := Nat.mod_lt _ (MR_pos hrow hpP hs)
              have hd31 : dA T (stm N) row p < 31 := by omega
              rw [et]
              refine q_if_ge hC 204 dX10_paves_197 (by decide) (fun hb => ?_) (fun hz => absurd hz (fun z => z (Int32.not_lt.mp (nI_pos (by omega)))))
              refine q_iconst (v := nI 1) hC dX10_paves_204 (by decide) ?_
              refine q_aload_n hC dX10_paves_205 ?_
              refine q_getR hC (by first | assumption | rfl) flX10_58 dX10_paves_206 ?_
              refine q_iload hC dX10_paves_209 ?_
              refine q_ialdn hC (by first | assumption | rfl) (by first | assumption | omega) dX10_paves_211 ?_
              rw [hF3.c 17, hL2 p hpP, et]
              refine q_ishl hC dX10_paves_212 ?_
              rw [sh1 hd31]
              refine q_ior hC dX10_paves_213 ?_
              rw [or_n]
              refine q_iastn hC (by first | assumption | rfl) (by first | assumption | omega) dX10_paves_214 ?_
              refine q_inc1_5 hC dX10_paves_215 ?_
              refine q_goto hC 173 dX10_paves_218 (by decide) ?_
              refine ihp (p + 1) _ (by omega) (hF3.trans Fr.u1) (fun q hq => ?_) (fun q h1 h2 => ?_)
              · by_cases e : q = p
                · subst e
                  rw [up_s]
                  simp only [pvR]; rw [if_pos ⟨hg, h5⟩]
                · rw [up_of e]; exact ha q (by omega)
              · rw [up_of (by omega)]; exact hv0 q (by omega) h2
        refine q_iload hC dX10_paves_159 ?_
        refine q_if_ne hC 167 dX10_paves_161 (by decide) (fun hb => ?_) (fun hz => absurd hz (by first | decide | exact (show ¬ nI 1 = 0 by decide)))
        refine q_inc1_1 hC dX10_paves_167 ?_
        refine q_iconst (v := nI 0) hC dX10_paves_170 (by decide) ?_
        refine q_istore_5 hC dX10_paves_171 ?_
        exact lp (tP T) 0 S2 (by omega) Fr.rfl' (fun q hq => by omega) (fun q _ hq => hP2 q hq)
      have bad : ∀ f l6, f ≤ tF T → ¬ gdR T N row (tF T) = true → K 102 [some (.ref (sA θ 0)), some (.int (nI (cnt (fun r => gdR T N r (tF T)) row))), some (.int (nI (MR T (stm N) (tP T) 0))), some (.int (nI row)), some (.int (nI 0)), some (.int (nI f)), l6] [] S2 := by
        intro f l6 hf hg
        refine q_iload hC dX10_paves_102 ?_
        refine q_aload_n hC dX10_paves_104 ?_
        refine q_getI hC (by first | assumption | rfl) flX10_75 dX10_paves_105 ?_
        rw [hf2]
        refine q_icmp_ge hC 159 dX10_paves_108 (by decide) (fun hc => ?_) (fun hc => ?_)
        · exact skip _ _ hg
        · refine q_iload hC dX10_paves_111 ?_
          refine q_if_eq hC 159 dX10_paves_113 (by decide) (fun hb => ?_) (fun hz => absurd hz (by first | decide | exact (show ¬ nI 1 = 0 by decide)))
          exact skip _ _ hg
      have hbad : ∀ f, f < tF T → ¬ gdR T N row (f + 1) = true → ¬ gdR T N row (tF T) = true := fun f hf h z => h ((gdR_iff (f + 1)).mpr (fun g hg => (gdR_iff (tF T)).mp z g (by omega)))
      have fams : ∀ k f l6, f + k = tF T → gdR T N row f = true → K 102 [some (.ref (sA θ 0)), some (.int (nI (cnt (fun r => gdR T N r (tF T)) row))), some (.int (nI (MR T (stm N) (tP T) 0))), some (.int (nI row)), some (.int (nI 1)), some (.int (nI f)), l6] [] S2 := by
        intro k
        induction k with
        | zero =>
          intro f l6 hf hg
          have e : f = tF T := by omega
          subst e
          refine q_iload hC dX10_paves_102 ?_
          refine q_aload_n hC dX10_paves_104 ?_
          refine q_getI hC (by first | assumption | rfl) flX10_75 dX10_paves_105 ?_
          rw [hf2]
          refine q_icmp_ge hC 159 dX10_paves_108 (by decide) (fun hb => ?_) (fun hz => absurd hz (fun z => z (nI_le (Nat.le_refl _) (by omega))))
          exact take _ _ hg
        | succ k ihf =>
          intro f l6 hf hg
          have hf4 : f < 4 := by omega
          have hgl := gA_lt T (stm N) row f h8
          have hwl : nW N f < 256 := Nat.lt_of_lt_of_le (hNo.2.2.2 f) (Nat.pow_le_pow_right (n := 2) (by omega) h8)
          refine q_iload hC dX10_paves_102 ?_
          refine q_aload_n hC dX10_paves_104 ?_
          refine q_getI hC (by first | assumption | rfl) flX10_75 dX10_paves_105 ?_
          rw [hf2]
          refine q_icmp_ge hC 159 dX10_paves_108 (by decide) (fun hz => absurd hz (fun z => by have := (nI_leI (by omega) (by omega)).mp z; omega)) (fun hb => ?_)
          refine q_iload hC dX10_paves_111 ?_
          refine q_if_eq hC 159 dX10_paves_113 (by decide) (fun hz => absurd hz (by first | decide | exact (show ¬ nI 1 = 0 by decide))) (fun hb => ?_)
          refine q_aload_n hC dX10_paves_116 ?_
          refine q_aload_n hC dX10_paves_117 ?_
          refine q_getR hC (by first | assumption | rfl) flX10_58 dX10_paves_118 ?_
          refine q_iload hC dX10_paves_121 ?_
          refine q_calliV2 hC (by first | assumption | rfl) cvX10_178 dX10_paves_123 (m_ownTold θ _ row f T (stm N) hok hp2 hrow hL2 (by omega)) (by decide) (fun r9 S9 hr9 => ?_)
          obtain ⟨rfl, hS9⟩ := hr9
          have hS9 := hS9.symm
          subst hS9
          have eg : gdR T N row (f + 1) = (decide (¬ gA T (stm N) row (tP T) f = 0) && decide (gA T (stm N) row (tP T) f &&& nW N f = 0)) := by
            simp only [gdR]; rw [hg]; rfl
          by_cases h0 : gA T (stm N) row (tP T) f = 0
          · have hg2 : ¬ gdR T N row (f + 1) = true := by rw [eg]; simp [h0]
            rw [h0]
            refine q_istore_6 hC dX10_paves_126 ?_
            refine q_iload hC dX10_paves_128 ?_
            refine q_if_eq hC 150 dX10_paves_130 (by decide) (fun hb => ?_) (fun hz => absurd hz (by first | decide | exact (show ¬ nI 1 = 0 by decide)))
            refine q_iconst (v := nI 0) hC dX10_paves_150 (by decide) ?_
            refine q_istore_4 hC dX10_paves_151 ?_
            refine q_inc1_5 hC dX10_paves_153 ?_
            refine q_goto hC 102 dX10_paves_156 (by decide) ?_
            exact bad (f + 1) _ (by omega) (hbad f (by omega) hg2)
          · refine q_istore_6 hC dX10_paves_126 ?_
            refine q_iload hC dX10_paves_128 ?_
            refine q_if_eq hC 150 dX10_paves_130 (by decide) (fun hz => absurd hz (nI_ne0 (Nat.pos_of_ne_zero h0) (by omega))) (fun hb => ?_)
            refine q_iload hC dX10_paves_133 ?_
            refine q_aload_n hC dX10_paves_135 ?_
            refine q_getR hC (by first | assumption | rfl) flX10_61 dX10_paves_136 ?_
            refine q_iload hC dX10_paves_139 ?_
            refine q_ialdn hC (by first | assumption | rfl) (by first | assumption | omega) dX10_paves_141 ?_
            rw [hW2 f hf4]
            refine q_iand hC dX10_paves_142 ?_
            rw [and_n]
            have hal : gA T (stm N) row (tP T) f &&& nW N f < 2 ^ 8 := Nat.and_lt_two_pow _ hwl
            by_cases ha : gA T (stm N) row (tP T) f &&& nW N f = 0
            · have hg2 : gdR T N row (f + 1) = true := by rw [eg]; simp [h0, ha]
              rw [ha]
              refine q_if_ne hC 150 dX10_paves_143 (by decide) (fun hz => absurd hz (by first | decide | exact (show ¬ nI 1 = 0 by decide))) (fun hb => ?_)
              refine q_iconst (v := nI 1) hC dX10_paves_146 (by decide) ?_
              refine q_goto hC 151 dX10_paves_147 (by decide) ?_
              refine q_istore_4 hC dX10_paves_151 ?_
              refine q_inc1_5 hC dX10_paves_153 ?_
              refine q_goto hC 102 dX10_paves_156 (by decide) ?_
              exact ihf (f + 1) _ (by omega) hg2
            · have hg2 : ¬ gdR T N row (f + 1) = true := by rw [eg]; simp [ha]
              refine q_if_ne hC 150 dX10_paves_143 (by decide) (fun hb => ?_) (fun hz => absurd hz (nI_ne0 (Nat.pos_of_ne_zero ha) (by omega)))
              refine q_iconst (v := nI 0) hC dX10_paves_150 (by decide) ?_
              refine q_istore_4 hC dX10_paves_151 ?_
              refine q_inc1_5 hC dX10_paves_153 ?_
              refine q_goto hC 102 dX10_paves_156 (by decide) ?_
              exact bad (f + 1) _ (by omega) (hbad f (by omega) hg2)
      refine q_iconst (v := nI 1) hC dX10_paves_96 (by decide) ?_
      refine q_istore_4 hC dX10_paves_97 ?_
      refine q_iconst (v := nI 0) hC dX10_paves_99 (by decide) ?_
      refine q_istore_5 hC dX10_paves_100 ?_
      exact fams (tF T) 0 _ (by omega) rfl
  have loopC : ∀ m p S1, p + m = 8 → Fr S S1 [18, 19] → (∀ f, f < 4 → S1.1 18 f = nI (nW N f)) → (∀ y, y < p → S1.1 19 y = nI 0) → K 58 [some (.ref (sA θ 0)), some (.int (nI p)), none, none, none, none, none] [] S1 := by
    intro m
    induction m with
    | zero =>
      intro p S1 hp hF hW hz
      have e : p = 8 := by omega
      subst e
      have hT1 : MTw S1 T := hT.go (by rw [hF.c 0]) (by rw [hF.c 0]) (fun a g1 g2 => hF.1 a (by simp only [List.mem_cons, List.not_mem_nil, or_false]; omega))
      refine q_iload_n hC dX10_paves_58 ?_
      refine q_bipush (v := nI 8) hC dX10_paves_59 (by decide) ?_
      refine q_icmp_ge hC 77 dX10_paves_61 (by decide) (fun hb => ?_) (fun hz => absurd hz (fun z => z (nI_le (Nat.le_refl _) (by omega))))
      refine q_iconst (v := nI 0) hC dX10_paves_77 (by decide) ?_
      refine q_istore_1 hC dX10_paves_78 ?_
      refine q_aload_n hC dX10_paves_79 ?_
      refine q_calliV0 hC (by first | assumption | rfl) cvX10_206 dX10_paves_80 (m_rowsOfAll θ _ T N hok hNo hT1 (fun p hp => by rw [hF.c 8]; exact (hN.1 p hp).1)) (by decide) (fun r1 S2 hr1 => ?_)
      obtain ⟨rfl, hS1⟩ := hr1
      have hS1 := hS1.symm
      subst hS1
      refine q_istore_2 hC dX10_paves_83 ?_
      refine q_iconst (v := nI 0) hC dX10_paves_84 (by decide) ?_
      refine q_istore_3 hC dX10_paves_85 ?_
      exact rows (MR T (stm N) (tP T) 0) 0 S1 _ _ _ (by omega) (hF.mono (by decide)) hW (fun q hq => hz q (by omega))
    | succ m ih =>
      intro p S1 hp hF hW hz
      have hp8 : p < 8 := by omega
      refine q_iload_n hC dX10_paves_58 ?_
      refine q_bipush (v := nI 8) hC dX10_paves_59 (by decide) ?_
      refine q_icmp_ge hC 77 dX10_paves_61 (by decide) (fun hz => absurd hz (fun z => by have := (nI_leI (by omega) (by omega)).mp z; omega)) (fun hb => ?_)
      refine q_aload_n hC dX10_paves_64 ?_
      refine q_getR hC (by first | assumption | rfl) flX10_64 dX10_paves_65 ?_
      refine q_iload_n hC dX10_paves_68 ?_
      refine q_iconst (v := nI 0) hC dX10_paves_69 (by decide) ?_
      refine q_iastn hC (by first | assumption | rfl) (by first | assumption | omega) dX10_paves_70 ?_
      refine q_inc1_1 hC dX10_paves_71 ?_
      refine q_goto hC 58 dX10_paves_74 (by decide) ?_
      refine ih (p + 1) _ (by omega) (hF.trans (Fr.u1.mono (by decide))) (fun f hf => by rw [up_oc (by decide)]; exact hW f hf) (fun y hy => ?_)
      by_cases e : y = p
      · subst e; rw [up_s]
      · rw [up_of e]; exact hz y (by omega)
  have loopB : ∀ m k S1, k + m = nS N → Fr S S1 [18] → (∀ f, f < 4 → S1.1 18 f = nI (orS bb sb f k)) → K 22 [some (.ref (sA θ 0)), some (.int (nI k)), none, none, none, none, none] [] S1 := by
    intro m
    induction m with
    | zero =>
      intro k S1 hk hF hW
      have e : k = nS N := by omega
      subst e
      refine q_iload_n hC dX10_paves_22 ?_
      refine q_aload_n hC dX10_paves_23 ?_
      refine q_getI hC (by first | assumption | rfl) flX10_158 dX10_paves_24 ?_
      rw [hF.c 0, hN.2.1]
      refine q_icmp_ge hC 56 dX10_paves_27 (by decide) (fun hb => ?_) (fun hz => absurd hz (fun z => z (nI_le (Nat.le_refl _) (by omega))))
      refine q_iconst (v := nI 0) hC dX10_paves_56 (by decide) ?_
      refine q_istore_1 hC dX10_paves_57 ?_
      exact loopC 8 0 S1 (by omega) (hF.mono (by decide)) (fun f hf => by rw [hww f]; exact hW f hf) (fun y hy => by omega)
    | succ m ih =>
      intro k S1 hk hF hW
      have hk10 : k < 10 := by omega
      obtain ⟨b1, b2, b3, b4⟩ := hbs k (by omega)
      have hb4 : bb k < 4 := by omega
      refine q_iload_n hC dX10_paves_22 ?_
      refine q_aload_n hC dX10_paves_23 ?_
      refine q_getI hC (by first | assumption | rfl) flX10_158 dX10_paves_24 ?_
      rw [hF.c 0, hN.2.1]
      refine q_icmp_ge hC 56 dX10_paves_27 (by decide) (fun hz => absurd hz (fun z => by have := (nI_leI (by omega) (by omega)).mp z; omega)) (fun hb => ?_)
      refine q_aload_n hC dX10_paves_30 ?_
      refine q_getR hC (by first | assumption | rfl) flX10_61 dX10_paves_31 ?_
      refine q_aload_n hC dX10_paves_34 ?_
      refine q_getR hC (by first | assumption | rfl) flX10_37 dX10_paves_35 ?_
      refine q_iload_n hC dX10_paves_38 ?_
      refine q_ialdn hC (by first | assumption | rfl) (by first | assumption | omega) dX10_paves_39 ?_
      rw [hF.c 10, b1]
      refine q_dup2 hC dX10_paves_40 rfl rfl ?_
      refine q_ialdn hC (by first | assumption | rfl) (by first | assumption | omega) dX10_paves_41 ?_
      rw [hW _ hb4]
      refine q_aload_n hC dX10_paves_42 ?_
      refine q_getR hC (by first | assumption | rfl) flX10_40 dX10_paves_43 ?_
      refine q_iload_n hC dX10_paves_46 ?_
      refine q_ialdn hC (by first | assumption | rfl) (by first | assumption | omega) dX10_paves_47 ?_
      rw [hF.c 11, b2]
      refine q_ior hC dX10_paves_48 ?_
      rw [or_n]
      refine q_iastn hC (by first | assumption | rfl) (by first | assumption | omega) dX10_paves_49 ?_
      refine q_inc1_1 hC dX10_paves_50 ?_
      refine q_goto hC 22 dX10_paves_53 (by decide) ?_
      refine ih (k + 1) _ (by omega) (hF.trans Fr.u1) (fun f hf => ?_)
      by_cases e : f = bb k
      · subst e; rw [up_s]; simp [orS]
      · rw [up_of e, hW f hf]; simp only [orS]; rw [if_neg (fun z => e z.symm), Nat.or_zero]
  have loopA : ∀ m f S1, f + m = 4 → Fr S S1 [18] → (∀ y, y < f → S1.1 18 y = nI 0) → K 2 [some (.ref (sA θ 0)), some (.int (nI f)), none, none, none, none, none] [] S1 := by
    intro m
    induction m with
    | zero =>
      intro f S1 hf hF hz
      have e : f = 4 := by omega
      subst e
      refine q_iload_n hC dX10_paves_2 ?_
      refine q_iconst (v := nI 4) hC dX10_paves_3 (by decide) ?_
      refine q_icmp_ge hC 20 dX10_paves_4 (by decide) (fun hb => ?_) (fun hz => absurd hz (fun z => z (nI_le (Nat.le_refl _) (by omega))))
      refine q_iconst (v := nI 0) hC dX10_paves_20 (by decide) ?_
      refine q_istore_1 hC dX10_paves_21 ?_
      exact loopB (nS N) 0 S1 (by omega) hF (fun f hf => hz f hf)
    | succ m ih =>
      intro f S1 hf hF hz
      have hf4 : f < 4 := by omega
      refine q_iload_n hC dX10_paves_2 ?_
      refine q_iconst (v := nI 4) hC dX10_paves_3 (by decide) ?_
      refine q_icmp_ge hC 20 dX10_paves_4 (by decide) (fun hz => absurd hz (fun z => by have := (nI_leI (by omega) (by omega)).mp z; omega)) (fun hb => ?_)
      refine q_aload_n hC dX10_paves_7 ?_
      refine q_getR hC (by first | assumption | rfl) flX10_61 dX10_paves_8 ?_
      refine q_iload_n hC dX10_paves_11 ?_
      refine q_iconst (v := nI 0) hC dX10_paves_12 (by decide) ?_
      refine q_iastn hC (by first | assumption | rfl) (by first | assumption | omega) dX10_paves_13 ?_
      refine q_inc1_1 hC dX10_paves_14 ?_
      refine q_goto hC 2 dX10_paves_17 (by decide) ?_
      refine ih (f + 1) _ (by omega) (hF.trans Fr.u1) (fun y hy => ?_)
      by_cases e : y = f
      · subst e; rw [up_s]
      · rw [up_of e]; exact hz y (by omega)
  refine q_iconst (v := nI 0) hC dX10_paves_0 (by decide) ?_
  refine q_istore_1 hC dX10_paves_1 ?_
  exact loopA 4 0 S (by omega) Fr.rfl' (fun y hy => by omega)
theorem m_fits (θ : Site) (S : St) (L : Nat) (x : Nat → Nat) (T : Tn) (N : Nw) (im : Nat → Option Nw) (tr : Int64) (hA : AOk T N im) (hR : RM S L x T N im tr)  : Cti yX10_fits cX10_fits 1 (some .int) 20 θ shM [.ref (sA θ 0)] S (fun r S' => r = nI (fitN T N none) ∧ RM S' L x T N im tr) := by
  obtain ⟨hok, hNo, hIm⟩ := hA
  have hR' := hR
  obtain ⟨hx, hT, hN, hI, htr⟩ := hR
  have h8 := hok.1
  have hF4 := hok.2.1
  refine Cti.mk (own := RX10) 0 [some (.ref (sA θ 0))] (fun K hC => ?_)
  refine q_aload_n hC dX10_fits_0 ?_
  refine q_calliV0 hC (by first | assumption | rfl) cvX10_223 dX10_fits_1 (m_paves θ _ T N hok hNo hT hN) (by decide) (fun r S1 hr => ?_)
  obtain ⟨rfl, hF, -⟩ := hr
  refine q_iret hC dX10_fits_4 ?_
  exact ⟨rfl, hR'.fr (hF.mono (by decide))⟩
theorem whL_0 {F f : Nat} {g : Nat → Bool} (hF : F ≤ 4) (hz : ∀ i, g i = false) : whL (msk g F) F 0 = -9 := by
  have hm : msk g F = 0 := by
    have : msk g F = msk (fun _ => false) F := msk_congr (fun p _ => hz p)
    rw [this]
    have : ∀ F, F ≤ 4 → msk (fun _ => false) F = 0 := by decide
    exact this F hF
  rw [hm]
  have : ∀ F, F ≤ 4 → whL 0 F 0 = -9 := by decide
  exact this F hF
theorem m_who (θ : Site) (S : St) (L : Nat) (x : Nat → Nat) (T : Tn) (N : Nw) (im : Nat → Option Nw) (tr : Int64) (hA : AOk T N im) (hR : RM S L x T N im tr) (p : Int32) : Cti yX10_who cX10_who 4 (some .int) 20 θ shM [.ref (sA θ 0), .int p] S (fun r S' => r = sWho T N p ∧ RM S' L x T N im tr) := by
  obtain ⟨hok, hNo, hIm⟩ := hA
  have hR' := hR
  obtain ⟨hx, hT, hN, hI, htr⟩ := hR
  have h8 := hok.1
  have hF4 := hok.2.1
  refine Cti.mk (own := RX10) 2 [some (.ref (sA θ 0)), some (.int p), none, none] (fun K hC => ?_)
  refine q_aload_n hC dX10_who_0 ?_
  refine q_iload_n hC dX10_who_1 ?_
  refine q_calliV1 hC (by first | assumption | rfl) cvX10_161 dX10_who_2 (m_isPiece θ _ p T hok hT) (by decide) (fun r S1 hr => ?_)
  obtain ⟨rfl, hS⟩ := hr
  have hS := hS.symm
  subst hS
  cases hp : ixN p (tP T) with
  | none =>
    refine q_if_ne hC 10 dX10_who_5 (by decide) (fun hz => absurd hz (by first | decide | exact (show ¬ nI 1 = 0 by decide))) (fun hb => ?_)
    refine q_iconst (v := (-1)) hC dX10_who_8 (by decide) ?_
    refine q_iret hC dX10_who_9 ?_
    exact ⟨by simp [sWho, hp], hR'⟩
  | some q =>
    obtain ⟨hq, rfl⟩ := ixN_some (by omega) hp
    have hq8 : q < 8 := by omega
    refine q_if_ne hC 10 dX10_who_5 (by decide) (fun hb => ?_) (fun hz => absurd hz (by first | decide | exact (show ¬ nI 1 = 0 by decide)))
    refine q_aload_n hC dX10_who_10 ?_
    refine q_iload_n hC dX10_who_11 ?_
    refine q_calliV1 hC (by first | assumption | rfl) cvX10_170 dX10_who_12 (m_isStone θ _ q T N hok hNo (fun p hp => (hN.1 p hp).1) hq) (by decide) (fun r1 S1 hr1 => ?_)
    obtain ⟨rfl, hS⟩ := hr1
    have hS := hS.symm
    subst hS
    by_cases h5 : nO N q = 5
    · rw [if_pos h5]
      refine q_if_eq hC 21 dX10_who_15 (by decide) (fun hz => absurd hz (by first | decide | exact (show ¬ nI 1 = 0 by decide))) (fun hb => ?_)
      refine q_bipush (v := (-2)) hC dX10_who_18 (by decide) ?_
      refine q_iret hC dX10_who_20 ?_
      exact ⟨by simp [sWho, hp, h5], hR'⟩
    · rw [if_neg h5]
      refine q_if_eq hC 21 dX10_who_15 (by decide) (fun hb => ?_) (fun hz => absurd hz (by first | decide | exact (show ¬ nI 1 = 0 by decide)))
      refine q_aload_n hC dX10_who_21 ?_
      refine q_calliV0 hC (by first | assumption | rfl) cvX10_223 dX10_who_22 (m_paves θ _ T N hok hNo hT hN) (by decide) (fun r2 S2 hr2 => ?_)
      obtain ⟨rfl, hF, hP⟩ := hr2
      have hR2 := hR'.fr (hF.mono (M := [14, 15, 16, 17, 18, 19]) (by decide))
      have esp : sWho T N (nI q) = whL (pvR T N q (MR T (stm N) (tP T) 0)) (tF T) 0 := by
        rw [pv_msk h8 hq h5, ← unq_wh _ hF4]
        simp [sWho, hp, h5]
      have hPq := hP q hq
      have hfl : fitN T N none ≤ 65536 := nmS_le N none hF4 _ _ h8 (by have h16 : 2 ^ tF T ≤ 2 ^ 4 := Nat.pow_le_pow_right (by omega) hF4; have := two_lt (tF T); omega)
      by_cases h0 : fitN T N none = 0
      · have hz : pvR T N q (MR T (stm N) (tP T) 0) = 0 := by
          apply Nat.eq_of_testBit_eq
          intro i
          rw [Nat.zero_testBit]
          cases hb : (pvR T N q (MR T (stm N) (tP T) 0)).testBit i with
          | false => rfl
          | true =>
            obtain ⟨r, r1, r2, -⟩ := (pvR_tb h5 _).mp hb
            have := (cnt_ex (g := fun row => gdR T N row (tF T)) (MR T (stm N) (tP T) 0)).mpr ⟨r, r1, r2⟩
            rw [← fit_cnt h8] at this
            omega
        have e9 : sWho T N (nI q) = -9 := by
          rw [esp, hz]
          have : ∀ F, F ≤ 4 → whL 0 F 0 = -9 := by decide
          exact this _ hF4
        rw [h0]
        refine q_istore_2 hC dX10_who_25 ?_
        refine q_iconst (v := nI 0) hC dX10_who_26 (by decide) ?_
        refine q_istore_3 hC dX10_who_27 ?_
        refine q_iload_n hC dX10_who_28 ?_
        refine q_aload_n hC dX10_who_29 ?_
        refine q_getI hC (by first | assumption | rfl) flX10_75 dX10_who_30 ?_
        rw [hR2.2.1.2.1]
        refine q_icmp_ge hC 60 dX10_who_33 (by decide) (fun hc => ?_) (fun hc => ?_)
        · refine q_bipush (v := (-9)) hC dX10_who_60 (by decide) ?_
          refine q_iret hC dX10_who_62 ?_
          exact ⟨e9.symm, hR2⟩
        · refine q_iload_n hC dX10_who_36 ?_
          refine q_if_le hC 60 dX10_who_37 (by decide) (fun hb => ?_) (fun hz => absurd hz (by first | decide | exact (show ¬ nI 1 = 0 by decide)))
          refine q_bipush (v := (-9)) hC dX10_who_60 (by decide) ?_
          refine q_iret hC dX10_who_62 ?_
          exact ⟨e9.symm, hR2⟩
      · have hpl : pvR T N q (MR T (stm N) (tP T) 0) < 16 := by
          rw [pv_msk h8 hq h5]
          have h16 : 2 ^ tF T ≤ 2 ^ 4 := Nat.pow_le_pow_right (by omega) hF4
          have := msk_lt (fun f => decide (0 < fitN T N (some (q, f)))) (tF T)
          omega
        generalize pvR T N q (MR T (stm N) (tP T) 0) = pm at hPq esp hpl
        have lp : ∀ k f, f + k = tF T → sWho T N (nI q) = whL pm k f → K 28 [some (.ref (sA θ 0)), some (.int (nI q)), some (.int (nI (fitN T N none))), some (.int (nI f))] [] S2 := by
          intro k
          induction k with
          | zero =>
            intro f hf he
            have e : f = tF T := by omega
            subst e
            refine q_iload_n hC dX10_who_28 ?_
            refine q_aload_n hC dX10_who_29 ?_
            refine q_getI hC (by first | assumption | rfl) flX10_75 dX10_who_30 ?_
            rw [hR2.2.1.2.1]
            refine q_icmp_ge hC 60 dX10_who_33 (by decide) (fun hb => ?_) (fun hz => absurd hz (fun z => z (nI_le (Nat.le_refl _) (by omega))))
            refine q_bipush (v := (-9)) hC dX10_who_60 (by decide) ?_
            refine q_iret hC dX10_who_62 ?_
            exact ⟨he.symm, hR2⟩
          | succ k ih =>
            intro f hf he
            have hf4 : f < 4 := by omega
            simp only [whL] at he
            refine q_iload_n hC dX10_who_28 ?_
            refine q_aload_n hC dX10_who_29 ?_
            refine q_getI hC (by first | assumption | rfl) flX10_75 dX10_who_30 ?_
            rw [hR2.2.1.2.1]
            refine q_icmp_ge hC 60 dX10_who_33 (by decide) (fun hz => absurd hz (fun z => by have := (nI_leI (by omega) (by omega)).mp z; omega)) (fun hb => ?_)
            refine q_iload_n hC dX10_who_36 ?_
            refine q_if_le hC 60 dX10_who_37 (by decide) (fun hz => absurd hz (fun z => by have z2 : nI (fitN T N none) ≤ nI 0 := z; have := (nI_leI (by omega) (by omega)).mp z2; omega)) (fun hb => ?_)
            refine q_aload_n hC dX10_who_40 ?_
            refine q_getR hC (by first | assumption | rfl) flX10_64 dX10_who_41 ?_
            refine q_iload_n hC dX10_who_44 ?_
            refine q_ialdn hC (by first | assumption | rfl) (by first | assumption | omega) dX10_who_45 ?_
            rw [hPq]
            refine q_iconst (v := nI 1) hC dX10_who_46 (by decide) ?_
            refine q_iload_n hC dX10_who_47 ?_
            refine q_ishl hC dX10_who_48 ?_
            rw [sh1 (show f < 31 by omega)]
            have h2f : 2 ^ f ≤ 2 ^ 4 := Nat.pow_le_pow_right (by omega) (by omega)
            by_cases e : pm = 2 ^ f
            · rw [if_pos e] at he
              refine q_icmp_ne hC 54 dX10_who_49 (by decide) (fun hz => absurd hz (fun z => z (by rw [e]))) (fun hb => ?_)
              refine q_iload_n hC dX10_who_52 ?_
              refine q_iret hC dX10_who_53 ?_
              exact ⟨he.symm, hR2⟩
            · rw [if_neg e] at he
              refine q_icmp_ne hC 54 dX10_who_49 (by decide) (fun hb => ?_) (fun hz => absurd hz (fun z => e (nI_small (by omega) (by omega) z)))
              refine q_inc1_3 hC dX10_who_54 ?_
              refine q_goto hC 28 dX10_who_57 (by decide) ?_
              exact ih (f + 1) (by omega) he
        refine q_istore_2 hC dX10_who_25 ?_
        refine q_iconst (v := nI 0) hC dX10_who_26 (by decide) ?_
        refine q_istore_3 hC dX10_who_27 ?_
        exact lp (tF T) 0 (by omega) esp
