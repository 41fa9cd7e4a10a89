theorem c_isLetter (θ : Site) (S : St) (b : Nat) (hb : b < 256) : Cti yX4_isLetter cX4_isLetter 1 (some .boolean) 0 θ shX [.int (sb b)] S (fun r S' => r = nI (if isL b = true then 1 else 0) ∧ S' = S) := by
  refine Cti.mkz (own := RX4) 0 [some (.int (sb b))] (fun K hC => ?_)
  refine q_iload_n hC dX4_isLetter_0 ?_
  refine q_bipush (v := nI 97) hC dX4_isLetter_1 (by decide) ?_
  refine q_icmp_lt hC 16 dX4_isLetter_3 (by decide) (fun h1 => ?_) (fun h1 => ?_)
  · have h9 : ¬ isL b = true := fun z => ((sb_L hb).mpr z).1 h1
    refine q_iconst (v := nI 0) hC dX4_isLetter_16 (by decide) ?_
    refine q_iret hC dX4_isLetter_17 ?_
    exact ⟨⟨by rw [if_neg h9], rfl⟩, by decide⟩
  · refine q_iload_n hC dX4_isLetter_6 ?_
    refine q_bipush (v := nI 122) hC dX4_isLetter_7 (by decide) ?_
    refine q_icmp_gt hC 16 dX4_isLetter_9 (by decide) (fun h2 => ?_) (fun h2 => ?_)
    · have h9 : ¬ isL b = true := fun z => ((sb_L hb).mpr z).2 h2
      refine q_iconst (v := nI 0) hC dX4_isLetter_16 (by decide) ?_
      refine q_iret hC dX4_isLetter_17 ?_
      exact ⟨⟨by rw [if_neg h9], rfl⟩, by decide⟩
    · have h9 : isL b = true := (sb_L hb).mp ⟨h1, h2⟩
      refine q_iconst (v := nI 1) hC dX4_isLetter_12 (by decide) ?_
      refine q_goto hC 17 dX4_isLetter_13 (by decide) ?_
      refine q_iret hC dX4_isLetter_17 ?_
      exact ⟨⟨by rw [if_pos h9], rfl⟩, by decide⟩
theorem c_isDigit (θ : Site) (S : St) (b : Nat) (hb : b < 256) : Cti yX4_isDigit cX4_isDigit 1 (some .boolean) 0 θ shX [.int (sb b)] S (fun r S' => r = nI (if isD b = true then 1 else 0) ∧ S' = S) := by
  refine Cti.mkz (own := RX4) 0 [some (.int (sb b))] (fun K hC => ?_)
  refine q_iload_n hC dX4_isDigit_0 ?_
  refine q_bipush (v := nI 48) hC dX4_isDigit_1 (by decide) ?_
  refine q_icmp_lt hC 16 dX4_isDigit_3 (by decide) (fun h1 => ?_) (fun h1 => ?_)
  · have h9 : ¬ isD b = true := fun z => ((sb_D hb).mpr z).1 h1
    refine q_iconst (v := nI 0) hC dX4_isDigit_16 (by decide) ?_
    refine q_iret hC dX4_isDigit_17 ?_
    exact ⟨⟨by rw [if_neg h9], rfl⟩, by decide⟩
  · refine q_iload_n hC dX4_isDigit_6 ?_
    refine q_bipush (v := nI 57) hC dX4_isDigit_7 (by decide) ?_
    refine q_icmp_gt hC 16 dX4_isDigit_9 (by decide) (fun h2 => ?_) (fun h2 => ?_)
    · have h9 : ¬ isD b = true := fun z => ((sb_D hb).mpr z).2 h2
      refine q_iconst (v := nI 0) hC dX4_isDigit_16 (by decide) ?_
      refine q_iret hC dX4_isDigit_17 ?_
      exact ⟨⟨by rw [if_neg h9], rfl⟩, by decide⟩
    · have h9 : isD b = true := (sb_D hb).mp ⟨h1, h2⟩
      refine q_iconst (v := nI 1) hC dX4_isDigit_12 (by decide) ?_
      refine q_goto hC 17 dX4_isDigit_13 (by decide) ?_
      refine q_iret hC dX4_isDigit_17 ?_
      exact ⟨⟨by rw [if_pos h9], rfl⟩, by decide⟩
/-- Reader.spells(word) -/
theorem c_spells (θ : Site) (S : St) (i s e L : Nat) (x : Nat → Nat) (hi : i < 5) (hx : TxR S L x) (h3 : S.1 3 3 = nI e) (h4 : S.1 3 4 = nI s) (hse : s ≤ e) (heL : e ≤ L) : Cti yX4_spells cX4_spells 3 (some .boolean) 4 θ shX [.ref (sA θ 3), .ref (sK θ i)] S (fun r S' => r = nI (if isW x s e i = true then 1 else 0) ∧ S' = S) := by
  obtain ⟨hL, hx2, hx3, hx4⟩ := hx
  obtain ⟨w1, w2⟩ := wrd_len hi
  refine Cti.mkz (own := RX4) 1 [some (.ref (sA θ 3)), some (.ref (sK θ i)), none] (fun K hC => ?_)
  refine q_aload_n hC dX4_spells_0 ?_
  refine q_getI hC (by first | assumption | rfl) flX4_9 dX4_spells_1 ?_
  rw [h3]
  refine q_aload_n hC dX4_spells_4 ?_
  refine q_getI hC (by first | assumption | rfl) flX4_15 dX4_spells_5 ?_
  rw [h4]
  refine q_isub hC dX4_spells_8 ?_
  rw [pk_sub hse]
  refine q_aload_n hC dX4_spells_9 ?_
  refine q_callis0 hC hi cjX4_139 rfl dX4_spells_10 (c_strlen θ shX _ i hi) (by decide) (fun r S1 hr => ?_)
  obtain ⟨rfl, rfl⟩ := hr
  rw [← w1]
  refine q_icmp_eq hC 18 dX4_spells_13 (by decide) (fun hb => ?_) (fun hb => ?_)
  · have hlen : e - s = (wrd i).length := nI_small (by omega) (by omega) hb
    have loop : ∀ n j, j + n = (wrd i).length → (∀ t, t < j → x (s + t) = (wrd i).getD t 0) → K 20 [some (.ref (sA θ 3)), some (.ref (sK θ i)), some (.int (nI j))] [] S1 := by
      intro n
      induction n with
      | zero =>
        intro j hj hall
        have e2 : j = (wrd i).length := by omega
        refine q_iload_n hC dX4_spells_20 ?_
        refine q_aload_n hC dX4_spells_21 ?_
        refine q_callis0 hC hi cjX4_139 rfl dX4_spells_22 (c_strlen θ shX _ i hi) (by decide) (fun r S1 hr => ?_)
        obtain ⟨rfl, rfl⟩ := hr
        rw [← w1]
        refine q_icmp_ge hC 58 dX4_spells_25 (by decide) (fun hb2 => ?_) (fun hb2 => ?_)
        · have h9 : isW x s e i = true := by
            unfold isW
            rw [Bool.and_eq_true, decide_eq_true_eq, List.all_eq_true]
            refine ⟨hlen, fun t ht => ?_⟩
            rw [decide_eq_true_eq]
            exact hall t (by have := List.mem_range.mp ht; omega)
          refine q_iconst (v := nI 1) hC dX4_spells_58 (by decide) ?_
          refine q_iret hC dX4_spells_59 ?_
          exact ⟨⟨by rw [if_pos h9], rfl⟩, by decide⟩
        · exact absurd (nI_le (by omega) (by omega)) hb2
      | succ n ih =>
        intro j hj hall
        have hwc := wrd_ch hi (show j < 6 by omega)
        refine q_iload_n hC dX4_spells_20 ?_
        refine q_aload_n hC dX4_spells_21 ?_
        refine q_callis0 hC hi cjX4_139 rfl dX4_spells_22 (c_strlen θ shX _ i hi) (by decide) (fun r S1 hr => ?_)
        obtain ⟨rfl, rfl⟩ := hr
        rw [← w1]
        refine q_icmp_ge hC 58 dX4_spells_25 (by decide) (fun hb2 => ?_) (fun hb2 => ?_)
        · exact absurd ((nI_leI (by omega) (by omega)).mp hb2) (by omega)
        · refine q_aload_n hC dX4_spells_28 ?_
          refine q_getR hC (by first | assumption | rfl) flX4_24 dX4_spells_29 ?_
          refine q_getR hC (by first | assumption | rfl) flX4_102 dX4_spells_32 ?_
          refine q_aload_n hC dX4_spells_35 ?_
          refine q_getI hC (by first | assumption | rfl) flX4_15 dX4_spells_36 ?_
          rw [h4]
          refine q_iload_n hC dX4_spells_39 ?_
          refine q_iadd hC dX4_spells_40 ?_
          rw [nI_add]
          refine q_baldn hC (by first | assumption | rfl) (by first | assumption | omega) dX4_spells_41 ?_
          rw [hx4 (s + j) (by omega)]
          refine q_aload_n hC dX4_spells_42 ?_
          refine q_iload_n hC dX4_spells_43 ?_
          refine q_callis1 hC hi cjX4_144 rfl dX4_spells_44 (c_charAt θ shX _ i j hi (by omega)) (by decide) (fun r S1 hr => ?_)
          obtain ⟨rfl, rfl⟩ := hr
          rw [hwc.1]
          refine q_icmp_eq hC 52 dX4_spells_47 (by decide) (fun hb3 => ?_) (fun hb3 => ?_)
          · have h5 : x (s + j) = (wrd i).getD j 0 := (sb_eq (hx2 _) hwc.2).mp hb3
            refine q_inc1_2 hC dX4_spells_52 ?_
            refine q_goto hC 20 dX4_spells_55 (by decide) ?_
            refine ih (j + 1) (by omega) (fun t ht => ?_)
            by_cases e3 : t = j
            · subst e3; exact h5
            · exact hall t (by omega)
          · have h9 : ¬ isW x s e i = true := by
              intro z
              unfold isW at z
              rw [Bool.and_eq_true, decide_eq_true_eq, List.all_eq_true] at z
              have := z.2 j (List.mem_range.mpr (by omega))
              rw [decide_eq_true_eq] at this
              exact hb3 ((sb_eq (hx2 _) hwc.2).mpr this)
            refine q_iconst (v := nI 0) hC dX4_spells_50 (by decide) ?_
            refine q_iret hC dX4_spells_51 ?_
            exact ⟨⟨by rw [if_neg h9], rfl⟩, by decide⟩
    refine q_iconst (v := nI 0) hC dX4_spells_18 (by decide) ?_
    refine q_istore_2 hC dX4_spells_19 ?_
    exact loop (wrd i).length 0 (by omega) (fun t ht => by omega)
  · have h9 : ¬ isW x s e i = true := by
      intro z
      unfold isW at z
      rw [Bool.and_eq_true, decide_eq_true_eq] at z
      exact hb (by rw [z.1])
    refine q_iconst (v := nI 0) hC dX4_spells_16 (by decide) ?_
    refine q_iret hC dX4_spells_17 ?_
    exact ⟨⟨by rw [if_neg h9], rfl⟩, by decide⟩
/-- Reader.takeWord() -/
theorem c_takeWord (θ : Site) (S : St) (s L : Nat) (x : Nat → Nat) (hx : TxR S L x) (h3 : S.1 3 3 = nI s) (h4 : S.1 3 4 = nI s) (hsL : s ≤ L) : Ctv yX4_takeWord cX4_takeWord 1 none 5 θ shX [.ref (sA θ 3)] S (fun S' => Fr S S' [3] ∧ S'.1 3 3 = nI (wEn L x s) ∧ S'.1 3 4 = nI s ∧ S'.1 3 5 = nI (wK x s (wEn L x s))) := by
  have hL := hx.1
  have hx2 := hx.2.1
  have hwe := sk_le (c := fun i => isL (x i)) hsL
  refine Ctv.mk (own := RX4) 0 [some (.ref (sA θ 3))] (fun K hC => ?_)
  have loop : ∀ n a S1, L - a ≤ n → s ≤ a → a ≤ L → Fr S S1 [3] → S1.1 3 3 = nI a → S1.1 3 4 = nI s → sk (fun i => isL (x i)) L a = wEn L x s → K 0 [some (.ref (sA θ 3))] [] S1 := by
    intro n
    have fin : ∀ a S1, s ≤ a → Fr S S1 [3] → S1.1 3 3 = nI a → S1.1 3 4 = nI s → a = wEn L x s → K 45 [some (.ref (sA θ 3))] [] S1 := by
      intro a S1 hsa hF1 g1 g2 ha
      subst ha
      have hx1 := hx.go (hF1.c 1) (hF1.c 2)
      have done : ∀ v S2, S2 = up S1 3 5 (nI v) → v = wK x s (wEn L x s) → K 134 [some (.ref (sA θ 3))] [] S2 := by
        intro v S2 hS2 hv
        subst hS2
        refine q_vret hC dX4_takeWord_134 ?_
        exact ⟨hF1.trans Fr.u1, by rw [up_of (by decide)]; exact g1, by rw [up_of (by decide)]; exact g2, by rw [up_s, hv]⟩
      refine q_aload_n hC dX4_takeWord_45 ?_
      refine q_ldcS0 hC dX4_takeWord_46 ?_
      refine q_calliV1 hC (by first | assumption | rfl) cvX4_121 dX4_takeWord_48 (c_spells θ _ 0 s (wEn L x s) L x (by decide) hx1 g1 g2 hwe.1 hwe.2) (by decide) (fun r S1 hr => ?_)
      obtain ⟨rfl, rfl⟩ := hr
      by_cases w0 : isW x s (wEn L x s) 0 = true
      · rw [if_pos w0]
        refine q_if_eq hC 62 dX4_takeWord_51 (by decide) (fun hb => ?_) (fun hb => ?_)
        · exact absurd hb (by decide)
        · refine q_aload_n hC dX4_takeWord_54 ?_
          refine q_iconst (v := nI 3) hC dX4_takeWord_55 (by decide) ?_
          refine q_putI hC (by first | assumption | rfl) fpX4_18 dX4_takeWord_56 ?_
          refine q_goto hC 134 dX4_takeWord_59 (by decide) ?_
          exact done 3 _ rfl (by unfold wK; rw [if_pos w0])
      · rw [if_neg w0]
        refine q_if_eq hC 62 dX4_takeWord_51 (by decide) (fun hb => ?_) (fun hb => ?_)
        · refine q_aload_n hC dX4_takeWord_62 ?_
          refine q_ldcS1 hC dX4_takeWord_63 ?_
          refine q_calliV1 hC (by first | assumption | rfl) cvX4_121 dX4_takeWord_65 (c_spells θ _ 1 s (wEn L x s) L x (by decide) hx1 g1 g2 hwe.1 hwe.2) (by decide) (fun r S1 hr => ?_)
          obtain ⟨rfl, rfl⟩ := hr
          by_cases w1 : isW x s (wEn L x s) 1 = true
          · rw [if_pos w1]
            refine q_if_eq hC 79 dX4_takeWord_68 (by decide) (fun hb1 => ?_) (fun hb1 => ?_)
            · exact absurd hb1 (by decide)
            · refine q_aload_n hC dX4_takeWord_71 ?_
              refine q_iconst (v := nI 4) hC dX4_takeWord_72 (by decide) ?_
              refine q_putI hC (by first | assumption | rfl) fpX4_18 dX4_takeWord_73 ?_
              refine q_goto hC 134 dX4_takeWord_76 (by decide) ?_
              exact done 4 _ rfl (by unfold wK; rw [if_neg w0, if_pos w1])
          · rw [if_neg w1]
            refine q_if_eq hC 79 dX4_takeWord_68 (by decide) (fun hb1 => ?_) (fun hb1 => ?_)
            · refine q_aload_n hC dX4_takeWord_79 ?_
              refine q_ldcS2 hC dX4_takeWord_80 ?_
              refine q_calliV1 hC (by first | assumption | rfl) cvX4_121 dX4_takeWord_82 (c_spells θ _ 2 s (wEn L x s) L x (by decide) hx1 g1 g2 hwe.1 hwe.2) (by decide) (fun r S1 hr => ?_)
              obtain ⟨rfl, rfl⟩ := hr
              by_cases w2 : isW x s (wEn L x s) 2 = true
              · rw [if_pos w2]
                refine q_if_eq hC 96 dX4_takeWord_85 (by decide) (fun hb2 => ?_) (fun hb2 => ?_)
                · exact absurd hb2 (by decide)
                · refine q_aload_n hC dX4_takeWord_88 ?_
                  refine q_iconst (v := nI 5) hC dX4_takeWord_89 (by decide) ?_
                  refine q_putI hC (by first | assumption | rfl) fpX4_18 dX4_takeWord_90 ?_
                  refine q_goto hC 134 dX4_takeWord_93 (by decide) ?_
                  exact done 5 _ rfl (by unfold wK; rw [if_neg w0, if_neg w1, if_pos w2])
              · rw [if_neg w2]
                refine q_if_eq hC 96 dX4_takeWord_85 (by decide) (fun hb2 => ?_) (fun hb2 => ?_)
                · refine q_aload_n hC dX4_takeWord_96 ?_
                  refine q_ldcS3 hC dX4_takeWord_97 ?_
                  refine q_calliV1 hC (by first | assumption | rfl) cvX4_121 dX4_takeWord_99 (c_spells θ _ 3 s (wEn L x s) L x (by decide) hx1 g1 g2 hwe.1 hwe.2) (by decide) (fun r S1 hr => ?_)
                  obtain ⟨rfl, rfl⟩ := hr
                  by_cases w3 : isW x s (wEn L x s) 3 = true
                  · rw [if_pos w3]
                    refine q_if_eq hC 114 dX4_takeWord_102 (by decide) (fun hb3 => ?_) (fun hb3 => ?_)
                    · exact absurd hb3 (by decide)
                    · refine q_aload_n hC dX4_takeWord_105 ?_
                      refine q_bipush (v := nI 6) hC dX4_takeWord_106 (by decide) ?_
                      refine q_putI hC (by first | assumption | rfl) fpX4_18 dX4_takeWord_108 ?_
                      refine q_goto hC 134 dX4_takeWord_111 (by decide) ?_
                      exact done 6 _ rfl (by unfold wK; rw [if_neg w0, if_neg w1, if_neg w2, if_pos w3])
                  · rw [if_neg w3]
                    refine q_if_eq hC 114 dX4_takeWord_102 (by decide) (fun hb3 => ?_) (fun hb3 => ?_)
                    · refine q_aload_n hC dX4_takeWord_114 ?_
                      refine q_aload_n hC dX4_takeWord_115 ?_
                      refine q_ldcS4 hC dX4_takeWord_116 ?_
                      refine q_calliV1 hC (by first | assumption | rfl) cvX4_121 dX4_takeWord_118 (c_spells θ _ 4 s (wEn L x s) L x (by decide) hx1 g1 g2 hwe.1 hwe.2) (by decide) (fun r S1 hr => ?_)
                      obtain ⟨rfl, rfl⟩ := hr
                      by_cases w4 : isW x s (wEn L x s) 4 = true
                      · rw [if_pos w4]
                        refine q_if_eq hC 129 dX4_takeWord_121 (by decide) (fun hb4 => ?_) (fun hb4 => ?_)
                        · exact absurd hb4 (by decide)
                        · refine q_bipush (v := nI 7) hC dX4_takeWord_124 (by decide) ?_
                          refine q_goto hC 131 dX4_takeWord_126 (by decide) ?_
                          refine q_putI hC (by first | assumption | rfl) fpX4_18 dX4_takeWord_131 ?_
                          exact done 7 _ rfl (by unfold wK; rw [if_neg w0, if_neg w1, if_neg w2, if_neg w3, if_pos w4])
                      · rw [if_neg w4]
                        refine q_if_eq hC 129 dX4_takeWord_121 (by decide) (fun hb4 => ?_) (fun hb4 => ?_)
                        · refine q_bipush (v := nI 8) hC dX4_takeWord_129 (by decide) ?_
                          refine q_putI hC (by first | assumption | rfl) fpX4_18 dX4_takeWord_131 ?_
                          exact done 8 _ rfl (by unfold wK; rw [if_neg w0, if_neg w1, if_neg w2, if_neg w3, if_neg w4])
                        · exact absurd (by decide) hb4
                    · exact absurd (by decide) hb3
                · exact absurd (by decide) hb2
            · exact absurd (by decide) hb1
        · exact absurd (by decide) hb
    induction n with
    | zero =>
      intro a S1 hn hsa haL hF1 g1 g2 hsk
      have e : a = L := by omega
      have hx1 := hx.go (hF1.c 1) (hF1.c 2)
      refine q_aload_n hC dX4_takeWord_0 ?_
      refine q_getI hC (by first | assumption | rfl) flX4_9 dX4_takeWord_1 ?_
      rw [g1]
      refine q_aload_n hC dX4_takeWord_4 ?_
      refine q_getR hC (by first | assumption | rfl) flX4_24 dX4_takeWord_5 ?_
      refine q_getI hC (by first | assumption | rfl) flX4_97 dX4_takeWord_8 ?_
      rw [hx1.2.2.1]
      refine q_icmp_ge hC 45 dX4_takeWord_11 (by decide) (fun hb => ?_) (fun hb => ?_)
      · exact fin a S1 hsa hF1 g1 g2 (by rw [← hsk, sk_stop (by omega)])
      · exact absurd (nI_le (by omega) (by omega)) hb
    | succ n ih =>
      intro a S1 hn hsa haL hF1 g1 g2 hsk
      have hx1 := hx.go (hF1.c 1) (hF1.c 2)
      refine q_aload_n hC dX4_takeWord_0 ?_
      refine q_getI hC (by first | assumption | rfl) flX4_9 dX4_takeWord_1 ?_
      rw [g1]
      refine q_aload_n hC dX4_takeWord_4 ?_
      refine q_getR hC (by first | assumption | rfl) flX4_24 dX4_takeWord_5 ?_
      refine q_getI hC (by first | assumption | rfl) flX4_97 dX4_takeWord_8 ?_
      rw [hx1.2.2.1]
      refine q_icmp_ge hC 45 dX4_takeWord_11 (by decide) (fun hb => ?_) (fun hb => ?_)
      · have : L ≤ a := (nI_leI (by omega) (by omega)).mp hb
        exact fin a S1 hsa hF1 g1 g2 (by rw [← hsk, sk_stop (by omega)])
      · have haL2 : a < L := by
          rcases Nat.lt_or_ge a L with h | h
          · exact h
          · exact absurd (nI_le h (by omega)) hb
        refine q_aload_n hC dX4_takeWord_14 ?_
        refine q_getR hC (by first | assumption | rfl) flX4_24 dX4_takeWord_15 ?_
        refine q_getR hC (by first | assumption | rfl) flX4_102 dX4_takeWord_18 ?_
        refine q_aload_n hC dX4_takeWord_21 ?_
        refine q_getI hC (by first | assumption | rfl) flX4_9 dX4_takeWord_22 ?_
        rw [g1]
        refine q_baldn hC (by first | assumption | rfl) (by first | assumption | omega) dX4_takeWord_25 ?_
        rw [hx1.2.2.2 a haL2]
        refine q_calliS1 hC csX4_106 dX4_takeWord_26 (c_isLetter θ _ (x a) (hx2 a)) (by decide) (fun r S1 hr => ?_)
        obtain ⟨rfl, rfl⟩ := hr
        by_cases hl : isL (x a) = true
        · rw [if_pos hl]
          refine q_if_eq hC 45 dX4_takeWord_29 (by decide) (fun hb2 => ?_) (fun hb2 => ?_)
          · exact absurd hb2 (by decide)
          · refine q_aload_n hC dX4_takeWord_32 ?_
            refine q_dup hC dX4_takeWord_33 rfl ?_
            refine q_getI hC (by first | assumption | rfl) flX4_9 dX4_takeWord_34 ?_
            rw [g1]
            refine q_iconst (v := nI 1) hC dX4_takeWord_37 (by decide) ?_
            refine q_iadd hC dX4_takeWord_38 ?_
            rw [nI_add]
            refine q_putI hC (by first | assumption | rfl) fpX4_9 dX4_takeWord_39 ?_
            refine q_goto hC 0 dX4_takeWord_42 (by decide) ?_
            exact ih (a + 1) _ (by omega) (by omega) (by omega) (hF1.trans Fr.u1) up_s (by rw [up_of (by decide)]; exact g2) (by rw [← hsk, sk_go haL2 hl])
        · rw [if_neg hl]
          refine q_if_eq hC 45 dX4_takeWord_29 (by decide) (fun hb2 => ?_) (fun hb2 => ?_)
          · exact fin a _ hsa hF1 g1 g2 (by rw [← hsk, sk_stop (c := fun i => isL (x i)) (fun z => hl z.2)])
          · exact absurd (by decide) hb2
  exact loop (L - s) s S (Nat.le_refl _) (Nat.le_refl _) hsL Fr.rfl' h3 h4 rfl
/-- Reader.takeNumber() -/
theorem c_takeNumber (θ : Site) (S : St) (s L : Nat) (x : Nat → Nat) (hx : TxR S L x) (h3 : S.1 3 3 = nI s) (h4 : S.1 3 4 = nI s) (hsL : s < L) (hd : isD (x s) = true) : Ctv yX4_takeNumber cX4_takeNumber 2 none 1 θ shX [.ref (sA θ 3)] S (fun S' => Fr S S' [3] ∧ S'.1 3 3 = nI (dEn L x s) ∧ S'.1 3 4 = nI s ∧ S'.1 3 5 = nI (nK L x s) ∧ S'.1 3 6 = nI (nval L x s)) := by
  have hL := hx.1
  have hx2 := hx.2.1
  have hwe := sk_le (c := fun i => isD (x i)) (Nat.le_of_lt hsL)
  refine Ctv.mk (own := RX4) 1 [some (.ref (sA θ 3)), none] (fun K hC => ?_)
  have fin : ∀ S1, Fr S S1 [3] → S1.1 3 3 = nI (dEn L x s) → S1.1 3 4 = nI s → S1.1 3 6 = nI (nval L x s) → K 82 [some (.ref (sA θ 3)), none] [] S1 := by
    intro S1 hF1 g1 g2 g3
    have hx1 := hx.go (hF1.c 1) (hF1.c 2)
    have hwe2 : s ≤ dEn L x s ∧ dEn L x s ≤ L := hwe
    have hvl := nvN_le x s (dEn L x s - s)
    have done : ∀ v, v = nK L x s → K 138 [some (.ref (sA θ 3)), some (.int (nI (if x s = 48 ∧ 1 < dEn L x s - s then 1 else 0)))] [.int (nI v), .ref (sA θ 3)] S1 := by
      intro v hv
      subst hv
      refine q_putI hC (by first | assumption | rfl) fpX4_18 dX4_takeNumber_138 ?_
      refine q_vret hC dX4_takeNumber_141 ?_
      exact ⟨hF1.trans Fr.u1, by rw [up_of (by decide)]; exact g1, by rw [up_of (by decide)]; exact g2, up_s, by rw [up_of (by decide)]; exact g3⟩
    have mid : K 117 [some (.ref (sA θ 3)), none] [.int (nI (if x s = 48 ∧ 1 < dEn L x s - s then 1 else 0))] S1 := by
      refine q_istore_1 hC dX4_takeNumber_117 ?_
      refine q_aload_n hC dX4_takeNumber_118 ?_
      refine q_iload_n hC dX4_takeNumber_119 ?_
      by_cases hz : x s = 48 ∧ 1 < dEn L x s - s
      · have d1 := done 8 (by unfold nK; rw [if_pos (Or.inl hz)])
        rw [if_pos hz] at d1 ⊢
        refine q_if_ne hC 132 dX4_takeNumber_120 (by decide) (fun hb => ?_) (fun hb => ?_)
        · refine q_bipush (v := nI 8) hC dX4_takeNumber_132 (by decide) ?_
          refine q_goto hC 138 dX4_takeNumber_134 (by decide) ?_
          exact d1
        · exact absurd hb (by decide)
      · have d2 := done
        rw [if_neg hz] at d2 ⊢
        refine q_if_ne hC 132 dX4_takeNumber_120 (by decide) (fun hb => ?_) (fun hb => ?_)
        · exact absurd rfl hb
        · refine q_aload_n hC dX4_takeNumber_123 ?_
          refine q_getI hC (by first | assumption | rfl) flX4_21 dX4_takeNumber_124 ?_
          rw [g3]
          refine q_bipush (v := nI 99) hC dX4_takeNumber_127 (by decide) ?_
          refine q_icmp_le hC 137 dX4_takeNumber_129 (by decide) (fun hb2 => ?_) (fun hb2 => ?_)
          · have h9 : ¬ 99 < nval L x s := by have := (nI_leI (a := nval L x s) (b := 99) (by unfold nval; omega) (by omega)).mp hb2; omega
            refine q_iconst (v := nI 1) hC dX4_takeNumber_137 (by decide) ?_
            exact d2 1 (by unfold nK; rw [if_neg (fun z => z.elim hz h9)])
          · have h9 : 99 < nval L x s := by
              rcases Nat.lt_or_ge 99 (nval L x s) with h | h
              · exact h
              · exact absurd (nI_le h (by omega)) hb2
            refine q_bipush (v := nI 8) hC dX4_takeNumber_132 (by decide) ?_
            refine q_goto hC 138 dX4_takeNumber_134 (by decide) ?_
            exact d2 8 (by unfold nK; rw [if_pos (Or.inr h9)])
    refine q_aload_n hC dX4_takeNumber_82 ?_
    refine q_getR hC (by first | assumption | rfl) flX4_24 dX4_takeNumber_83 ?_
    refine q_getR hC (by first | assumption | rfl) flX4_102 dX4_takeNumber_86 ?_
    refine q_aload_n hC dX4_takeNumber_89 ?_
    refine q_getI hC (by first | assumption | rfl) flX4_15 dX4_takeNumber_90 ?_
    rw [g2]
    refine q_baldn hC (by first | assumption | rfl) (by first | assumption | omega) dX4_takeNumber_93 ?_
    rw [hx1.2.2.2 s hsL]
    refine q_bipush (v := nI 48) hC dX4_takeNumber_94 (by decide) ?_
    refine q_icmp_ne hC 116 dX4_takeNumber_96 (by decide) (fun hb => ?_) (fun hb => ?_)
    · have h48 : ¬ x s = 48 := fun z => hb ((sb_eq (hx2 s) (by decide)).mpr z)
      rw [if_neg (fun z => h48 z.1)] at mid
      refine q_iconst (v := nI 0) hC dX4_takeNumber_116 (by decide) ?_
      exact mid
    · have h48 : x s = 48 := (sb_eq (hx2 s) (by decide)).mp hb
      refine q_aload_n hC dX4_takeNumber_99 ?_
      refine q_getI hC (by first | assumption | rfl) flX4_9 dX4_takeNumber_100 ?_
      rw [g1]
      refine q_aload_n hC dX4_takeNumber_103 ?_
      refine q_getI hC (by first | assumption | rfl) flX4_15 dX4_takeNumber_104 ?_
      rw [g2]
      refine q_isub hC dX4_takeNumber_107 ?_
      rw [pk_sub hwe2.1]
      refine q_iconst (v := nI 1) hC dX4_takeNumber_108 (by decide) ?_
      refine q_icmp_le hC 116 dX4_takeNumber_109 (by decide) (fun hb2 => ?_) (fun hb2 => ?_)
      · have h1 : ¬ 1 < dEn L x s - s := by have := (nI_leI (by omega) (by omega)).mp hb2; omega
        rw [if_neg (fun z => h1 z.2)] at mid
        refine q_iconst (v := nI 0) hC dX4_takeNumber_116 (by decide) ?_
        exact mid
      · have h1 : 1 < dEn L x s - s := by
          rcases Nat.lt_or_ge 1 (dEn L x s - s) with h | h
          · exact h
          · exact absurd (nI_le h (by omega)) hb2
        rw [if_pos ⟨h48, h1⟩] at mid
        refine q_iconst (v := nI 1) hC dX4_takeNumber_112 (by decide) ?_
        refine q_goto hC 117 dX4_takeNumber_113 (by decide) ?_
        exact mid
  have loop : ∀ n a S1, L - a ≤ n → s ≤ a → a ≤ L → Fr S S1 [3] → S1.1 3 3 = nI a → S1.1 3 4 = nI s → S1.1 3 6 = nI (nvN x s (a - s)) → sk (fun i => isD (x i)) L a = dEn L x s → K 5 [some (.ref (sA θ 3)), none] [] S1 := by
    intro n
    induction n with
    | zero =>
      intro a S1 hn hsa haL hF1 g1 g2 g3 hsk
      have hx1 := hx.go (hF1.c 1) (hF1.c 2)
      refine q_aload_n hC dX4_takeNumber_5 ?_
      refine q_getI hC (by first | assumption | rfl) flX4_9 dX4_takeNumber_6 ?_
      rw [g1]
      refine q_aload_n hC dX4_takeNumber_9 ?_
      refine q_getR hC (by first | assumption | rfl) flX4_24 dX4_takeNumber_10 ?_
      refine q_getI hC (by first | assumption | rfl) flX4_97 dX4_takeNumber_13 ?_
      rw [hx1.2.2.1]
      refine q_icmp_ge hC 82 dX4_takeNumber_16 (by decide) (fun hb => ?_) (fun hb => ?_)
      · have ha : a = dEn L x s := by rw [← hsk, sk_stop (by omega)]
        exact fin S1 hF1 (by rw [← ha]; exact g1) g2 (by unfold nval; rw [← ha]; exact g3)
      · exact absurd (nI_le (by omega) (by omega)) hb
    | succ n ih =>
      intro a S1 hn hsa haL hF1 g1 g2 g3 hsk
      have hx1 := hx.go (hF1.c 1) (hF1.c 2)
      have hvl := nvN_le x s (a - s)
      refine q_aload_n hC dX4_takeNumber_5 ?_
      refine q_getI hC (by first | assumption | rfl) flX4_9 dX4_takeNumber_6 ?_
      rw [g1]
      refine q_aload_n hC dX4_takeNumber_9 ?_
      refine q_getR hC (by first | assumption | rfl) flX4_24 dX4_takeNumber_10 ?_
      refine q_getI hC (by first | assumption | rfl) flX4_97 dX4_takeNumber_13 ?_
      rw [hx1.2.2.1]
      refine q_icmp_ge hC 82 dX4_takeNumber_16 (by decide) (fun hb => ?_) (fun hb => ?_)
      · have : L ≤ a := (nI_leI (by omega) (by omega)).mp hb
        have ha : a = dEn L x s := by rw [← hsk, sk_stop (by omega)]
        exact fin S1 hF1 (by rw [← ha]; exact g1) g2 (by unfold nval; rw [← ha]; exact g3)
      · have haL2 : a < L := by
          rcases Nat.lt_or_ge a L with h | h
          · exact h
          · exact absurd (nI_le h (by omega)) hb
        refine q_aload_n hC dX4_takeNumber_19 ?_
        refine q_getR hC (by first | assumption | rfl) flX4_24 dX4_takeNumber_20 ?_
        refine q_getR hC (by first | assumption | rfl) flX4_102 dX4_takeNumber_23 ?_
        refine q_aload_n hC dX4_takeNumber_26 ?_
        refine q_getI hC (by first | assumption | rfl) flX4_9 dX4_takeNumber_27 ?_
        rw [g1]
        refine q_baldn hC (by first | assumption | rfl) (by first | assumption | omega) dX4_takeNumber_30 ?_
        rw [hx1.2.2.2 a haL2]
        refine q_calliS1 hC csX4_113 dX4_takeNumber_31 (c_isDigit θ _ (x a) (hx2 a)) (by decide) (fun r S1 hr => ?_)
        obtain ⟨rfl, rfl⟩ := hr
        by_cases hl : isD (x a) = true
        · rw [if_pos hl]
          have hl2 : 48 ≤ x a ∧ x a ≤ 57 := by unfold isD at hl; simpa using hl
          refine q_if_eq hC 82 dX4_takeNumber_34 (by decide) (fun hb2 => ?_) (fun hb2 => ?_)
          · exact absurd hb2 (by decide)
          · refine q_aload_n hC dX4_takeNumber_37 ?_
            refine q_aload_n hC dX4_takeNumber_38 ?_
            refine q_getI hC (by first | assumption | rfl) flX4_21 dX4_takeNumber_39 ?_
            rw [g3]
            refine q_bipush (v := nI 10) hC dX4_takeNumber_42 (by decide) ?_
            refine q_imul hC dX4_takeNumber_44 ?_
            rw [pk_mul]
            refine q_aload_n hC dX4_takeNumber_45 ?_
            refine q_getR hC (by first | assumption | rfl) flX4_24 dX4_takeNumber_46 ?_
            refine q_getR hC (by first | assumption | rfl) flX4_102 dX4_takeNumber_49 ?_
            refine q_aload_n hC dX4_takeNumber_52 ?_
            refine q_getI hC (by first | assumption | rfl) flX4_9 dX4_takeNumber_53 ?_
            rw [g1]
            refine q_baldn hC (by first | assumption | rfl) (by first | assumption | omega) dX4_takeNumber_56 ?_
            rw [hx1.2.2.2 a haL2, sb_nI (by omega)]
            refine q_iadd hC dX4_takeNumber_57 ?_
            rw [nI_add]
            refine q_bipush (v := nI 48) hC dX4_takeNumber_58 (by decide) ?_
            refine q_isub hC dX4_takeNumber_60 ?_
            rw [pk_sub (by omega)]
            refine q_bipush (v := nI 100) hC dX4_takeNumber_61 (by decide) ?_
            refine q_min hC mlX4_133 (by decide) dX4_takeNumber_63 ?_
            have e : (if nI 100 < nI (nvN x s (a - s) * 10 + x a - 48) then nI 100 else nI (nvN x s (a - s) * 10 + x a - 48)) = nI (nvN x s (a + 1 - s)) := by
              rw [show a + 1 - s = (a - s) + 1 by omega]
              simp only [nvN]
              rw [show s + (a - s) = a by omega]
              by_cases h7 : 100 < nvN x s (a - s) * 10 + (x a - 48)
              · rw [if_pos h7, if_pos (nI_lt (by omega) (by omega))]
              · rw [if_neg h7, if_neg (nI_nlt (by omega) (by omega))]
                congr 1; omega
            rw [e]
            refine q_putI hC (by first | assumption | rfl) fpX4_21 dX4_takeNumber_66 ?_
            refine q_aload_n hC dX4_takeNumber_69 ?_
            refine q_dup hC dX4_takeNumber_70 rfl ?_
            refine q_getI hC (by first | assumption | rfl) flX4_9 dX4_takeNumber_71 ?_
            rw [up_of (by decide), g1]
            refine q_iconst (v := nI 1) hC dX4_takeNumber_74 (by decide) ?_
            refine q_iadd hC dX4_takeNumber_75 ?_
            rw [nI_add]
            refine q_putI hC (by first | assumption | rfl) fpX4_9 dX4_takeNumber_76 ?_
            refine q_goto hC 5 dX4_takeNumber_79 (by decide) ?_
            refine ih (a + 1) _ (by omega) (by omega) (by omega) (hF1.trans (Fr.trans Fr.u1 Fr.u1)) up_s ?_ ?_ (by rw [← hsk, sk_go haL2 hl])
            · rw [up_of (by decide), up_of (by decide)]; exact g2
            · rw [up_of (by decide), up_s]
        · rw [if_neg hl]
          refine q_if_eq hC 82 dX4_takeNumber_34 (by decide) (fun hb2 => ?_) (fun hb2 => ?_)
          · have ha : a = dEn L x s := by rw [← hsk, sk_stop (c := fun i => isD (x i)) (fun z => hl z.2)]
            exact fin _ hF1 (by rw [← ha]; exact g1) g2 (by unfold nval; rw [← ha]; exact g3)
          · exact absurd (by decide) hb2
  refine q_aload_n hC dX4_takeNumber_0 ?_
  refine q_iconst (v := nI 0) hC dX4_takeNumber_1 (by decide) ?_
  refine q_putI hC (by first | assumption | rfl) fpX4_21 dX4_takeNumber_2 ?_
  refine loop (L - s) s _ (Nat.le_refl _) (Nat.le_refl _) (by omega) Fr.u1 ?_ ?_ ?_ rfl
  · rw [up_of (by decide)]; exact h3
  · rw [up_of (by decide)]; exact h4
  · rw [up_s, Nat.sub_self]; rfl
/-- Reader.nextToken() -/
theorem c_nextToken (θ : Site) (S : St) (a0 L : Nat) (x : Nat → Nat) (hx : TxR S L x) (h3 : S.1 3 3 = nI a0) (haL : a0 ≤ L) : Ctv yX4_nextToken cX4_nextToken 1 none 6 θ shX [.ref (sA θ 3)] S (fun S' => Fr S S' [3] ∧ S'.1 3 3 = nI (tkE L x a0) ∧ S'.1 3 4 = nI (tkS L x a0) ∧ S'.1 3 5 = nI (tkK L x a0) ∧ (tkK L x a0 = 1 → S'.1 3 6 = nI (tkV L x a0))) := by
  have hL := hx.1
  have hx2 := hx.2.1
  refine Ctv.mk (own := RX4) 0 [some (.ref (sA θ 3))] (fun K hC => ?_)
  have fin : ∀ s S1, s = tkS L x a0 → s ≤ L → Fr S S1 [3] → S1.1 3 3 = nI s → K 44 [some (.ref (sA θ 3))] [] S1 := by
    intro s S1 hs hsL hF1 g1
    have done : ∀ S2, Fr S S2 [3] → S2.1 3 3 = nI (eAt L x s) → S2.1 3 4 = nI s → S2.1 3 5 = nI (kAt L x s) → (kAt L x s = 1 → S2.1 3 6 = nI (nval L x s)) → K 161 [some (.ref (sA θ 3))] [] S2 := by
      intro S2 hF2 k1 k2 k3 k4
      refine q_vret hC dX4_nextToken_161 ?_
      unfold tkE tkK tkV
      rw [← hs]
      exact ⟨hF2, k1, k2, k3, k4⟩
    refine q_aload_n hC dX4_nextToken_44 ?_
    refine q_aload_n hC dX4_nextToken_45 ?_
    refine q_getI hC (by first | assumption | rfl) flX4_9 dX4_nextToken_46 ?_
    rw [g1]
    refine q_putI hC (by first | assumption | rfl) fpX4_15 dX4_nextToken_49 ?_
    refine q_aload_n hC dX4_nextToken_52 ?_
    refine q_getI hC (by first | assumption | rfl) flX4_9 dX4_nextToken_53 ?_
    rw [up_of (by decide), g1]
    have hF2 : Fr S (up S1 3 4 (nI s)) [3] := hF1.trans Fr.u1
    have hx1 := hx.go (hF2.c 1) (hF2.c 2)
    have g3 : (up S1 3 4 (nI s)).1 3 3 = nI s := by rw [up_of (by decide)]; exact g1
    have g4 : (up S1 3 4 (nI s)).1 3 4 = nI s := up_s
    generalize up S1 3 4 (nI s) = S2 at hF2 hx1 g3 g4 ⊢
    refine q_aload_n hC dX4_nextToken_56 ?_
    refine q_getR hC (by first | assumption | rfl) flX4_24 dX4_nextToken_57 ?_
    refine q_getI hC (by first | assumption | rfl) flX4_97 dX4_nextToken_60 ?_
    rw [hx1.2.2.1]
    refine q_icmp_lt hC 74 dX4_nextToken_63 (by decide) (fun hb => ?_) (fun hb => ?_)
    · have hsL2 : s < L := (nI_ltI (by omega) (by omega)).mp hb
      refine q_aload_n hC dX4_nextToken_74 ?_
      refine q_getR hC (by first | assumption | rfl) flX4_24 dX4_nextToken_75 ?_
      refine q_getR hC (by first | assumption | rfl) flX4_102 dX4_nextToken_78 ?_
      refine q_aload_n hC dX4_nextToken_81 ?_
      refine q_getI hC (by first | assumption | rfl) flX4_9 dX4_nextToken_82 ?_
      rw [g3]
      refine q_baldn hC (by first | assumption | rfl) (by first | assumption | omega) dX4_nextToken_85 ?_
      rw [hx1.2.2.2 s hsL2]
      refine q_calliS1 hC csX4_106 dX4_nextToken_86 (c_isLetter θ _ (x s) (hx2 s)) (by decide) (fun r S1 hr => ?_)
      obtain ⟨rfl, rfl⟩ := hr
      by_cases hl : isL (x s) = true
      · rw [if_pos hl]
        refine q_if_eq hC 99 dX4_nextToken_89 (by decide) (fun hb2 => ?_) (fun hb2 => ?_)
        · exact absurd hb2 (by decide)
        · refine q_aload_n hC dX4_nextToken_92 ?_
          refine q_callvV0 hC (by first | assumption | rfl) cvX4_110 dX4_nextToken_93 (c_takeWord θ _ s L x hx1 g3 g4 hsL) (by decide) (fun S3 hr3 => ?_)
          obtain ⟨hF3, k1, k2, k3⟩ := hr3
          refine q_goto hC 161 dX4_nextToken_96 (by decide) ?_
          have w1 := wK_le x s (wEn L x s)
          refine done S3 (hF2.trans hF3) (by unfold eAt; rw [if_pos hsL2, if_pos hl]; exact k1) k2 (by unfold kAt; rw [if_pos hsL2, if_pos hl]; exact k3) (fun z => ?_)
          unfold kAt at z
          rw [if_pos hsL2, if_pos hl] at z
          omega
      · rw [if_neg hl]
        refine q_if_eq hC 99 dX4_nextToken_89 (by decide) (fun hb2 => ?_) (fun hb2 => ?_)
        · refine q_aload_n hC dX4_nextToken_99 ?_
          refine q_getR hC (by first | assumption | rfl) flX4_24 dX4_nextToken_100 ?_
          refine q_getR hC (by first | assumption | rfl) flX4_102 dX4_nextToken_103 ?_
          refine q_aload_n hC dX4_nextToken_106 ?_
          refine q_getI hC (by first | assumption | rfl) flX4_9 dX4_nextToken_107 ?_
          rw [g3]
          refine q_baldn hC (by first | assumption | rfl) (by first | assumption | omega) dX4_nextToken_110 ?_
          rw [hx1.2.2.2 s hsL2]
          refine q_calliS1 hC csX4_113 dX4_nextToken_111 (c_isDigit θ _ (x s) (hx2 s)) (by decide) (fun r S1 hr => ?_)
          obtain ⟨rfl, rfl⟩ := hr
          by_cases hdg : isD (x s) = true
          · rw [if_pos hdg]
            refine q_if_eq hC 124 dX4_nextToken_114 (by decide) (fun hb3 => ?_) (fun hb3 => ?_)
            · exact absurd hb3 (by decide)
            · refine q_aload_n hC dX4_nextToken_117 ?_
              refine q_callvV0 hC (by first | assumption | rfl) cvX4_116 dX4_nextToken_118 (c_takeNumber θ _ s L x hx1 g3 g4 hsL2 hdg) (by decide) (fun S3 hr3 => ?_)
              obtain ⟨hF3, k1, k2, k3, k4⟩ := hr3
              refine q_goto hC 161 dX4_nextToken_121 (by decide) ?_
              exact done S3 (hF2.trans hF3) (by unfold eAt; rw [if_pos hsL2, if_neg hl, if_pos hdg]; exact k1) k2 (by unfold kAt; rw [if_pos hsL2, if_neg hl, if_pos hdg]; exact k3) (fun _ => k4)
          · rw [if_neg hdg]
            refine q_if_eq hC 124 dX4_nextToken_114 (by decide) (fun hb3 => ?_) (fun hb3 => ?_)
            · have e1 : eAt L x s = s + 1 := by unfold eAt; rw [if_pos hsL2, if_neg hl, if_neg hdg]
              have last : ∀ v, v = kAt L x s → v ≠ 1 → K 148 [some (.ref (sA θ 3))] [.int (nI v), .ref (sA θ 3)] S1 := by
                intro v hv hv1
                refine q_putI hC (by first | assumption | rfl) fpX4_18 dX4_nextToken_148 ?_
                refine q_aload_n hC dX4_nextToken_151 ?_
                refine q_dup hC dX4_nextToken_152 rfl ?_
                refine q_getI hC (by first | assumption | rfl) flX4_9 dX4_nextToken_153 ?_
                rw [up_of (by decide), g3]
                refine q_iconst (v := nI 1) hC dX4_nextToken_156 (by decide) ?_
                refine q_iadd hC dX4_nextToken_157 ?_
                rw [nI_add]
                refine q_putI hC (by first | assumption | rfl) fpX4_9 dX4_nextToken_158 ?_
                refine done _ (hF2.trans (Fr.trans Fr.u1 Fr.u1)) (by rw [up_s, e1]) ?_ ?_ (fun z => absurd (hv.trans z) hv1)
                · rw [up_of (by decide), up_of (by decide)]; exact g4
                · rw [up_of (by decide), up_s, hv]
              refine q_aload_n hC dX4_nextToken_124 ?_
              refine q_aload_n hC dX4_nextToken_125 ?_
              refine q_getR hC (by first | assumption | rfl) flX4_24 dX4_nextToken_126 ?_
              refine q_getR hC (by first | assumption | rfl) flX4_102 dX4_nextToken_129 ?_
              refine q_aload_n hC dX4_nextToken_132 ?_
              refine q_getI hC (by first | assumption | rfl) flX4_9 dX4_nextToken_133 ?_
              rw [g3]
              refine q_baldn hC (by first | assumption | rfl) (by first | assumption | omega) dX4_nextToken_136 ?_
              rw [hx1.2.2.2 s hsL2]
              refine q_bipush (v := nI 59) hC dX4_nextToken_137 (by decide) ?_
              refine q_icmp_ne hC 146 dX4_nextToken_139 (by decide) (fun hb4 => ?_) (fun hb4 => ?_)
              · have h59 : ¬ x s = 59 := fun z => hb4 ((sb_eq (hx2 s) (by decide)).mpr z)
                refine q_bipush (v := nI 8) hC dX4_nextToken_146 (by decide) ?_
                exact last 8 (by unfold kAt; rw [if_pos hsL2, if_neg hl, if_neg hdg, if_neg h59]) (by decide)
              · have h59 : x s = 59 := (sb_eq (hx2 s) (by decide)).mp hb4
                refine q_iconst (v := nI 2) hC dX4_nextToken_142 (by decide) ?_
                refine q_goto hC 148 dX4_nextToken_143 (by decide) ?_
                exact last 2 (by unfold kAt; rw [if_pos hsL2, if_neg hl, if_neg hdg, if_pos h59]) (by decide)
            · exact absurd (by decide) hb3
        · exact absurd (by decide) hb2
    · have hsL2 : ¬ s < L := fun z => hb (nI_lt z (by omega))
      refine q_aload_n hC dX4_nextToken_66 ?_
      refine q_iconst (v := nI 0) hC dX4_nextToken_67 (by decide) ?_
      refine q_putI hC (by first | assumption | rfl) fpX4_18 dX4_nextToken_68 ?_
      refine q_goto hC 161 dX4_nextToken_71 (by decide) ?_
      refine done _ (hF2.trans Fr.u1) ?_ ?_ ?_ ?_
      · rw [up_of (by decide), g3]; unfold eAt; rw [if_neg hsL2]
      · rw [up_of (by decide)]; exact g4
      · rw [up_s]; unfold kAt; rw [if_neg hsL2]
      · intro z; unfold kAt at z; rw [if_neg hsL2] at z; exact absurd z (by decide)
  have loop : ∀ n a S1, L - a ≤ n → a ≤ L → Fr S S1 [3] → S1.1 3 3 = nI a → sk (blk x) L a = tkS L x a0 → K 0 [some (.ref (sA θ 3))] [] S1 := by
    intro n
    induction n with
    | zero =>
      intro a S1 hn haL hF1 g1 hsk
      have hx1 := hx.go (hF1.c 1) (hF1.c 2)
      refine q_aload_n hC dX4_nextToken_0 ?_
      refine q_getI hC (by first | assumption | rfl) flX4_9 dX4_nextToken_1 ?_
      rw [g1]
      refine q_aload_n hC dX4_nextToken_4 ?_
      refine q_getR hC (by first | assumption | rfl) flX4_24 dX4_nextToken_5 ?_
      refine q_getI hC (by first | assumption | rfl) flX4_97 dX4_nextToken_8 ?_
      rw [hx1.2.2.1]
      refine q_icmp_ge hC 44 dX4_nextToken_11 (by decide) (fun hb => ?_) (fun hb => ?_)
      · exact fin a S1 (by rw [← hsk, sk_stop (by omega)]) haL hF1 g1
      · exact absurd (nI_le (by omega) (by omega)) hb
    | succ n ih =>
      intro a S1 hn haL hF1 g1 hsk
      have hx1 := hx.go (hF1.c 1) (hF1.c 2)
      refine q_aload_n hC dX4_nextToken_0 ?_
      refine q_getI hC (by first | assumption | rfl) flX4_9 dX4_nextToken_1 ?_
      rw [g1]
      refine q_aload_n hC dX4_nextToken_4 ?_
      refine q_getR hC (by first | assumption | rfl) flX4_24 dX4_nextToken_5 ?_
      refine q_getI hC (by first | assumption | rfl) flX4_97 dX4_nextToken_8 ?_
      rw [hx1.2.2.1]
      refine q_icmp_ge hC 44 dX4_nextToken_11 (by decide) (fun hb => ?_) (fun hb => ?_)
      · have : L ≤ a := (nI_leI (by omega) (by omega)).mp hb
        exact fin a S1 (by rw [← hsk, sk_stop (by omega)]) haL hF1 g1
      · have haL2 : a < L := by
          rcases Nat.lt_or_ge a L with h | h
          · exact h
          · exact absurd (nI_le h (by omega)) hb
        refine q_aload_n hC dX4_nextToken_14 ?_
        refine q_getR hC (by first | assumption | rfl) flX4_24 dX4_nextToken_15 ?_
        refine q_getR hC (by first | assumption | rfl) flX4_102 dX4_nextToken_18 ?_
        refine q_aload_n hC dX4_nextToken_21 ?_
        refine q_getI hC (by first | assumption | rfl) flX4_9 dX4_nextToken_22 ?_
        rw [g1]
        refine q_baldn hC (by first | assumption | rfl) (by first | assumption | omega) dX4_nextToken_25 ?_
        rw [hx1.2.2.2 a haL2]
        refine q_bipush (v := nI 32) hC dX4_nextToken_26 (by decide) ?_
        refine q_icmp_ne hC 44 dX4_nextToken_28 (by decide) (fun hb2 => ?_) (fun hb2 => ?_)
        · have h32 : ¬ blk x a = true := fun z => hb2 ((sb_eq (hx2 a) (by decide)).mpr (by unfold blk at z; simpa using z))
          exact fin a S1 (by rw [← hsk, sk_stop (fun z => h32 z.2)]) haL hF1 g1
        · have h32 : blk x a = true := by unfold blk; rw [decide_eq_true_eq]; exact (sb_eq (hx2 a) (by decide)).mp hb2
          refine q_aload_n hC dX4_nextToken_31 ?_
          refine q_dup hC dX4_nextToken_32 rfl ?_
          refine q_getI hC (by first | assumption | rfl) flX4_9 dX4_nextToken_33 ?_
          rw [g1]
          refine q_iconst (v := nI 1) hC dX4_nextToken_36 (by decide) ?_
          refine q_iadd hC dX4_nextToken_37 ?_
          rw [nI_add]
          refine q_putI hC (by first | assumption | rfl) fpX4_9 dX4_nextToken_38 ?_
          refine q_goto hC 0 dX4_nextToken_41 (by decide) ?_
          exact ih (a + 1) _ (by omega) (by omega) (hF1.trans Fr.u1) up_s (by rw [← hsk, sk_go haL2 h32])
  exact loop (L - a0) a0 S (Nat.le_refl _) haL Fr.rfl' h3 rfl
