/-- Exchanges.gains(owners, gives, gets) -/
theorem c_gains (θ : Site) (S : St) (q x y : Nat) (ow : Nat → Nat) (T : Tn) (hq : shX[q]? = some (.inl (0, 8))) (hok : TnOk T) (hT : TwR S 4 T) (hKn : KnR S T) (hO : OwR S q ow) (hOk : OwOk T ow) (hx : x < 8) (hy : y < 8) (hxy : x ≠ y) (h4 : ow x < 4) (hne : ow x ≠ ow y) : Cti yX1_gains cX1_gains 7 (some .boolean) 3 θ shX [.ref (sA θ 43), .ref (sA θ q), .int (nI x), .int (nI y)] S (fun r S' => r = nI (if gn T ow x y = true then 1 else 0) ∧ Fr S S' [37, 38] ∧ KnR S' T) := by
  have hF4 := hok.2.1
  have hf := hOk x h4
  have hl1 := om_lt ow (ow x)
  have hl2 := om_lt (exo ow x y) (ow x)
  have e1 := om_exo hx hy hxy hne
  refine Cti.mkz (own := RX1) 3 [some (.ref (sA θ 43)), some (.ref (sA θ q)), some (.int (nI x)), some (.int (nI y)), none, none, none] (fun K hC => ?_)
  refine q_aload_n hC dX1_gains_0 ?_
  refine q_iload_n hC dX1_gains_1 ?_
  refine q_ialdn hC (by first | assumption | rfl) (by first | assumption | omega) dX1_gains_2 ?_
  rw [hO x hx, clO_lt h4]
  refine q_istore_4 hC dX1_gains_3 ?_
  refine q_aload_n hC dX1_gains_5 ?_
  refine q_iload hC dX1_gains_6 ?_
  refine q_calliS2 hC csX1_47 dX1_gains_8 (c_ownedIn θ _ q _ hq) (by decide) (fun r S1 hr => ?_)
  obtain ⟨rfl, rfl⟩ := hr
  rw [om_get hO h4]
  refine q_istore_5 hC dX1_gains_11 ?_
  refine q_iload hC dX1_gains_13 ?_
  refine q_iconst (v := nI 1) hC dX1_gains_15 (by decide) ?_
  refine q_iload_n hC dX1_gains_16 ?_
  refine q_ishl hC dX1_gains_17 ?_
  rw [sh1 (by omega)]
  refine q_iconst (v := (-1)) hC dX1_gains_18 (by decide) ?_
  refine q_ixor hC dX1_gains_19 ?_
  refine q_iand hC dX1_gains_20 ?_
  refine q_iconst (v := nI 1) hC dX1_gains_21 (by decide) ?_
  refine q_iload_n hC dX1_gains_22 ?_
  refine q_ishl hC dX1_gains_23 ?_
  rw [sh1 (by omega)]
  refine q_ior hC dX1_gains_24 ?_
  have hb1 : om ow (ow x) / 2 ^ x % 2 = 1 := by unfold om; rw [msk_bit, if_pos ⟨hx, by simp⟩]
  have hb0 : om ow (ow x) / 2 ^ y % 2 = 0 := by unfold om; rw [msk_bit, if_neg (fun z => by have := z.2; simp at this; exact hne this.symm)]
  rw [msk_swap hl1 hx hy hb1 hb0, ← e1]
  refine q_istore_6 hC dX1_gains_25 ?_
  refine q_aload_n hC dX1_gains_27 ?_
  refine q_getR hC (by first | assumption | rfl) flX1_19 dX1_gains_28 ?_
  refine q_iload hC dX1_gains_31 ?_
  refine q_iload hC dX1_gains_33 ?_
  refine q_calliV2 hC (by first | assumption | rfl) cvX1_53 dX1_gains_35 (c_yards θ _ (ow x) _ T hok hT hKn hf hl2) (by decide) (fun r1 S1 hr1 => ?_)
  obtain ⟨rfl, hF1, hK1⟩ := hr1
  have hT1 := hT.fr4 hF1 rfl
  refine q_aload_n hC dX1_gains_38 ?_
  refine q_getR hC (by first | assumption | rfl) flX1_19 dX1_gains_39 ?_
  refine q_iload hC dX1_gains_42 ?_
  refine q_iload hC dX1_gains_44 ?_
  refine q_calliV2 hC (by first | assumption | rfl) cvX1_53 dX1_gains_46 (c_yards θ _ (ow x) _ T hok hT1 hK1 hf hl1) (by decide) (fun r2 S2 hr2 => ?_)
  obtain ⟨rfl, hF2, hK2⟩ := hr2
  have y1 := yd_bd hok (ow x) (om (exo ow x y) (ow x))
  have y2 := yd_bd hok (ow x) (om ow (ow x))
  refine q_icmp_ge hC 56 dX1_gains_49 (by decide) (fun hb => ?_) (fun hb => ?_)
  · have h9 : ¬ gn T ow x y = true := by
      have := (nI_leI (by omega) (by omega)).mp hb
      unfold gn; simp only [decide_eq_true_eq]; omega
    refine q_iconst (v := nI 0) hC dX1_gains_56 (by decide) ?_
    refine q_iret hC dX1_gains_57 ?_
    exact ⟨⟨by rw [if_neg h9], hF1.trans hF2, hK2⟩, by decide⟩
  · have h9 : gn T ow x y = true := by
      unfold gn; simp only [decide_eq_true_eq]
      rcases Nat.lt_or_ge (yd T (ow x) (om (exo ow x y) (ow x))) (yd T (ow x) (om ow (ow x))) with h | h
      · exact h
      · exact absurd (nI_le h (by omega)) hb
    refine q_iconst (v := nI 1) hC dX1_gains_52 (by decide) ?_
    refine q_goto hC 57 dX1_gains_53 (by decide) ?_
    refine q_iret hC dX1_gains_57 ?_
    exact ⟨⟨by rw [if_pos h9], hF1.trans hF2, hK2⟩, by decide⟩
/-- Exchanges.firstOf(owners) -/
theorem c_firstOf (θ : Site) (S : St) (q : Nat) (ow : Nat → Nat) (T : Tn) (hq : shX[q]? = some (.inl (0, 8))) (hq2 : q ∉ [37, 38]) (hok : TnOk T) (hT : TwR S 4 T) (hKn : KnR S T) (hO : OwR S q ow) (hOk : OwOk T ow) : Cti yX1_firstOf cX1_firstOf 5 (some .int) 4 θ shX [.ref (sA θ 43), .ref (sA θ q)] S (fun r S' => r = oNone (chg T ow) ∧ Fr S S' [37, 38] ∧ KnR S' T) := by
  have h8 := hok.1
  refine Cti.mk (own := RX1) 3 [some (.ref (sA θ 43)), some (.ref (sA θ q)), none, none, none] (fun K hC => ?_)
  have outer : ∀ n p S1 l3 l4, p + n = tP T → Fr S S1 [37, 38] → KnR S1 T → chg T ow = chp T ow n p → K 2 [some (.ref (sA θ 43)), some (.ref (sA θ q)), some (.int (nI p)), l3, l4] [] S1 := by
    intro n
    induction n with
    | zero =>
      intro p S1 l3 l4 hp hF1 hK1 hc
      have e : p = tP T := by omega
      subst e
      have hT1 := hT.fr4 hF1 rfl
      refine q_iload_n hC dX1_firstOf_2 ?_
      refine q_aload_n hC dX1_firstOf_3 ?_
      refine q_getR hC (by first | assumption | rfl) flX1_15 dX1_firstOf_4 ?_
      refine q_getI hC (by first | assumption | rfl) flX1_23 dX1_firstOf_7 ?_
      rw [hT1.1]
      refine q_icmp_ge hC 104 dX1_firstOf_10 (by decide) (fun hb => ?_) (fun hb => ?_)
      · refine q_bipush (v := (-9)) hC dX1_firstOf_104 (by decide) ?_
        refine q_iret hC dX1_firstOf_106 ?_
        exact ⟨by rw [hc]; rfl, hF1, hK1⟩
      · exact absurd (nI_le (Nat.le_refl _) (by omega)) hb
    | succ n ih =>
      intro p S1 l3 l4 hp hF1 hK1 hc
      have hT1 := hT.fr4 hF1 rfl
      refine q_iload_n hC dX1_firstOf_2 ?_
      refine q_aload_n hC dX1_firstOf_3 ?_
      refine q_getR hC (by first | assumption | rfl) flX1_15 dX1_firstOf_4 ?_
      refine q_getI hC (by first | assumption | rfl) flX1_23 dX1_firstOf_7 ?_
      rw [hT1.1]
      refine q_icmp_ge hC 104 dX1_firstOf_10 (by decide) (fun hb => ?_) (fun hb => ?_)
      · exact absurd ((nI_leI (by omega) (by omega)).mp hb) (by omega)
      · have inner : ∀ k y S2 l4, y + k = tP T → p < y → Fr S S2 [37, 38] → KnR S2 T → chg T ow = (chq T ow p k y).or (chp T ow n (p + 1)) → K 17 [some (.ref (sA θ 43)), some (.ref (sA θ q)), some (.int (nI p)), some (.int (nI y)), l4] [] S2 := by
          intro k
          induction k with
          | zero =>
            intro y S2 l4 hy hpy hF2 hK2 hc2
            have e : y = tP T := by omega
            subst e
            have hT2 := hT.fr4 hF2 rfl
            refine q_iload_n hC dX1_firstOf_17 ?_
            refine q_aload_n hC dX1_firstOf_18 ?_
            refine q_getR hC (by first | assumption | rfl) flX1_15 dX1_firstOf_19 ?_
            refine q_getI hC (by first | assumption | rfl) flX1_23 dX1_firstOf_22 ?_
            rw [hT2.1]
            refine q_icmp_ge hC 98 dX1_firstOf_25 (by decide) (fun hb3 => ?_) (fun hb3 => ?_)
            · refine q_inc1_2 hC dX1_firstOf_98 ?_
              refine q_goto hC 2 dX1_firstOf_101 (by decide) ?_
              exact ih (p + 1) S2 _ _ (by omega) hF2 hK2 hc2
            · exact absurd (nI_le (Nat.le_refl _) (by omega)) hb3
          | succ k ihk =>
            intro y S2 l4 hy hpy hF2 hK2 hc2
            have hT2 := hT.fr4 hF2 rfl
            have hO2 : OwR S2 q ow := fun x hx => by rw [hF2.1 q hq2]; exact hO x hx
            have next : ∀ S3 l4, chk T ow p y = false → Fr S S3 [37, 38] → KnR S3 T → K 92 [some (.ref (sA θ 43)), some (.ref (sA θ q)), some (.int (nI p)), some (.int (nI y)), l4] [] S3 := by
              intro S3 l4 hcf hF3 hK3
              refine q_inc1_3 hC dX1_firstOf_92 ?_
              refine q_goto hC 17 dX1_firstOf_95 (by decide) ?_
              exact ihk (y + 1) S3 _ (by omega) (by omega) hF3 hK3 (by rw [hc2]; simp [chq, hcf])
            have no : chk T ow p y = false → K 57 [some (.ref (sA θ 43)), some (.ref (sA θ q)), some (.int (nI p)), some (.int (nI y)), l4] [] S2 := by
              intro hcf
              refine q_iconst (v := nI 0) hC dX1_firstOf_57 (by decide) ?_
              refine q_istore_4 hC dX1_firstOf_58 ?_
              refine q_iload hC dX1_firstOf_60 ?_
              refine q_if_eq hC 92 dX1_firstOf_62 (by decide) (fun hb9 => ?_) (fun hb9 => ?_)
              · exact next S2 _ hcf hF2 hK2
              · exact absurd (by decide) hb9
            refine q_iload_n hC dX1_firstOf_17 ?_
            refine q_aload_n hC dX1_firstOf_18 ?_
            refine q_getR hC (by first | assumption | rfl) flX1_15 dX1_firstOf_19 ?_
            refine q_getI hC (by first | assumption | rfl) flX1_23 dX1_firstOf_22 ?_
            rw [hT2.1]
            refine q_icmp_ge hC 98 dX1_firstOf_25 (by decide) (fun hb3 => ?_) (fun hb3 => ?_)
            · exact absurd ((nI_leI (by omega) (by omega)).mp hb3) (by omega)
            · refine q_aload_n hC dX1_firstOf_28 ?_
              refine q_iload_n hC dX1_firstOf_29 ?_
              refine q_ialdn hC (by first | assumption | rfl) (by first | assumption | omega) dX1_firstOf_30 ?_
              rw [hO2 p (by omega)]
              refine q_bipush (v := (-9)) hC dX1_firstOf_31 (by decide) ?_
              refine q_icmp_eq hC 57 dX1_firstOf_33 (by decide) (fun hb4 => ?_) (fun hb4 => ?_)
              · exact no (by have := clO_none.mp hb4; simp [chk, this])
              · have hp4 : ow p < 4 := by
                  rcases Nat.lt_or_ge (ow p) 4 with h | h
                  · exact h
                  · exact absurd (clO_none.mpr (by omega)) hb4
                refine q_aload_n hC dX1_firstOf_36 ?_
                refine q_iload_n hC dX1_firstOf_37 ?_
                refine q_ialdn hC (by first | assumption | rfl) (by first | assumption | omega) dX1_firstOf_38 ?_
                rw [hO2 y (by omega)]
                refine q_bipush (v := (-9)) hC dX1_firstOf_39 (by decide) ?_
                refine q_icmp_eq hC 57 dX1_firstOf_41 (by decide) (fun hb5 => ?_) (fun hb5 => ?_)
                · exact no (by have := clO_none.mp hb5; simp [chk, this])
                · have hy4 : ow y < 4 := by
                    rcases Nat.lt_or_ge (ow y) 4 with h | h
                    · exact h
                    · exact absurd (clO_none.mpr (by omega)) hb5
                  refine q_aload_n hC dX1_firstOf_44 ?_
                  refine q_iload_n hC dX1_firstOf_45 ?_
                  refine q_ialdn hC (by first | assumption | rfl) (by first | assumption | omega) dX1_firstOf_46 ?_
                  refine q_aload_n hC dX1_firstOf_47 ?_
                  refine q_iload_n hC dX1_firstOf_48 ?_
                  refine q_ialdn hC (by first | assumption | rfl) (by first | assumption | omega) dX1_firstOf_49 ?_
                  rw [hO2 p (by omega), hO2 y (by omega), clO_lt hp4, clO_lt hy4]
                  refine q_icmp_eq hC 57 dX1_firstOf_50 (by decide) (fun hb6 => ?_) (fun hb6 => ?_)
                  · exact no (by have := nI_small (by omega) (by omega) hb6; simp [chk, this])
                  · have hne : ow p ≠ ow y := fun z => hb6 (by rw [z])
                    refine q_iconst (v := nI 1) hC dX1_firstOf_53 (by decide) ?_
                    refine q_goto hC 58 dX1_firstOf_54 (by decide) ?_
                    refine q_istore_4 hC dX1_firstOf_58 ?_
                    refine q_iload hC dX1_firstOf_60 ?_
                    refine q_if_eq hC 92 dX1_firstOf_62 (by decide) (fun hb7 => ?_) (fun hb7 => ?_)
                    · exact absurd hb7 (by decide)
                    · refine q_aload_n hC dX1_firstOf_65 ?_
                      refine q_aload_n hC dX1_firstOf_66 ?_
                      refine q_iload_n hC dX1_firstOf_67 ?_
                      refine q_iload_n hC dX1_firstOf_68 ?_
                      refine q_calliV3 hC (by first | assumption | rfl) cvX1_29 dX1_firstOf_69 (c_gains θ _ q p y ow T hq hok hT2 hK2 hO2 hOk (by omega) (by omega) (by omega) hp4 hne) (by decide) (fun r3 S3 hr3 => ?_)
                      obtain ⟨rfl, hF3, hK3⟩ := hr3
                      have hF23 := hF2.trans hF3
                      by_cases hg : gn T ow p y = true
                      · rw [if_pos hg]
                        refine q_if_eq hC 92 dX1_firstOf_72 (by decide) (fun hb8 => ?_) (fun hb8 => ?_)
                        · exact absurd hb8 (by decide)
                        · have hT3 := hT.fr4 hF23 rfl
                          have hO3 : OwR S3 q ow := fun x hx => by rw [hF23.1 q hq2]; exact hO x hx
                          refine q_aload_n hC dX1_firstOf_75 ?_
                          refine q_aload_n hC dX1_firstOf_76 ?_
                          refine q_iload_n hC dX1_firstOf_77 ?_
                          refine q_iload_n hC dX1_firstOf_78 ?_
                          refine q_calliV3 hC (by first | assumption | rfl) cvX1_29 dX1_firstOf_79 (c_gains θ _ q y p ow T hq hok hT3 hK3 hO3 hOk (by omega) (by omega) (by omega) hy4 (Ne.symm hne)) (by decide) (fun r4 S4 hr4 => ?_)
                          obtain ⟨rfl, hF4', hK4⟩ := hr4
                          have hF24 := hF23.trans hF4'
                          by_cases hg2 : gn T ow y p = true
                          · rw [if_pos hg2]
                            refine q_if_eq hC 92 dX1_firstOf_82 (by decide) (fun hb9 => ?_) (fun hb9 => ?_)
                            · exact absurd hb9 (by decide)
                            · refine q_bipush (v := nI 10) hC dX1_firstOf_85 (by decide) ?_
                              refine q_iload_n hC dX1_firstOf_87 ?_
                              refine q_imul hC dX1_firstOf_88 ?_
                              rw [pk_mul]
                              refine q_iload_n hC dX1_firstOf_89 ?_
                              refine q_iadd hC dX1_firstOf_90 ?_
                              rw [nI_add]
                              refine q_iret hC dX1_firstOf_91 ?_
                              refine ⟨?_, hF24, hK4⟩
                              rw [hc2]
                              simp [chq, chk, hp4, hy4, hne, hg, hg2, oNone]
                          · rw [if_neg hg2]
                            refine q_if_eq hC 92 dX1_firstOf_82 (by decide) (fun hb9 => ?_) (fun hb9 => ?_)
                            · exact next S4 _ (by simp [chk, hg2]) hF24 hK4
                            · exact absurd (by decide) hb9
                      · rw [if_neg hg]
                        refine q_if_eq hC 92 dX1_firstOf_72 (by decide) (fun hb8 => ?_) (fun hb8 => ?_)
                        · exact next S3 _ (by simp [chk, hg]) hF23 hK3
                        · exact absurd (by decide) hb8
        refine q_iload_n hC dX1_firstOf_13 ?_
        refine q_iconst (v := nI 1) hC dX1_firstOf_14 (by decide) ?_
        refine q_iadd hC dX1_firstOf_15 ?_
        rw [nI_add]
        refine q_istore_3 hC dX1_firstOf_16 ?_
        exact inner (tP T - (p + 1)) (p + 1) S1 _ (by omega) (by omega) hF1 hK1 hc
  refine q_iconst (v := nI 0) hC dX1_firstOf_0 (by decide) ?_
  refine q_istore_2 hC dX1_firstOf_1 ?_
  exact outer (tP T) 0 S _ _ (by omega) Fr.rfl' hKn rfl
theorem c_exchange (θ : Site) (S : St) (x y : Nat) (ow : Nat → Nat) (hO : OwR S 44 ow) (hx : x < 8) (hy : y < 8) (hxy : x ≠ y) : Ctv yX1_exchange cX1_exchange 4 none 0 θ shX [.ref (sA θ 43), .int (nI x), .int (nI y)] S (fun S' => Fr S S' [44] ∧ OwR S' 44 (exo ow x y)) := by
  refine Ctv.mk (own := RX1) 1 [some (.ref (sA θ 43)), some (.int (nI x)), some (.int (nI y)), none] (fun K hC => ?_)
  refine q_aload_n hC dX1_exchange_0 ?_
  refine q_getR hC (by first | assumption | rfl) flX1_9 dX1_exchange_1 ?_
  refine q_iload_n hC dX1_exchange_4 ?_
  refine q_ialdn hC (by first | assumption | rfl) (by first | assumption | omega) dX1_exchange_5 ?_
  refine q_istore_3 hC dX1_exchange_6 ?_
  refine q_aload_n hC dX1_exchange_7 ?_
  refine q_getR hC (by first | assumption | rfl) flX1_9 dX1_exchange_8 ?_
  refine q_iload_n hC dX1_exchange_11 ?_
  refine q_aload_n hC dX1_exchange_12 ?_
  refine q_getR hC (by first | assumption | rfl) flX1_9 dX1_exchange_13 ?_
  refine q_iload_n hC dX1_exchange_16 ?_
  refine q_ialdn hC (by first | assumption | rfl) (by first | assumption | omega) dX1_exchange_17 ?_
  refine q_iastn hC (by first | assumption | rfl) (by first | assumption | omega) dX1_exchange_18 ?_
  refine q_aload_n hC dX1_exchange_19 ?_
  refine q_getR hC (by first | assumption | rfl) flX1_9 dX1_exchange_20 ?_
  refine q_iload_n hC dX1_exchange_23 ?_
  refine q_iload_n hC dX1_exchange_24 ?_
  refine q_iastn hC (by first | assumption | rfl) (by first | assumption | omega) dX1_exchange_25 ?_
  refine q_vret hC dX1_exchange_26 ?_
  refine ⟨Fr.trans Fr.u1 Fr.u1, fun p hp => ?_⟩
  by_cases e2 : p = y
  · subst e2; rw [up_s, exo_q, hO x hx]
  · rw [up_of e2]
    by_cases e1 : p = x
    · subst e1; rw [up_s, exo_p e2, hO y hy]
    · rw [up_of e1, exo_o e1 e2, hO p hp]
/-- Exchanges.numberOf(owners) -/
theorem c_numberOf (θ : Site) (S : St) (q : Nat) (ow : Nat → Nat) (T : Tn) (hq : shX[q]? = some (.inl (0, 8))) (hok : TnOk T) (hT : TwR S 4 T) (hKn : KnR S T) (hO : OwR S q ow) (hOk : OwOk T ow) : Cti yX1_numberOf cX1_numberOf 4 (some .int) 5 θ shX [.ref (sA θ 43), .ref (sA θ q)] S (fun r S' => r = nI (rs T ow) ∧ Fr S S' [37, 38, 44] ∧ KnR S' T) := by
  have h8 := hok.1
  refine Cti.mk (own := RX1) 2 [some (.ref (sA θ 43)), some (.ref (sA θ q)), none, none] (fun K hC => ?_)
  have loop : ∀ n k o2 S1, mu T o2 ≤ n → k + mu T o2 ≤ 9624 → Fr S S1 [37, 38, 44] → KnR S1 T → OwR S1 44 o2 → OwOk T o2 → rs T ow = k + rs T o2 → K 23 [some (.ref (sA θ 43)), some (.ref (sA θ q)), some (.int (oNone (chg T o2))), some (.int (nI k))] [] S1 := by
    intro n
    induction n with
    | zero =>
      intro k o2 S1 hmu hk hF1 hK1 hO1 hOk1 hrs
      cases hc : chg T o2 with
      | none =>
        refine q_iload_n hC dX1_numberOf_23 ?_
        refine q_bipush (v := (-9)) hC dX1_numberOf_24 (by decide) ?_
        refine q_icmp_eq hC 63 dX1_numberOf_26 (by decide) (fun hb => ?_) (fun hb => ?_)
        · refine q_iload_n hC dX1_numberOf_63 ?_
          refine q_iret hC dX1_numberOf_64 ?_
          exact ⟨by rw [hrs, rs_none hc]; rfl, hF1, hK1⟩
        · exact absurd rfl hb
      | some r =>
        obtain ⟨x, y, h1, h2, h3, h4⟩ := chg_some hc
        have := mu_lt hok (by omega) h4
        omega
    | succ n ih =>
      intro k o2 S1 hmu hk hF1 hK1 hO1 hOk1 hrs
      cases hc : chg T o2 with
      | none =>
        refine q_iload_n hC dX1_numberOf_23 ?_
        refine q_bipush (v := (-9)) hC dX1_numberOf_24 (by decide) ?_
        refine q_icmp_eq hC 63 dX1_numberOf_26 (by decide) (fun hb => ?_) (fun hb => ?_)
        · refine q_iload_n hC dX1_numberOf_63 ?_
          refine q_iret hC dX1_numberOf_64 ?_
          exact ⟨by rw [hrs, rs_none hc]; rfl, hF1, hK1⟩
        · exact absurd rfl hb
      | some r =>
        obtain ⟨x, y, h1, h2, h3, h4⟩ := chg_some hc
        have hlt := mu_lt hok (show x ≠ y by omega) h4
        have hrs2 := rs_some hok hc
        obtain ⟨e1, e2⟩ := r_div (x := x) (y := y) (by omega)
        rw [← h3] at e1 e2
        rw [e1, e2] at hrs2
        have hr80 : r < 80 := by omega
        refine q_iload_n hC dX1_numberOf_23 ?_
        refine q_bipush (v := (-9)) hC dX1_numberOf_24 (by decide) ?_
        refine q_icmp_eq hC 63 dX1_numberOf_26 (by decide) (fun hb => ?_) (fun hb => ?_)
        · have : ∀ r, r < 80 → ¬ (nI r = (-9 : Int32)) := by decide
          exact absurd hb (this r hr80)
        · refine q_iload_n hC dX1_numberOf_29 ?_
          refine q_sipush (v := nI 10000) hC dX1_numberOf_30 (by decide) ?_
          refine q_icmp_ge hC 63 dX1_numberOf_33 (by decide) (fun hb2 => ?_) (fun hb2 => ?_)
          · exact absurd ((nI_leI (by omega) (by omega)).mp hb2) (by omega)
          · refine q_aload_n hC dX1_numberOf_36 ?_
            refine q_iload_n hC dX1_numberOf_37 ?_
            refine q_bipush (v := nI 10) hC dX1_numberOf_38 (by decide) ?_
            refine q_idiv hC dX1_numberOf_40 (by decide) ?_
            rw [show oNone (some r) = nI r from rfl, pk_div (by omega) (by omega) (by omega), e1]
            refine q_iload_n hC dX1_numberOf_41 ?_
            refine q_bipush (v := nI 10) hC dX1_numberOf_42 (by decide) ?_
            refine q_irem hC dX1_numberOf_44 (by decide) ?_
            rw [pk_rem (by omega) (by omega) (by omega), e2]
            refine q_callvV2 hC (by first | assumption | rfl) cvX1_43 dX1_numberOf_45 (c_exchange θ _ x y o2 hO1 (by omega) (by omega) (by omega)) (by decide) (fun S2 hr2 => ?_)
            obtain ⟨hF2, hO2⟩ := hr2
            have hF12 := hF1.trans (hF2.mono (M := [37, 38, 44]) (by decide))
            have hT2 := hT.fr4 hF12 rfl
            have hK2 : KnR S2 T := fun f hf B hB => by rw [hF2.c 37]; exact hK1 f hf B hB
            refine q_inc1_3 hC dX1_numberOf_48 ?_
            refine q_aload_n hC dX1_numberOf_51 ?_
            refine q_aload_n hC dX1_numberOf_52 ?_
            refine q_getR hC (by first | assumption | rfl) flX1_9 dX1_numberOf_53 ?_
            refine q_calliV1 hC (by first | assumption | rfl) cvX1_39 dX1_numberOf_56 (c_firstOf θ _ 44 _ T rfl (by decide) hok hT2 hK2 hO2 hOk1.exo) (by decide) (fun r3 S3 hr3 => ?_)
            obtain ⟨rfl, hF3, hK3⟩ := hr3
            refine q_istore_2 hC dX1_numberOf_59 ?_
            refine q_goto hC 23 dX1_numberOf_60 (by decide) ?_
            exact ih (k + 1) _ S3 (by omega) (by omega) (hF12.trans (hF3.mono (by decide))) hK3 (fun p hp => by rw [hF3.c 44]; exact hO2 p hp) hOk1.exo (by omega)
  refine q_aload_n hC dX1_numberOf_0 ?_
  refine q_iconst (v := nI 0) hC dX1_numberOf_1 (by decide) ?_
  refine q_aload_n hC dX1_numberOf_2 ?_
  refine q_getR hC (by first | assumption | rfl) flX1_9 dX1_numberOf_3 ?_
  refine q_iconst (v := nI 0) hC dX1_numberOf_6 (by decide) ?_
  refine q_bipush (v := nI 8) hC dX1_numberOf_7 (by decide) ?_
  refine q_copy hC (by first | assumption | rfl) (by first | assumption | rfl) mlX1_33 (by decide) (by decide) (by decide) (by decide) (by decide) (by decide) dX1_numberOf_9 ?_
  have hO1 : OwR (upA S 44 (va_cpy (S.1 q) (S.1 44) (nI 0).toNatClampNeg (nI 0).toNatClampNeg (nI 8).toNatClampNeg)) 44 ow := fun p hp => by
    rw [upA_s, cpyI hp (by omega)]; exact hO p hp
  have hF1 : Fr S (upA S 44 (va_cpy (S.1 q) (S.1 44) (nI 0).toNatClampNeg (nI 0).toNatClampNeg (nI 8).toNatClampNeg)) [37, 38, 44] := Fr.uA.mono (by decide)
  have hT1 := hT.fr4 hF1 rfl
  have hK1 : KnR (upA S 44 (va_cpy (S.1 q) (S.1 44) (nI 0).toNatClampNeg (nI 0).toNatClampNeg (nI 8).toNatClampNeg)) T := fun f hf B hB => by rw [upA_o (by decide)]; exact hKn f hf B hB
  refine q_aload_n hC dX1_numberOf_12 ?_
  refine q_aload_n hC dX1_numberOf_13 ?_
  refine q_getR hC (by first | assumption | rfl) flX1_9 dX1_numberOf_14 ?_
  refine q_calliV1 hC (by first | assumption | rfl) cvX1_39 dX1_numberOf_17 (c_firstOf θ _ 44 _ T rfl (by decide) hok hT1 hK1 hO1 hOk) (by decide) (fun r3 S3 hr3 => ?_)
  obtain ⟨rfl, hF3, hK3⟩ := hr3
  refine q_istore_2 hC dX1_numberOf_20 ?_
  refine q_iconst (v := nI 0) hC dX1_numberOf_21 (by decide) ?_
  refine q_istore_3 hC dX1_numberOf_22 ?_
  exact loop 9624 0 ow S3 (mu_le hok ow) (by have := mu_le hok ow; omega) (hF1.trans (hF3.mono (by decide))) hK3 (fun p hp => by rw [hF3.c 44]; exact hO1 p hp) hOk (by omega)
