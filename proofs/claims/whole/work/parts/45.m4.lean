theorem m_isLess (θ : Site) (S : St) (a b : Int32) : Cti yX10_isLess cX10_isLess 2 (some .boolean) 0 θ shM [.int a, .int b] S (fun r S' => r = nI (if ¬ a = -9 ∧ (b = -9 ∨ a < b) then 1 else 0) ∧ S' = S) := by
  refine Cti.mkz (own := RX10) 0 [some (.int a), some (.int b)] (fun K hC => ?_)
  refine q_iload_n hC dX10_isLess_0 ?_
  refine q_bipush (v := (-9)) hC dX10_isLess_1 (by decide) ?_
  refine q_icmp_eq hC 21 dX10_isLess_3 (by decide) (fun hb => ?_) (fun hb => ?_)
  · refine q_iconst (v := nI 0) hC dX10_isLess_21 (by decide) ?_
    refine q_iret hC dX10_isLess_22 ?_
    exact ⟨⟨by rw [if_neg (fun z => z.1 hb)], rfl⟩, by decide⟩
  · refine q_iload_n hC dX10_isLess_6 ?_
    refine q_bipush (v := (-9)) hC dX10_isLess_7 (by decide) ?_
    refine q_icmp_eq hC 17 dX10_isLess_9 (by decide) (fun hb2 => ?_) (fun hb2 => ?_)
    · refine q_iconst (v := nI 1) hC dX10_isLess_17 (by decide) ?_
      refine q_goto hC 22 dX10_isLess_18 (by decide) ?_
      refine q_iret hC dX10_isLess_22 ?_
      exact ⟨⟨by rw [if_pos ⟨hb, Or.inl hb2⟩], rfl⟩, by decide⟩
    · refine q_iload_n hC dX10_isLess_12 ?_
      refine q_iload_n hC dX10_isLess_13 ?_
      refine q_icmp_ge hC 21 dX10_isLess_14 (by decide) (fun hb3 => ?_) (fun hb3 => ?_)
      · refine q_iconst (v := nI 0) hC dX10_isLess_21 (by decide) ?_
        refine q_iret hC dX10_isLess_22 ?_
        exact ⟨⟨by rw [if_neg (fun z => z.2.elim hb2 (fun w => Int32.not_lt.mpr hb3 w))], rfl⟩, by decide⟩
      · refine q_iconst (v := nI 1) hC dX10_isLess_17 (by decide) ?_
        refine q_goto hC 22 dX10_isLess_18 (by decide) ?_
        refine q_iret hC dX10_isLess_22 ?_
        exact ⟨⟨by rw [if_pos ⟨hb, Or.inr (Int32.not_le.mp hb3)⟩], rfl⟩, by decide⟩
theorem yc_le {T : Tn} (hT : TnOk T) {f : Nat} (hf : f < tF T) (B : Nat) : yc T f B ≤ 900000 := yN_le hT hf B
theorem cN_less {T : Tn} (hT : TnOk T) {f : Nat} (hf : f < tF T) (B C : Nat) : (¬ cN T f B = -9 ∧ (cN T f C = -9 ∨ cN T f B < cN T f C)) ↔ yd T f B < yd T f C := by
  have b1 := yd_bd hT f B
  have b2 := yd_bd hT f C
  have c1 := yc_le hT hf B
  have c2 := yc_le hT hf C
  have hn := (hT.2.2.2 f hf).2.2.1
  unfold cN
  by_cases h1 : yd T f B < 100000
  · rw [if_pos h1]
    by_cases h2 : yd T f C < 100000
    · rw [if_pos h2, nI_ltI (by omega) (by omega)]
      have e : yc T f B < yc T f C ↔ yd T f B < yd T f C := Nat.mul_lt_mul_right (by omega)
      constructor
      · rintro ⟨-, h | h⟩
        · exact absurd h (nI_n9 (by omega))
        · exact e.mp h
      · intro h
        exact ⟨nI_n9 (by omega), Or.inr (e.mpr h)⟩
    · rw [if_neg h2]
      exact ⟨fun _ => by omega, fun _ => ⟨nI_n9 (by omega), Or.inl rfl⟩⟩
  · rw [if_neg h1]
    exact ⟨fun z => absurd rfl z.1, fun z => by omega⟩
theorem OwG_ex {T : Tn} {ow : Nat → Nat} (h : OwG T ow) {p q : Nat} (hp : p < tP T) (hq : q < tP T) : OwG T (exo ow p q) := by
  intro x
  by_cases e : x = q
  · subst e; rw [exo_q]; exact ⟨(h p).1, fun z => by omega, (h p).2.2⟩
  · by_cases e2 : x = p
    · subst e2; rw [exo_p e]; exact ⟨(h q).1, fun z => by omega, (h q).2.2⟩
    · rw [exo_o e2 e]; exact h x
theorem OwM_ex {S : St} {c : Nat} {T : Tn} {ow : Nat → Nat} (h : OwM S c T ow) (p q : Nat) (hpq : p ≠ q) : OwM (up (up S c p (mdO (ow q))) c q (mdO (ow p))) c T (exo ow p q) := by
  intro x hx
  by_cases e : x = q
  · subst e; rw [up_s, exo_q]
  · rw [up_of e]
    by_cases e2 : x = p
    · subst e2; rw [up_s, exo_p e]
    · rw [up_of e2, exo_o e2 e]; exact h x hx
theorem OwM_back {S : St} {c : Nat} {T : Tn} {ow : Nat → Nat} {p q : Nat} (h : OwM S c T (exo ow p q)) (hpq : p ≠ q) : OwM (up (up S c p (mdO (ow p))) c q (mdO (ow q))) c T ow := by
  intro x hx
  by_cases e : x = q
  · subst e; rw [up_s]
  · rw [up_of e]
    by_cases e2 : x = p
    · subst e2; rw [up_s]
    · rw [up_of e2, h x hx, exo_o e2 e]
theorem OwM_fr {S S' : St} {c : Nat} {T : Tn} {ow : Nat → Nat} (h : OwM S c T ow) (hF : Fr S S' [14]) (hc : c ≠ 14) : OwM S' c T ow := fun x hx => by
  rw [hF.1 c (by simp only [List.mem_cons, List.not_mem_nil, or_false]; exact hc)]; exact h x hx
theorem chq_s {T : Tn} {ow : Nat → Nat} {p k q : Nat} (h : chk T ow p q = false) : chq T ow p (k + 1) q = chq T ow p k (q + 1) := by
  simp only [chq]; rw [h]; rfl
theorem chq_t {T : Tn} {ow : Nat → Nat} {p k q : Nat} (h : chk T ow p q = true) : chq T ow p (k + 1) q = some (10 * p + q) := by
  simp only [chq]; rw [h]; rfl
theorem m_changeBy (θ : Site) (S : St) (c : Nat) (T : Tn) (ow : Nat → Nat) (hok : TnOk T) (hG : OwG T ow) (hT : MTw S T) (hO : OwM S c T ow) (hc : shM[c]? = some (.inl (0, 8))) (hc8 : 8 ≤ c) (hc14 : c ≠ 14) : Cti yX10_changeBy cX10_changeBy 9 (some .int) 3 θ shM [.ref (sA θ 0), .ref (sA θ c)] S (fun r S' => r = oNone (chg T ow) ∧ Fr S S' [14, c] ∧ OwM S' c T ow) := by
  have h8 := hok.1
  have hF4 := hok.2.1
  have mt : ∀ S1, Fr S S1 [14, c] → MTw S1 T := fun S1 hF => hT.go (by rw [hF.1 0 (by simp only [List.mem_cons, List.not_mem_nil, or_false, not_or]; omega)]) (by rw [hF.1 0 (by simp only [List.mem_cons, List.not_mem_nil, or_false, not_or]; omega)]) (fun a g1 g2 => hF.1 a (by simp only [List.mem_cons, List.not_mem_nil, or_false, not_or]; omega))
  have m14 : ∀ a, a ∈ [14] → a ∈ [14, c] := fun a ha => by simp only [List.mem_cons, List.not_mem_nil, or_false] at ha ⊢; omega
  have mc : ∀ a, a ∈ [c] → a ∈ [14, c] := fun a ha => by simp only [List.mem_cons, List.not_mem_nil, or_false] at ha ⊢; omega
  refine Cti.mk (own := RX10) 7 [some (.ref (sA θ 0)), some (.ref (sA θ c)), none, none, none, none, none, none, none] (fun K hC => ?_)
  have outer : ∀ k p S1 l3 l4 l5 l6 l7 l8, p + k = tP T → Fr S S1 [14, c] → OwM S1 c T ow → chg T ow = chp T ow k p → K 2 [some (.ref (sA θ 0)), some (.ref (sA θ c)), some (.int (nI p)), l3, l4, l5, l6, l7, l8] [] S1 := by
    intro k
    induction k with
    | zero =>
      intro p S1 l3 l4 l5 l6 l7 l8 hp hF hO1 hch
      have e : p = tP T := by omega
      subst e
      refine q_iload_n hC dX10_changeBy_2 ?_
      refine q_aload_n hC dX10_changeBy_3 ?_
      refine q_getI hC (by first | assumption | rfl) flX10_67 dX10_changeBy_4 ?_
      rw [(mt S1 hF).1]
      refine q_icmp_ge hC 151 dX10_changeBy_7 (by decide) (fun hb => ?_) (fun hz => absurd hz (fun z => z (nI_le (Nat.le_refl _) (by omega))))
      refine q_bipush (v := (-9)) hC dX10_changeBy_151 (by decide) ?_
      refine q_iret hC dX10_changeBy_153 ?_
      exact ⟨by rw [hch]; rfl, hF, hO1⟩
    | succ k ih =>
      intro p S1 l3 l4 l5 l6 l7 l8 hp hF hO1 hch
      have inner : ∀ k' q S1 l4 l5 l6 l7 l8, q + k' = tP T → p < q → Fr S S1 [14, c] → OwM S1 c T ow → chg T ow = (chq T ow p k' q).or (chp T ow k (p + 1)) → K 14 [some (.ref (sA θ 0)), some (.ref (sA θ c)), some (.int (nI p)), some (.int (nI q)), l4, l5, l6, l7, l8] [] S1 := by
        intro k'
        induction k' with
        | zero =>
          intro q S1 l4 l5 l6 l7 l8 hq hpq hF hO1 hch
          have e : q = tP T := by omega
          subst e
          refine q_iload_n hC dX10_changeBy_14 ?_
          refine q_aload_n hC dX10_changeBy_15 ?_
          refine q_getI hC (by first | assumption | rfl) flX10_67 dX10_changeBy_16 ?_
          rw [(mt S1 hF).1]
          refine q_icmp_ge hC 145 dX10_changeBy_19 (by decide) (fun hb => ?_) (fun hz => absurd hz (fun z => z (nI_le (Nat.le_refl _) (by omega))))
          refine q_inc1_2 hC dX10_changeBy_145 ?_
          refine q_goto hC 2 dX10_changeBy_148 (by decide) ?_
          exact ih (p + 1) S1 _ _ _ _ _ _ (by omega) hF hO1 (by rw [hch]; rfl)
        | succ k' ihq =>
          intro q S1 l4 l5 l6 l7 l8 hq hpq hF hO1 hch
          have hp8 : p < 8 := by omega
          have hq8 : q < 8 := by omega
          have hne : p ≠ q := by omega
          have skip : ∀ S2 l4 l5 l6 l7 l8, Fr S S2 [14, c] → OwM S2 c T ow → chk T ow p q = false → K 139 [some (.ref (sA θ 0)), some (.ref (sA θ c)), some (.int (nI p)), some (.int (nI q)), l4, l5, l6, l7, l8] [] S2 := by
            intro S2 l4 l5 l6 l7 l8 hF2 hO2 hk
            refine q_inc1_3 hC dX10_changeBy_139 ?_
            refine q_goto hC 14 dX10_changeBy_142 (by decide) ?_
            exact ihq (q + 1) S2 _ _ _ _ _ (by omega) (by omega) hF2 hO2 (by rw [hch, chq_s hk])
          have n1 := mdO_neg (hG p).1
          have n2 := mdO_neg (hG q).1
          refine q_iload_n hC dX10_changeBy_14 ?_
          refine q_aload_n hC dX10_changeBy_15 ?_
          refine q_getI hC (by first | assumption | rfl) flX10_67 dX10_changeBy_16 ?_
          rw [(mt S1 hF).1]
          refine q_icmp_ge hC 145 dX10_changeBy_19 (by decide) (fun hz => absurd hz (fun z => by have := (nI_leI (by omega) (by omega)).mp z; omega)) (fun hb => ?_)
          refine q_aload_n hC dX10_changeBy_22 ?_
          refine q_iload_n hC dX10_changeBy_23 ?_
          refine q_ialdn hC (by first | assumption | rfl) (by first | assumption | omega) dX10_changeBy_24 ?_
          rw [hO1 p (by omega)]
          refine q_istore_4 hC dX10_changeBy_25 ?_
          refine q_aload_n hC dX10_changeBy_27 ?_
          refine q_iload_n hC dX10_changeBy_28 ?_
          refine q_ialdn hC (by first | assumption | rfl) (by first | assumption | omega) dX10_changeBy_29 ?_
          rw [hO1 q (by omega)]
          refine q_istore_5 hC dX10_changeBy_30 ?_
          refine q_iload hC dX10_changeBy_32 ?_
          by_cases h1 : ow p < 4
          · refine q_if_lt hC 139 dX10_changeBy_34 (by decide) (fun hz => absurd hz (fun z => n1.mp z h1)) (fun hb => ?_)
            refine q_iload hC dX10_changeBy_37 ?_
            by_cases h2 : ow q < 4
            · have e1 : mdO (ow p) = nI (ow p) := if_pos h1
              have e2 : mdO (ow q) = nI (ow q) := if_pos h2
              have f1 := (hG p).2.2 h1
              have f2 := (hG q).2.2 h2
              refine q_if_lt hC 139 dX10_changeBy_39 (by decide) (fun hz => absurd hz (fun z => n2.mp z h2)) (fun hb => ?_)
              refine q_iload hC dX10_changeBy_42 ?_
              refine q_iload hC dX10_changeBy_44 ?_
              by_cases h3 : ow p = ow q
              · refine q_icmp_ne hC 52 dX10_changeBy_46 (by decide) (fun hz => absurd hz (fun z => z (by rw [h3]))) (fun hb => ?_)
                refine q_goto hC 139 dX10_changeBy_49 (by decide) ?_
                exact skip _ _ _ _ _ _ hF hO1 (by unfold chk; simp [h3])
              · have hT1 := mt S1 hF
                rw [e1, e2]
                refine q_icmp_ne hC 52 dX10_changeBy_46 (by decide) (fun hb => ?_) (fun hz => absurd hz (fun z => h3 (nI_small (by omega) (by omega) z)))
                refine q_aload_n hC dX10_changeBy_52 ?_
                refine q_aload_n hC dX10_changeBy_53 ?_
                refine q_iload hC dX10_changeBy_54 ?_
                refine q_calliV2 hC (by first | assumption | rfl) cvX10_213 dX10_changeBy_56 (m_costBy θ _ c (ow p) T ow hok hG hT1 hO1 f1 hc) (by decide) (fun r2 S2 hr2 => ?_)
                obtain ⟨rfl, hF2⟩ := hr2
                have hF2' := hF.trans (hF2.mono m14)
                have hO2 := OwM_fr hO1 hF2 hc14
                refine q_istore_6 hC dX10_changeBy_59 ?_
                refine q_aload_n hC dX10_changeBy_61 ?_
                refine q_aload_n hC dX10_changeBy_62 ?_
                refine q_iload hC dX10_changeBy_63 ?_
                refine q_calliV2 hC (by first | assumption | rfl) cvX10_213 dX10_changeBy_65 (m_costBy θ _ c (ow q) T ow hok hG (mt S2 hF2') hO2 f2 hc) (by decide) (fun r3 S3 hr3 => ?_)
                obtain ⟨rfl, hF3⟩ := hr3
                have hF3' := hF2'.trans (hF3.mono m14)
                have hO3 := OwM_fr hO2 hF3 hc14
                refine q_istore_7 hC dX10_changeBy_68 ?_
                refine q_aload_n hC dX10_changeBy_70 ?_
                refine q_iload_n hC dX10_changeBy_71 ?_
                refine q_iload hC dX10_changeBy_72 ?_
                refine q_iastn hC (by first | assumption | rfl) (by first | assumption | omega) dX10_changeBy_74 ?_
                refine q_aload_n hC dX10_changeBy_75 ?_
                refine q_iload_n hC dX10_changeBy_76 ?_
                refine q_iload hC dX10_changeBy_77 ?_
                refine q_iastn hC (by first | assumption | rfl) (by first | assumption | omega) dX10_changeBy_79 ?_
                rw [← e1, ← e2]
                have hO4 := OwM_ex hO3 p q hne
                have hG4 := OwG_ex hG (p := p) (q := q) (by omega) (by omega)
                generalize hS4 : up (up S3 c p (mdO (ow q))) c q (mdO (ow p)) = S4 at hO4
                have hF4' : Fr S S4 [14, c] := by
                  rw [← hS4]
                  exact hF3'.trans ((Fr.u1.mono mc).trans (Fr.u1.mono mc))
                -- the end: what was changed is set back
                have fin : ∀ S5 z, z ≤ 1 → Fr S S5 [14, c] → OwM S5 c T (exo ow p q) → chk T ow p q = decide (z = 1) → K 115 [some (.ref (sA θ 0)), some (.ref (sA θ c)), some (.int (nI p)), some (.int (nI q)), some (.int (mdO (ow p))), some (.int (mdO (ow q))), some (.int (cN T (ow p) (om ow (ow p)))), some (.int (cN T (ow q) (om ow (ow q)))), l8] [.int (nI z)] S5 := by
                  intro S5 z hz hF5 hO5 hk
                  refine q_istore_8 hC dX10_changeBy_115 ?_
                  refine q_aload_n hC dX10_changeBy_117 ?_
                  refine q_iload_n hC dX10_changeBy_118 ?_
                  refine q_iload hC dX10_changeBy_119 ?_
                  refine q_iastn hC (by first | assumption | rfl) (by first | assumption | omega) dX10_changeBy_121 ?_
                  refine q_aload_n hC dX10_changeBy_122 ?_
                  refine q_iload_n hC dX10_changeBy_123 ?_
                  refine q_iload hC dX10_changeBy_124 ?_
                  refine q_iastn hC (by first | assumption | rfl) (by first | assumption | omega) dX10_changeBy_126 ?_
                  have hO6 := OwM_back hO5 hne
                  generalize hS6 : up (up S5 c p (mdO (ow p))) c q (mdO (ow q)) = S6 at hO6
                  have hF6 : Fr S S6 [14, c] := by
                    rw [← hS6]
                    exact hF5.trans ((Fr.u1.mono mc).trans (Fr.u1.mono mc))
                  rcases (show z = 0 ∨ z = 1 by omega) with rfl | rfl
                  · refine q_iload hC dX10_changeBy_127 ?_
                    refine q_if_eq hC 139 dX10_changeBy_129 (by decide) (fun hb => ?_) (fun hz => absurd hz (by first | decide | exact (show ¬ nI 1 = 0 by decide)))
                    exact skip _ _ _ _ _ _ hF6 hO6 (by rw [hk]; rfl)
                  · refine q_iload hC dX10_changeBy_127 ?_
                    refine q_if_eq hC 139 dX10_changeBy_129 (by decide) (fun hz => absurd hz (by first | decide | exact (show ¬ nI 1 = 0 by decide))) (fun hb => ?_)
                    refine q_bipush (v := nI 10) hC dX10_changeBy_132 (by decide) ?_
                    refine q_iload_n hC dX10_changeBy_134 ?_
                    refine q_imul hC dX10_changeBy_135 ?_
                    rw [pk_mul]
                    refine q_iload_n hC dX10_changeBy_136 ?_
                    refine q_iadd hC dX10_changeBy_137 ?_
                    rw [nI_add]
                    refine q_iret hC dX10_changeBy_138 ?_
                    exact ⟨by rw [hch, chq_t (by rw [hk]; rfl)]; rfl, hF6, hO6⟩
                have ch5 : chk T ow p q = (gn T ow p q && gn T ow q p) := by
                  unfold chk
                  simp [h1, h2, h3]
                have g1 : gn T ow p q = decide (yd T (ow p) (om (exo ow p q) (ow p)) < yd T (ow p) (om ow (ow p))) := rfl
                have g2 : gn T ow q p = decide (yd T (ow q) (om (exo ow p q) (ow q)) < yd T (ow q) (om ow (ow q))) := by rw [exo_comm ow hne]; rfl
                have l1 := cN_less hok f1 (om (exo ow p q) (ow p)) (om ow (ow p))
                have l2 := cN_less hok f2 (om (exo ow p q) (ow q)) (om ow (ow q))
                rw [e1]
                refine q_aload_n hC dX10_changeBy_80 ?_
                refine q_aload_n hC dX10_changeBy_81 ?_
                refine q_iload hC dX10_changeBy_82 ?_
                refine q_calliV2 hC (by first | assumption | rfl) cvX10_213 dX10_changeBy_84 (m_costBy θ _ c (ow p) T (exo ow p q) hok hG4 (mt S4 hF4') hO4 f1 hc) (by decide) (fun r5 S5 hr5 => ?_)
                obtain ⟨rfl, hF5⟩ := hr5
                have hF5' := hF4'.trans (hF5.mono m14)
                have hO5 := OwM_fr hO4 hF5 hc14
                refine q_iload hC dX10_changeBy_87 ?_
                refine q_calliS2 hC csX10_216 dX10_changeBy_89 (m_isLess θ _ _ _) (by decide) (fun r6 S6 hr6 => ?_)
                obtain ⟨rfl, hS6⟩ := hr6
                have hS6 := hS6.symm
                subst hS6
                by_cases c1 : yd T (ow p) (om (exo ow p q) (ow p)) < yd T (ow p) (om ow (ow p))
                · rw [if_pos (l1.mpr c1), e2]
                  refine q_if_eq hC 114 dX10_changeBy_92 (by decide) (fun hz => absurd hz (by first | decide | exact (show ¬ nI 1 = 0 by decide))) (fun hb => ?_)
                  refine q_aload_n hC dX10_changeBy_95 ?_
                  refine q_aload_n hC dX10_changeBy_96 ?_
                  refine q_iload hC dX10_changeBy_97 ?_
                  refine q_calliV2 hC (by first | assumption | rfl) cvX10_213 dX10_changeBy_99 (m_costBy θ _ c (ow q) T (exo ow p q) hok hG4 (mt S5 hF5') hO5 f2 hc) (by decide) (fun r7 S7 hr7 => ?_)
                  obtain ⟨rfl, hF7⟩ := hr7
                  have hF7' := hF5'.trans (hF7.mono m14)
                  have hO7 := OwM_fr hO5 hF7 hc14
                  refine q_iload hC dX10_changeBy_102 ?_
                  refine q_calliS2 hC csX10_216 dX10_changeBy_104 (m_isLess θ _ _ _) (by decide) (fun r6 S6 hr6 => ?_)
                  obtain ⟨rfl, hS6⟩ := hr6
                  have hS6 := hS6.symm
                  subst hS6
                  by_cases c2 : yd T (ow q) (om (exo ow p q) (ow q)) < yd T (ow q) (om ow (ow q))
                  · rw [if_pos (l2.mpr c2)]
                    refine q_if_eq hC 114 dX10_changeBy_107 (by decide) (fun hz => absurd hz (by first | decide | exact (show ¬ nI 1 = 0 by decide))) (fun hb => ?_)
                    refine q_iconst (v := nI 1) hC dX10_changeBy_110 (by decide) ?_
                    refine q_goto hC 115 dX10_changeBy_111 (by decide) ?_
                    rw [← e1, ← e2]
                    exact fin S7 1 (by omega) hF7' hO7 (by rw [ch5, g1, g2]; simp [c1, c2])
                  · rw [if_neg (fun z => c2 (l2.mp z))]
                    refine q_if_eq hC 114 dX10_changeBy_107 (by decide) (fun hb => ?_) (fun hz => absurd hz (by first | decide | exact (show ¬ nI 1 = 0 by decide)))
                    refine q_iconst (v := nI 0) hC dX10_changeBy_114 (by decide) ?_
                    rw [← e1, ← e2]
                    exact fin S7 0 (by omega) hF7' hO7 (by rw [ch5, g1, g2]; simp [c2])
                · rw [if_neg (fun z => c1 (l1.mp z))]
                  refine q_if_eq hC 114 dX10_changeBy_92 (by decide) (fun hb => ?_) (fun hz => absurd hz (by first | decide | exact (show ¬ nI 1 = 0 by decide)))
                  refine q_iconst (v := nI 0) hC dX10_changeBy_114 (by decide) ?_
                  rw [← e1]
                  exact fin S5 0 (by omega) hF5' hO5 (by rw [ch5, g1]; simp [c1])
            · refine q_if_lt hC 139 dX10_changeBy_39 (by decide) (fun hb => ?_) (fun hz => absurd hz (fun z => z (n2.mpr h2)))
              exact skip _ _ _ _ _ _ hF hO1 (by unfold chk; simp [h2])
          · refine q_if_lt hC 139 dX10_changeBy_34 (by decide) (fun hb => ?_) (fun hz => absurd hz (fun z => z (n1.mpr h1)))
            exact skip _ _ _ _ _ _ hF hO1 (by unfold chk; simp [h1])
      refine q_iload_n hC dX10_changeBy_2 ?_
      refine q_aload_n hC dX10_changeBy_3 ?_
      refine q_getI hC (by first | assumption | rfl) flX10_67 dX10_changeBy_4 ?_
      rw [(mt S1 hF).1]
      refine q_icmp_ge hC 151 dX10_changeBy_7 (by decide) (fun hz => absurd hz (fun z => by have := (nI_leI (by omega) (by omega)).mp z; omega)) (fun hb => ?_)
      refine q_iload_n hC dX10_changeBy_10 ?_
      refine q_iconst (v := nI 1) hC dX10_changeBy_11 (by decide) ?_
      refine q_iadd hC dX10_changeBy_12 ?_
      rw [nI_add]
      refine q_istore_3 hC dX10_changeBy_13 ?_
      exact inner (tP T - (p + 1)) (p + 1) S1 _ _ _ _ _ (by omega) (by omega) hF hO1 hch
  refine q_iconst (v := nI 0) hC dX10_changeBy_0 (by decide) ?_
  refine q_istore_2 hC dX10_changeBy_1 ?_
  exact outer (tP T) 0 S _ _ _ _ _ _ (by omega) Fr.rfl' hO rfl
theorem nw_G {T : Tn} {N : Nw} (h : NwOk T N) : OwG T (nO N) := h.1
theorem m_change (θ : Site) (S : St) (L : Nat) (x : Nat → Nat) (T : Tn) (N : Nw) (im : Nat → Option Nw) (tr : Int64) (hA : AOk T N im) (hR : RM S L x T N im tr)  : Cti yX10_change cX10_change 1 (some .int) 20 θ shM [.ref (sA θ 0)] S (fun r S' => r = oNone (chg T (nO N)) ∧ RM S' L x T N im tr) := by
  obtain ⟨hok, hNo, hIm⟩ := hA
  have hR' := hR
  obtain ⟨hx, hT, hN, hI, htr⟩ := hR
  have h8 := hok.1
  have hF4 := hok.2.1
  refine Cti.mk (own := RX10) 0 [some (.ref (sA θ 0))] (fun K hC => ?_)
  refine q_aload_n hC dX10_change_0 ?_
  refine q_aload_n hC dX10_change_1 ?_
  refine q_getR hC (by first | assumption | rfl) flX10_31 dX10_change_2 ?_
  refine q_calliV1 hC (by first | assumption | rfl) cvX10_219 dX10_change_5 (m_changeBy θ _ 8 T (nO N) hok (nw_G hNo) hT (fun p hp => (hN.1 p hp).1) rfl (by decide) (by decide)) (by decide) (fun r S1 hr => ?_)
  obtain ⟨rfl, hF, hO⟩ := hr
  refine q_iret hC dX10_change_8 ?_
  refine ⟨rfl, hx.go (by rw [hF.c 0]) (hF.c 1), hT.go (by rw [hF.c 0]) (by rw [hF.c 0]) (fun a g1 g2 => hF.1 a (by simp only [List.mem_cons, List.not_mem_nil, or_false, not_or]; omega)), ⟨fun p hp => ⟨hO p hp, by rw [hF.c 9]; exact (hN.1 p hp).2⟩, by rw [hF.c 0]; exact hN.2.1, by rw [hF.c 10, hF.c 11]; exact hN.2.2⟩, hI.go (hF.c 12), by rw [hF.2]; exact htr⟩
theorem m_rest (θ : Site) (S : St) (L : Nat) (x : Nat → Nat) (T : Tn) (N : Nw) (im : Nat → Option Nw) (tr : Int64) (hA : AOk T N im) (hR : RM S L x T N im tr)  : Cti yX10_rest cX10_rest 4 (some .int) 20 θ shM [.ref (sA θ 0)] S (fun r S' => r = nI (rs T (nO N)) ∧ RM S' L x T N im tr) := by
  obtain ⟨hok, hNo, hIm⟩ := hA
  have hR' := hR
  obtain ⟨hx, hT, hN, hI, htr⟩ := hR
  have h8 := hok.1
  have hF4 := hok.2.1
  refine Cti.mk (own := RX10) 3 [some (.ref (sA θ 0)), none, none, none] (fun K hC => ?_)
  have m17 : ∀ a, a ∈ [17] → a ∈ [14, 17] := by decide
  have loop : ∀ k ow n S1 l3, rs T ow = k → OwG T ow → n + k = rs T (nO N) → Fr S S1 [14, 17] → OwM S1 17 T ow → K 39 [some (.ref (sA θ 0)), some (.int (nI n)), some (.int (oNone (chg T ow))), l3] [] S1 := by
    intro k
    induction k with
    | zero =>
      intro ow n S1 l3 hk hG hn hF hO
      cases hc : chg T ow with
      | none =>
        refine q_iload_n hC dX10_rest_39 ?_
        refine q_bipush (v := (-9)) hC dX10_rest_40 (by decide) ?_
        refine q_icmp_eq hC 98 dX10_rest_42 (by decide) (fun hb => ?_) (fun hz => absurd hz (by first | decide | exact (show ¬ nI 1 = 0 by decide)))
        refine q_iload_n hC dX10_rest_98 ?_
        refine q_iret hC dX10_rest_99 ?_
        exact ⟨by rw [← hn]; rfl, hR'.fr (hF.mono (by decide))⟩
      | some r =>
        have := rs_some hok hc
        omega
    | succ k ih =>
      intro ow n S1 l3 hk hG hn hF hO
      cases hc : chg T ow with
      | none =>
        have := rs_none hc
        omega
      | some r =>
        have h1 := rs_some hok hc
        obtain ⟨a, b, hab, hb, rfl, hk2⟩ := chg_some hc
        have hr10 : 10 * a + b < 100 := by omega
        have ha8 : a < 8 := by omega
        have hb8 : b < 8 := by omega
        obtain ⟨d1, d2⟩ := r_div (x := a) (y := b) hb8
        rw [d1, d2] at h1
        show K 39 [some (.ref (sA θ 0)), some (.int (nI n)), some (.int (nI (10 * a + b))), l3] [] S1
        refine q_iload_n hC dX10_rest_39 ?_
        refine q_bipush (v := (-9)) hC dX10_rest_40 (by decide) ?_
        refine q_icmp_eq hC 98 dX10_rest_42 (by decide) (fun hz => absurd hz (nI_n9 (by omega))) (fun hb => ?_)
        refine q_aload_n hC dX10_rest_45 ?_
        refine q_getR hC (by first | assumption | rfl) flX10_58 dX10_rest_46 ?_
        refine q_iload_n hC dX10_rest_49 ?_
        refine q_bipush (v := nI 10) hC dX10_rest_50 (by decide) ?_
        refine q_idiv hC dX10_rest_52 (by decide) ?_
        rw [pk_div (by omega) (by omega) (by omega), d1]
        refine q_ialdn hC (by first | assumption | rfl) (by first | assumption | omega) dX10_rest_53 ?_
        rw [hO a (by omega)]
        refine q_istore_3 hC dX10_rest_54 ?_
        refine q_aload_n hC dX10_rest_55 ?_
        refine q_getR hC (by first | assumption | rfl) flX10_58 dX10_rest_56 ?_
        refine q_iload_n hC dX10_rest_59 ?_
        refine q_bipush (v := nI 10) hC dX10_rest_60 (by decide) ?_
        refine q_idiv hC dX10_rest_62 (by decide) ?_
        rw [pk_div (by omega) (by omega) (by omega), d1]
        refine q_aload_n hC dX10_rest_63 ?_
        refine q_getR hC (by first | assumption | rfl) flX10_58 dX10_rest_64 ?_
        refine q_iload_n hC dX10_rest_67 ?_
        refine q_bipush (v := nI 10) hC dX10_rest_68 (by decide) ?_
        refine q_irem hC dX10_rest_70 (by decide) ?_
        rw [pk_rem (by omega) (by omega) (by omega), d2]
        refine q_ialdn hC (by first | assumption | rfl) (by first | assumption | omega) dX10_rest_71 ?_
        rw [hO b (by omega)]
        refine q_iastn hC (by first | assumption | rfl) (by first | assumption | omega) dX10_rest_72 ?_
        refine q_aload_n hC dX10_rest_73 ?_
        refine q_getR hC (by first | assumption | rfl) flX10_58 dX10_rest_74 ?_
        refine q_iload_n hC dX10_rest_77 ?_
        refine q_bipush (v := nI 10) hC dX10_rest_78 (by decide) ?_
        refine q_irem hC dX10_rest_80 (by decide) ?_
        rw [pk_rem (by omega) (by omega) (by omega), d2]
        refine q_iload_n hC dX10_rest_81 ?_
        refine q_iastn hC (by first | assumption | rfl) (by first | assumption | omega) dX10_rest_82 ?_
        refine q_inc1_1 hC dX10_rest_83 ?_
        refine q_aload_n hC dX10_rest_86 ?_
        refine q_aload_n hC dX10_rest_87 ?_
        refine q_getR hC (by first | assumption | rfl) flX10_58 dX10_rest_88 ?_
        have hO2 := OwM_ex hO a b (by omega)
        have hG2 := OwG_ex hG (p := a) (q := b) (by omega) (by omega)
        generalize hS2 : up (up S1 17 a (mdO (ow b))) 17 b (mdO (ow a)) = S2 at hO2
        have hF2 : Fr S S2 [14, 17] := by
          rw [← hS2]
          exact hF.trans ((Fr.u1.mono m17).trans (Fr.u1.mono m17))
        have hR2 := hR'.fr (hF2.mono (M := [14, 15, 16, 17, 18, 19]) (by decide))
        refine q_calliV1 hC (by first | assumption | rfl) cvX10_219 dX10_rest_91 (m_changeBy θ _ 17 T _ hok hG2 hR2.2.1 hO2 rfl (by decide) (by decide)) (by decide) (fun r3 S3 hr3 => ?_)
        obtain ⟨rfl, hF3, hO3⟩ := hr3
        refine q_istore_2 hC dX10_rest_94 ?_
        refine q_goto hC 39 dX10_rest_95 (by decide) ?_
        exact ih _ (n + 1) S3 _ (by omega) hG2 (by omega) (hF2.trans hF3) hO3
  have copy : ∀ n p S1, p + n = tP T → Fr S S1 [14, 17] → (∀ y, y < p → S1.1 17 y = mdO (nO N y)) → K 2 [some (.ref (sA θ 0)), some (.int (nI p)), none, none] [] S1 := by
    intro n
    induction n with
    | zero =>
      intro p S1 hp hF hO
      have e : p = tP T := by omega
      subst e
      have hR2 := hR'.fr (hF.mono (M := [14, 15, 16, 17, 18, 19]) (by decide))
      refine q_iload_n hC dX10_rest_2 ?_
      refine q_aload_n hC dX10_rest_3 ?_
      refine q_getI hC (by first | assumption | rfl) flX10_67 dX10_rest_4 ?_
      rw [hF.c 0, hT.1]
      refine q_icmp_ge hC 28 dX10_rest_7 (by decide) (fun hb => ?_) (fun hz => absurd hz (fun z => z (nI_le (Nat.le_refl _) (by omega))))
      refine q_iconst (v := nI 0) hC dX10_rest_28 (by decide) ?_
      refine q_istore_1 hC dX10_rest_29 ?_
      refine q_aload_n hC dX10_rest_30 ?_
      refine q_aload_n hC dX10_rest_31 ?_
      refine q_getR hC (by first | assumption | rfl) flX10_58 dX10_rest_32 ?_
      refine q_calliV1 hC (by first | assumption | rfl) cvX10_219 dX10_rest_35 (m_changeBy θ _ 17 T _ hok (nw_G hNo) hR2.2.1 hO rfl (by decide) (by decide)) (by decide) (fun r3 S3 hr3 => ?_)
      obtain ⟨rfl, hF3, hO3⟩ := hr3
      refine q_istore_2 hC dX10_rest_38 ?_
      exact loop _ _ 0 S3 _ rfl (nw_G hNo) (by omega) (hF.trans hF3) hO3
    | succ n ih =>
      intro p S1 hp hF hO
      have hp8 : p < 8 := by omega
      refine q_iload_n hC dX10_rest_2 ?_
      refine q_aload_n hC dX10_rest_3 ?_
      refine q_getI hC (by first | assumption | rfl) flX10_67 dX10_rest_4 ?_
      rw [hF.c 0, hT.1]
      refine q_icmp_ge hC 28 dX10_rest_7 (by decide) (fun hz => absurd hz (fun z => by have := (nI_leI (by omega) (by omega)).mp z; omega)) (fun hb => ?_)
      refine q_aload_n hC dX10_rest_10 ?_
      refine q_getR hC (by first | assumption | rfl) flX10_58 dX10_rest_11 ?_
      refine q_iload_n hC dX10_rest_14 ?_
      refine q_aload_n hC dX10_rest_15 ?_
      refine q_getR hC (by first | assumption | rfl) flX10_31 dX10_rest_16 ?_
      refine q_iload_n hC dX10_rest_19 ?_
      refine q_ialdn hC (by first | assumption | rfl) (by first | assumption | omega) dX10_rest_20 ?_
      rw [hF.c 8, (hN.1 p (by omega)).1]
      refine q_iastn hC (by first | assumption | rfl) (by first | assumption | omega) dX10_rest_21 ?_
      refine q_inc1_1 hC dX10_rest_22 ?_
      refine q_goto hC 2 dX10_rest_25 (by decide) ?_
      refine ih (p + 1) _ (by omega) (hF.trans (Fr.u1.mono m17)) (fun y hy => ?_)
      by_cases e : y = p
      · subst e; rw [up_s]
      · rw [up_of e]; exact hO y (by omega)
  refine q_iconst (v := nI 0) hC dX10_rest_0 (by decide) ?_
  refine q_istore_1 hC dX10_rest_1 ?_
  exact copy (tP T) 0 S (by omega) Fr.rfl' (fun y hy => by omega)
theorem om_owm (N : Nw) (f : Nat) : om (nO N) f = owm N f := rfl
theorem m_match (θ : Site) (S : St) (L : Nat) (x : Nat → Nat) (T : Tn) (N : Nw) (im : Nat → Option Nw) (tr : Int64) (hA : AOk T N im) (hR : RM S L x T N im tr) (f g : Int32) : Cti yX10_match cX10_match 6 (some .int) 20 θ shM [.ref (sA θ 0), .int f, .int g] S (fun r S' => r = sMatch T N f g ∧ RM S' L x T N im tr) := by
  obtain ⟨hok, hNo, hIm⟩ := hA
  have hR' := hR
  obtain ⟨hx, hT, hN, hI, htr⟩ := hR
  have h8 := hok.1
  have hF4 := hok.2.1
  refine Cti.mk (own := RX10) 3 [some (.ref (sA θ 0)), some (.int f), some (.int g), none, none, none] (fun K hC => ?_)
  have bad : sMatch T N f g = -1 → K 21 [some (.ref (sA θ 0)), some (.int (f)), some (.int (g)), none, none, none] [] S := by
    intro e
    refine q_iconst (v := (-1)) hC dX10_match_21 (by decide) ?_
    refine q_iret hC dX10_match_22 ?_
    rw [e]
    exact ⟨rfl, hR'⟩
  refine q_aload_n hC dX10_match_0 ?_
  refine q_iload_n hC dX10_match_1 ?_
  refine q_calliV1 hC (by first | assumption | rfl) cvX10_173 dX10_match_2 (m_isFamily θ _ f T hok hT) (by decide) (fun r S1 hr => ?_)
  obtain ⟨rfl, hS⟩ := hr
  have hS := hS.symm
  subst hS
  cases hf : ixN f (tF T) with
  | none =>
    refine q_if_eq hC 21 dX10_match_5 (by decide) (fun hb => ?_) (fun hz => absurd hz (by first | decide | exact (show ¬ nI 1 = 0 by decide)))
    exact bad (by simp [sMatch, hf])
  | some a =>
    obtain ⟨ha, rfl⟩ := ixN_some (by omega) hf
    refine q_if_eq hC 21 dX10_match_5 (by decide) (fun hz => absurd hz (by first | decide | exact (show ¬ nI 1 = 0 by decide))) (fun hb => ?_)
    refine q_aload_n hC dX10_match_8 ?_
    refine q_iload_n hC dX10_match_9 ?_
    refine q_calliV1 hC (by first | assumption | rfl) cvX10_173 dX10_match_10 (m_isFamily θ _ g T hok hT) (by decide) (fun r S1 hr => ?_)
    obtain ⟨rfl, hS⟩ := hr
    have hS := hS.symm
    subst hS
    cases hg : ixN g (tF T) with
    | none =>
      refine q_if_eq hC 21 dX10_match_13 (by decide) (fun hb => ?_) (fun hz => absurd hz (by first | decide | exact (show ¬ nI 1 = 0 by decide)))
      exact bad (by simp [sMatch, hg])
    | some b =>
      obtain ⟨hb4, rfl⟩ := ixN_some (by omega) hg
      have ha4 : a < 4 := by omega
      have hb44 : b < 4 := by omega
      refine q_if_eq hC 21 dX10_match_13 (by decide) (fun hz => absurd hz (by first | decide | exact (show ¬ nI 1 = 0 by decide))) (fun hb => ?_)
      refine q_iload_n hC dX10_match_16 ?_
      refine q_iload_n hC dX10_match_17 ?_
      by_cases hab : a = b
      · subst hab
        refine q_icmp_ne hC 23 dX10_match_18 (by decide) (fun hz => absurd hz (fun z => z rfl)) (fun hb => ?_)
        exact bad (by simp [sMatch, hf])
      · refine q_icmp_ne hC 23 dX10_match_18 (by decide) (fun hb => ?_) (fun hz => absurd hz (fun z => hab (nI_small (by omega) (by omega) z)))
        refine q_aload_n hC dX10_match_23 ?_
        refine q_aload_n hC dX10_match_24 ?_
        refine q_getR hC (by first | assumption | rfl) flX10_31 dX10_match_25 ?_
        refine q_iload_n hC dX10_match_28 ?_
        refine q_calliV2 hC (by first | assumption | rfl) cvX10_178 dX10_match_29 (m_own θ _ a T N hok hNo hT.1 (fun p hp => (hN.1 p hp).1) ha4) (by decide) (fun r S1 hr => ?_)
        obtain ⟨rfl, hS⟩ := hr
        have hS := hS.symm
        subst hS
        refine q_aload_n hC dX10_match_32 ?_
        refine q_aload_n hC dX10_match_33 ?_
        refine q_getR hC (by first | assumption | rfl) flX10_31 dX10_match_34 ?_
        refine q_iload_n hC dX10_match_37 ?_
        refine q_calliV2 hC (by first | assumption | rfl) cvX10_178 dX10_match_38 (m_own θ _ b T N hok hNo hT.1 (fun p hp => (hN.1 p hp).1) hb44) (by decide) (fun r S1 hr => ?_)
        obtain ⟨rfl, hS⟩ := hr
        have hS := hS.symm
        subst hS
        refine q_ior hC dX10_match_41 ?_
        rw [or_n]
        have hB := or_lt256 (owm_lt N a) (owm_lt N b)
        have mo1 := yd_mono (T := T) (sub2_or (owm N a) (owm N b)) a
        have mo2 := yd_mono (T := T) (sub2_or' (owm N a) (owm N b)) b
        generalize hBB : owm N a ||| owm N b = B at hB mo1 mo2
        refine q_istore_3 hC dX10_match_42 ?_
        refine q_aload_n hC dX10_match_43 ?_
        refine q_iload_n hC dX10_match_44 ?_
        refine q_iload_n hC dX10_match_45 ?_
        refine q_calliV2 hC (by first | assumption | rfl) cvX10_192 dX10_match_46 (m_wayOf θ _ a B T hok hT ha hB) (by decide) (fun r1 S1 hr1 => ?_)
        obtain ⟨rfl, hF1, -⟩ := hr1
        have hR1 := hR'.fr (hF1.mono (M := [14, 15, 16, 17, 18, 19]) (by decide))
        refine q_istore_4 hC dX10_match_49 ?_
        refine q_aload_n hC dX10_match_51 ?_
        refine q_iload_n hC dX10_match_52 ?_
        refine q_iload_n hC dX10_match_53 ?_
        refine q_calliV2 hC (by first | assumption | rfl) cvX10_192 dX10_match_54 (m_wayOf θ _ b B T hok hR1.2.1 hb4 hB) (by decide) (fun r2 S2 hr2 => ?_)
        obtain ⟨rfl, hF2, -⟩ := hr2
        have hF2' := hF1.trans hF2
        have hR2 := hR'.fr (hF2'.mono (M := [14, 15, 16, 17, 18, 19]) (by decide))
        obtain ⟨-, -, a1, a2⟩ := hok.2.2.2 a ha
        obtain ⟨-, -, b1, b2⟩ := hok.2.2.2 b hb4
        have y1 := yd_bd hok a B
        have y2 := yd_bd hok b B
        have esp : sMatch T N (nI a) (nI b) = if yc T a B + yc T b B < 100000 then nI (yc T a B + yc T b B) - nI (yc T a (owm N a)) - nI (yc T b (owm N b)) else -9 := by
          simp only [sMatch, hf, hg, hBB]
          rw [if_neg hab]
        by_cases f1 : yd T a B < 100000
        · rw [orN_lt f1]
          have u1 : yc T a B ≤ 2405 * 9 := Nat.mul_le_mul (by omega) a2
          by_cases f2 : yd T b B < 100000
          · have u2 : yc T b B ≤ 2405 * 9 := Nat.mul_le_mul (by omega) b2
            rw [orN_lt f2]
            refine q_istore_5 hC dX10_match_57 ?_
            refine q_iload hC dX10_match_59 ?_
            refine q_bipush (v := (-9)) hC dX10_match_61 (by decide) ?_
            refine q_icmp_eq hC 73 dX10_match_63 (by decide) (fun hz => absurd hz (nI_n9 (by omega))) (fun hb => ?_)
            refine q_iload hC dX10_match_66 ?_
            refine q_bipush (v := (-9)) hC dX10_match_68 (by decide) ?_
            refine q_icmp_ne hC 76 dX10_match_70 (by decide) (fun hb => ?_) (fun hz => absurd hz (nI_n9 (by omega)))
            refine q_iload hC dX10_match_76 ?_
            refine q_aload_n hC dX10_match_78 ?_
            refine q_getR hC (by first | assumption | rfl) flX10_28 dX10_match_79 ?_
            refine q_iload_n hC dX10_match_82 ?_
            refine q_ialdn hC (by first | assumption | rfl) (by first | assumption | omega) dX10_match_83 ?_
            rw [hF2'.c 7, (hT.2.2.2 a ha).2.2]
            refine q_imul hC dX10_match_84 ?_
            rw [pk_mul]
            refine q_iload hC dX10_match_85 ?_
            refine q_aload_n hC dX10_match_87 ?_
            refine q_getR hC (by first | assumption | rfl) flX10_28 dX10_match_88 ?_
            refine q_iload_n hC dX10_match_91 ?_
            refine q_ialdn hC (by first | assumption | rfl) (by first | assumption | omega) dX10_match_92 ?_
            rw [hF2'.c 7, (hT.2.2.2 b hb4).2.2]
            refine q_imul hC dX10_match_93 ?_
            rw [pk_mul]
            refine q_iadd hC dX10_match_94 ?_
            rw [nI_add]
            refine q_aload_n hC dX10_match_95 ?_
            refine q_aload_n hC dX10_match_96 ?_
            refine q_getR hC (by first | assumption | rfl) flX10_31 dX10_match_97 ?_
            refine q_iload_n hC dX10_match_100 ?_
            refine q_calliV2 hC (by first | assumption | rfl) cvX10_213 dX10_match_101 (m_costBy θ _ 8 a T (nO N) hok (nw_G hNo) hR2.2.1 (fun p hp => (hR2.2.2.1.1 p hp).1) ha rfl) (by decide) (fun r3 S3 hr3 => ?_)
            obtain ⟨rfl, hF3⟩ := hr3
            have hF3' := hF2'.trans hF3
            have hR3 := hR'.fr (hF3'.mono (M := [14, 15, 16, 17, 18, 19]) (by decide))
            refine q_isub hC dX10_match_104 ?_
            refine q_aload_n hC dX10_match_105 ?_
            refine q_aload_n hC dX10_match_106 ?_
            refine q_getR hC (by first | assumption | rfl) flX10_31 dX10_match_107 ?_
            refine q_iload_n hC dX10_match_110 ?_
            refine q_calliV2 hC (by first | assumption | rfl) cvX10_213 dX10_match_111 (m_costBy θ _ 8 b T (nO N) hok (nw_G hNo) hR3.2.1 (fun p hp => (hR3.2.2.1.1 p hp).1) hb4 rfl) (by decide) (fun r4 S4 hr4 => ?_)
            obtain ⟨rfl, hF4'⟩ := hr4
            refine q_isub hC dX10_match_114 ?_
            refine q_iret hC dX10_match_115 ?_
            refine ⟨?_, hR'.fr ((hF3'.trans hF4').mono (by decide))⟩
            rw [esp, if_pos (by omega)]
            unfold cN
            rw [om_owm, om_owm, if_pos (by omega), if_pos (by omega)]
            rfl
          · have u2 : 100000 * 1 ≤ yc T b B := Nat.mul_le_mul (by omega) b1
            rw [orN_ge f2]
            refine q_istore_5 hC dX10_match_57 ?_
            refine q_iload hC dX10_match_59 ?_
            refine q_bipush (v := (-9)) hC dX10_match_61 (by decide) ?_
            refine q_icmp_eq hC 73 dX10_match_63 (by decide) (fun hz => absurd hz (nI_n9 (by omega))) (fun hb => ?_)
            refine q_iload hC dX10_match_66 ?_
            refine q_bipush (v := (-9)) hC dX10_match_68 (by decide) ?_
            refine q_icmp_ne hC 76 dX10_match_70 (by decide) (fun hz => absurd hz (by first | decide | exact (show ¬ nI 1 = 0 by decide))) (fun hb => ?_)
            refine q_bipush (v := (-9)) hC dX10_match_73 (by decide) ?_
            refine q_iret hC dX10_match_75 ?_
            exact ⟨by rw [esp, if_neg (by omega)], hR2⟩
        · have u1 : 100000 * 1 ≤ yc T a B := Nat.mul_le_mul (by omega) a1
          rw [orN_ge f1]
          refine q_istore_5 hC dX10_match_57 ?_
          refine q_iload hC dX10_match_59 ?_
          refine q_bipush (v := (-9)) hC dX10_match_61 (by decide) ?_
          refine q_icmp_eq hC 73 dX10_match_63 (by decide) (fun hb => ?_) (fun hz => absurd hz (by first | decide | exact (show ¬ nI 1 = 0 by decide)))
          refine q_bipush (v := (-9)) hC dX10_match_73 (by decide) ?_
          refine q_iret hC dX10_match_75 ?_
          exact ⟨by rw [esp, if_neg (by omega)], hR2⟩
theorem m_stm (θ : Site) (S : St) (T : Tn) (N : Nw) (hok : TnOk T) (hNo : NwOk T N) (hT : S.1 0 2 = nI (tP T)) (hN : ∀ p, p < tP T → S.1 8 p = mdO (nO N p)) : Cti yX10_ownBy cX10_ownBy 5 (some .int) 0 θ shM [.ref (sA θ 0), .ref (sA θ 8), .int (-5)] S (fun r S' => r = nI (stm N) ∧ S' = S) := by
  have e : msk (fun p => decide (S.1 8 p = -5)) (tP T) = stm N := by
    rw [stm_P hNo hok.1]
    exact msk_congr (fun p hp => by rw [hN p hp]; exact decide_eq_decide.mpr (mdO_5 (hNo.1 p).1))
  rw [← e]
  exact m_ownBy θ S 8 (-5) T hok hT rfl
theorem or_msk (bt : Nat) (g : Nat → Bool) (n : Nat) : nI (bt ||| msk g n) ||| (if g n then nI (2 ^ n) else nI 0) = nI (bt ||| msk g (n + 1)) := by
  have h := msk_or g n
  have h2 : nI (bt ||| msk g n) = nI bt ||| nI (msk g n) := or_n.symm
  have h3 : nI (bt ||| msk g (n + 1)) = nI bt ||| nI (msk g (n + 1)) := or_n.symm
  rw [h2, h3, ← h, Int32.or_assoc]
theorem m_always (θ : Site) (S : St) (L : Nat) (x : Nat → Nat) (T : Tn) (N : Nw) (im : Nat → Option Nw) (tr : Int64) (hA : AOk T N im) (hR : RM S L x T N im tr)  : Cti yX10_always cX10_always 4 (some .int) 20 θ shM [.ref (sA θ 0)] S (fun r S' => r = sAlways T N ∧ RM S' L x T N im tr) := by
  obtain ⟨hok, hNo, hIm⟩ := hA
  have hR' := hR
  obtain ⟨hx, hT, hN, hI, htr⟩ := hR
  have h8 := hok.1
  have hF4 := hok.2.1
  refine Cti.mk (own := RX10) 3 [some (.ref (sA θ 0)), none, none, none] (fun K hC => ?_)
  have fams : ∀ n f bt S1 l3, f + n = tF T → bt < 256 → Fr S S1 [14] → alS T (stm N) f = some (stm N ||| bt) → K 4 [some (.ref (sA θ 0)), some (.int (nI bt)), some (.int (nI f)), l3] [] S1 := by
    intro n
    induction n with
    | zero =>
      intro f bt S1 l3 hf hbt hF hal
      have e : f = tF T := by omega
      subst e
      have hR2 := hR'.fr (hF.mono (M := [14, 15, 16, 17, 18, 19]) (by decide))
      refine q_iload_n hC dX10_always_4 ?_
      refine q_aload_n hC dX10_always_5 ?_
      refine q_getI hC (by first | assumption | rfl) flX10_75 dX10_always_6 ?_
      rw [hF.c 0, hT.2.1]
      refine q_icmp_ge hC 71 dX10_always_9 (by decide) (fun hb => ?_) (fun hz => absurd hz (fun z => z (nI_le (Nat.le_refl _) (by omega))))
      refine q_iload_n hC dX10_always_71 ?_
      refine q_aload_n hC dX10_always_72 ?_
      refine q_aload_n hC dX10_always_73 ?_
      refine q_getR hC (by first | assumption | rfl) flX10_31 dX10_always_74 ?_
      refine q_bipush (v := (-5)) hC dX10_always_77 (by decide) ?_
      refine q_calliV2 hC (by first | assumption | rfl) cvX10_178 dX10_always_79 (m_stm θ _ T N hok hNo hR2.2.1.1 (fun p hp => (hR2.2.2.1.1 p hp).1)) (by decide) (fun r2 S2 hr2 => ?_)
      obtain ⟨rfl, hS⟩ := hr2
      have hS := hS.symm
      subst hS
      refine q_ior hC dX10_always_82 ?_
      rw [or_n]
      refine q_iret hC dX10_always_83 ?_
      refine ⟨?_, hR2⟩
      unfold sAlways
      rw [hal, Nat.or_comm]
      rfl
    | succ n ih =>
      intro f bt S1 l3 hf hbt hF hal
      have hR2 := hR'.fr (hF.mono (M := [14, 15, 16, 17, 18, 19]) (by decide))
      have hs := alS_s hal
      refine q_iload_n hC dX10_always_4 ?_
      refine q_aload_n hC dX10_always_5 ?_
      refine q_getI hC (by first | assumption | rfl) flX10_75 dX10_always_6 ?_
      rw [hF.c 0, hT.2.1]
      refine q_icmp_ge hC 71 dX10_always_9 (by decide) (fun hz => absurd hz (fun z => by have := (nI_leI (by omega) (by omega)).mp z; omega)) (fun hb => ?_)
      refine q_aload_n hC dX10_always_12 ?_
      refine q_iload_n hC dX10_always_13 ?_
      refine q_iconst (v := nI 0) hC dX10_always_14 (by decide) ?_
      refine q_calliV2 hC (by first | assumption | rfl) cvX10_192 dX10_always_15 (m_wayOf θ _ f 0 T hok hR2.2.1 (by omega) (by omega)) (by decide) (fun r2 S2 hr2 => ?_)
      obtain ⟨rfl, hF2, -⟩ := hr2
      have hF2' := hF.trans hF2
      have hR3 := hR'.fr (hF2'.mono (M := [14, 15, 16, 17, 18, 19]) (by decide))
      by_cases hy : yd T f 0 < 100000
      · rw [if_neg (by omega)] at hs
        rw [orN_lt hy]
        have pcs : ∀ k p S3, p + k = tP T → Fr S S3 [14] → K 28 [some (.ref (sA θ 0)), some (.int (nI (bt ||| msk (fun p => decide (100000 ≤ yd T f (2 ^ p))) p))), some (.int (nI f)), some (.int (nI p))] [] S3 := by
          intro k
          induction k with
          | zero =>
            intro p S3 hp hF3
            have e : p = tP T := by omega
            subst e
            refine q_iload_n hC dX10_always_28 ?_
            refine q_aload_n hC dX10_always_29 ?_
            refine q_getI hC (by first | assumption | rfl) flX10_67 dX10_always_30 ?_
            rw [hF3.c 0, hT.1]
            refine q_icmp_ge hC 65 dX10_always_33 (by decide) (fun hb => ?_) (fun hz => absurd hz (fun z => z (nI_le (Nat.le_refl _) (by omega))))
            refine q_inc1_2 hC dX10_always_65 ?_
            refine q_goto hC 4 dX10_always_68 (by decide) ?_
            refine ih (f + 1) _ S3 _ (by omega) (or_le256 bt _ hbt h8) hF3 ?_
            rw [hs, Nat.or_assoc]
          | succ k ihp =>
            intro p S3 hp hF3
            have hp2 : 2 ^ p < 256 := Nat.pow_lt_pow_right (n := 8) (by omega) (by omega)
            have hR4 := hR'.fr (hF3.mono (M := [14, 15, 16, 17, 18, 19]) (by decide))
            refine q_iload_n hC dX10_always_28 ?_
            refine q_aload_n hC dX10_always_29 ?_
            refine q_getI hC (by first | assumption | rfl) flX10_67 dX10_always_30 ?_
            rw [hF3.c 0, hT.1]
            refine q_icmp_ge hC 65 dX10_always_33 (by decide) (fun hz => absurd hz (fun z => by have := (nI_leI (by omega) (by omega)).mp z; omega)) (fun hb => ?_)
            refine q_iload_n hC dX10_always_36 ?_
            refine q_aload_n hC dX10_always_37 ?_
            refine q_iload_n hC dX10_always_38 ?_
            refine q_iconst (v := nI 1) hC dX10_always_39 (by decide) ?_
            refine q_iload_n hC dX10_always_40 ?_
            refine q_ishl hC dX10_always_41 ?_
            rw [sh1 (by omega)]
            refine q_calliV2 hC (by first | assumption | rfl) cvX10_192 dX10_always_42 (m_wayOf θ _ f (2 ^ p) T hok hR4.2.1 (by omega) hp2) (by decide) (fun r4 S4 hr4 => ?_)
            obtain ⟨rfl, hF4', -⟩ := hr4
            have hF5 := hF3.trans hF4'
            by_cases hy2 : yd T f (2 ^ p) < 100000
            · have hd : decide (100000 ≤ yd T f (2 ^ p)) = false := by have : ¬ 100000 ≤ yd T f (2 ^ p) := by omega
                                                                       simpa using this
              rw [orN_lt hy2]
              refine q_bipush (v := (-9)) hC dX10_always_45 (by decide) ?_
              refine q_icmp_ne hC 56 dX10_always_47 (by decide) (fun hb => ?_) (fun hz => absurd hz (nI_n9 (by omega)))
              refine q_iconst (v := nI 0) hC dX10_always_56 (by decide) ?_
              refine q_ior hC dX10_always_57 ?_
              rw [show nI 0 = (if (fun p => decide (100000 ≤ yd T f (2 ^ p))) p = true then nI (2 ^ p) else nI 0) by simp [hd], or_msk bt (fun p => decide (100000 ≤ yd T f (2 ^ p))) p]
              refine q_istore_1 hC dX10_always_58 ?_
              refine q_inc1_3 hC dX10_always_59 ?_
              refine q_goto hC 28 dX10_always_62 (by decide) ?_
              exact ihp (p + 1) _ (by omega) hF5
            · have hd : decide (100000 ≤ yd T f (2 ^ p)) = true := by have : 100000 ≤ yd T f (2 ^ p) := by omega
                                                                      simpa using this
              rw [orN_ge hy2]
              refine q_bipush (v := (-9)) hC dX10_always_45 (by decide) ?_
              refine q_icmp_ne hC 56 dX10_always_47 (by decide) (fun hz => absurd hz (by first | decide | exact (show ¬ nI 1 = 0 by decide))) (fun hb => ?_)
              refine q_iconst (v := nI 1) hC dX10_always_50 (by decide) ?_
              refine q_iload_n hC dX10_always_51 ?_
              refine q_ishl hC dX10_always_52 ?_
              rw [sh1 (by omega)]
              refine q_goto hC 57 dX10_always_53 (by decide) ?_
              refine q_ior hC dX10_always_57 ?_
              rw [show nI (2 ^ p) = (if (fun p => decide (100000 ≤ yd T f (2 ^ p))) p = true then nI (2 ^ p) else nI 0) by simp [hd], or_msk bt (fun p => decide (100000 ≤ yd T f (2 ^ p))) p]
              refine q_istore_1 hC dX10_always_58 ?_
              refine q_inc1_3 hC dX10_always_59 ?_
              refine q_goto hC 28 dX10_always_62 (by decide) ?_
              exact ihp (p + 1) _ (by omega) hF5
        refine q_bipush (v := (-9)) hC dX10_always_18 (by decide) ?_
        refine q_icmp_ne hC 26 dX10_always_20 (by decide) (fun hb => ?_) (fun hz => absurd hz (nI_n9 (by omega)))
        refine q_iconst (v := nI 0) hC dX10_always_26 (by decide) ?_
        refine q_istore_3 hC dX10_always_27 ?_
        have h0 := pcs (tP T) 0 S2 (by omega) hF2'
        have e0 : bt ||| msk (fun p => decide (100000 ≤ yd T f (2 ^ p))) 0 = bt := Nat.or_zero bt
        rw [e0] at h0
        exact h0
      · rw [if_pos (by omega)] at hs
        rw [orN_ge hy]
        refine q_bipush (v := (-9)) hC dX10_always_18 (by decide) ?_
        refine q_icmp_ne hC 26 dX10_always_20 (by decide) (fun hz => absurd hz (by first | decide | exact (show ¬ nI 1 = 0 by decide))) (fun hb => ?_)
        refine q_bipush (v := (-9)) hC dX10_always_23 (by decide) ?_
        refine q_iret hC dX10_always_25 ?_
        refine ⟨?_, hR3⟩
        have := alS_none hs (tF T - (f + 1))
        rw [show f + 1 + (tF T - (f + 1)) = tF T by omega] at this
        unfold sAlways
        rw [this]
        rfl
  refine q_iconst (v := nI 0) hC dX10_always_0 (by decide) ?_
  refine q_istore_1 hC dX10_always_1 ?_
  refine q_iconst (v := nI 0) hC dX10_always_2 (by decide) ?_
  refine q_istore_2 hC dX10_always_3 ?_
  exact fams (tF T) 0 0 S _ (by omega) (by omega) Fr.rfl' (by rw [Nat.or_zero]; rfl)
