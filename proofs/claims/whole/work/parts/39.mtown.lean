theorem m_takesTold (θ : Site) (S : St) (a L : Nat) (x : Nat → Nat) (T : Tn) (N : Nw) (hx : MTx S L x) (h17 : S.1 0 17 = nI a) (haL : a ≤ L) (hok : TnOk T) (hz : FlZ T N) (hM : RdM S T N) (w : Int64) (res : PR) (hw : (w = lN 20594117 ∧ res = pSto L x T N a) ∨ (w = lN 16832676 ∧ res = pPav L x T N a) ∨ (w = lN 6700516 ∧ res = pFlo L x T N a)) : Cti yX10_takesTold cX10_takesTold 4 (some .boolean) 3 θ shM [.ref (sA θ 0), .long w] S (fun r S' => MPo S S' r res) := by
  have h8 := hok.1
  have hF4 := hok.2.1
  refine Cti.mkz (own := RX10) 1 [some (.ref (sA θ 0)), some (.long w), none, none] (fun K hC => ?_)
  refine q_aload_n hC dX10_takesTold_0 ?_
  refine q_iconst (v := nI 0) hC dX10_takesTold_1 (by decide) ?_
  refine q_aload_n hC dX10_takesTold_2 ?_
  refine q_getI hC (by first | assumption | rfl) flX10_120 dX10_takesTold_3 ?_
  rw [hM.1]
  refine q_iconst (v := nI 1) hC dX10_takesTold_6 (by decide) ?_
  refine q_isub hC dX10_takesTold_7 ?_
  refine q_calliV2 hC (by first | assumption | rfl) cvX10_123 dX10_takesTold_8 (m_takes θ _ a L 0 (tP T) x _ (by omega) (by omega) (ml_pred h8) hx h17 haL) (by decide) (fun r S1 hr => ?_)
  obtain ⟨rfl, hF1, g1, g2⟩ := hr
  have hx1 := hF1.tx hx
  have hM1 := hM.frN hF1
  by_cases c1 : tkK L x a = 1 ∧ tkV L x a < tP T
  · rw [if_pos ⟨c1, Nat.zero_le _⟩]
    obtain ⟨g3, g4⟩ := g2 c1
    have a1 := tk_adv (x := x) haL (by omega)
    have e1 : (w = lN 20594117 ∧ res = pStp L x (tkE L x a) fun e2 => .inr (T, nPav N (tkV L x a) 5, e2)) ∨ (w = lN 16832676 ∧ res = pNum L x (tkE L x a) (tF T) fun f e2 => pStp L x e2 fun e3 => .inr (T, nPav N (tkV L x a) f, e3)) ∨ (w = lN 6700516 ∧ res = pNum L x (tkE L x a) 10 fun n e2 => pStp L x e2 fun e3 => .inr (T, nFlo N (tkV L x a) n, e3)) := by
      rcases hw with ⟨q1, q2⟩ | ⟨q1, q2⟩ | ⟨q1, q2⟩
      · exact Or.inl ⟨q1, by rw [q2]; unfold pSto; unfold pNum; rw [if_pos c1]⟩
      · exact Or.inr (Or.inl ⟨q1, by rw [q2]; unfold pPav; unfold pNum; rw [if_pos c1]⟩)
      · exact Or.inr (Or.inr ⟨q1, by rw [q2]; unfold pFlo; unfold pNum; rw [if_pos c1]⟩)
    clear g2 hw
    generalize tkV L x a = A at c1 e1 g4 ⊢
    generalize tkE L x a = b1 at g3 a1 e1
    refine q_if_ne hC 16 dX10_takesTold_11 (by decide) (fun hb1 => ?_) (fun hb1 => ?_)
    · refine q_iconst (v := nI 5) hC dX10_takesTold_16 (by decide) ?_
      refine q_aload_n hC dX10_takesTold_17 ?_
      refine q_getL hC (by first | assumption | rfl) flX10_91 dX10_takesTold_18 ?_
      rw [g4]
      refine q_l2i hC dX10_takesTold_21 ?_
      rw [lN_i]
      refine q_imul hC dX10_takesTold_22 ?_
      rw [pk_mul]
      refine q_istore_3 hC dX10_takesTold_23 ?_
      refine q_lload_n hC dX10_takesTold_24 ?_
      rcases e1 with ⟨rfl, e1⟩ | e1
      · refine q_ldc2 hC klX10_134 dX10_takesTold_25 ?_
        refine q_lcmp hC dX10_takesTold_28 ?_
        refine q_if_ne hC 47 dX10_takesTold_29 (by decide) (fun hb2 => ?_) (fun hb2 => ?_)
        · exact absurd rfl hb2
        · refine q_aload_n hC dX10_takesTold_32 ?_
          refine q_getR hC (by first | assumption | rfl) flX10_46 dX10_takesTold_33 ?_
          refine q_iload_n hC dX10_takesTold_36 ?_
          refine q_iconst (v := nI 3) hC dX10_takesTold_37 (by decide) ?_
          refine q_iadd hC dX10_takesTold_38 ?_
          rw [nI_add]
          refine q_bipush (v := (-5)) hC dX10_takesTold_39 (by decide) ?_
          refine q_iastn hC (by first | assumption | rfl) (by first | assumption | omega) dX10_takesTold_41 ?_
          have hM2 : RdM (up S1 13 (5 * A + 3) (-5)) T (nPav N A 5) := hM1.own (f := 5) c1.2 h8
          have hF2 : FrI S (up S1 13 (5 * A + 3) (-5)) := hF1.I.trans FrI.u13
          refine q_aload_n hC dX10_takesTold_42 ?_
          refine q_calliV0 hC (by first | assumption | rfl) cvX10_127 dX10_takesTold_43 (m_stops θ _ b1 L x (hF2.tx hx) (by rw [up_oc (by decide)]; exact g3) a1.2) (by decide) (fun r5 S5 hr5 => ?_)
          obtain ⟨rfl, hF5, l1, l2⟩ := hr5
          refine q_iret hC dX10_takesTold_46 ?_
          by_cases c4 : tkK L x b1 = 2
          · rw [if_pos c4]
            unfold pStp at e1
            rw [if_pos c4] at e1
            exact ⟨MPo.good (hF2.trans hF5.I) (hM2.frN hF5) (l2 c4) hz e1, by decide⟩
          · rw [if_neg c4]
            unfold pStp at e1
            rw [if_neg c4] at e1
            exact ⟨MPo.bad (hF2.trans hF5.I) l1 e1, by decide⟩
      · have hne : ¬ lg_cmp w (lN 20594117) = 0 := by
          rcases e1 with ⟨rfl, -⟩ | ⟨rfl, -⟩ <;> decide
        refine q_ldc2 hC klX10_134 dX10_takesTold_25 ?_
        refine q_lcmp hC dX10_takesTold_28 ?_
        refine q_if_ne hC 47 dX10_takesTold_29 (by decide) (fun hb2 => ?_) (fun hb2 => ?_)
        · rcases e1 with ⟨rfl, e1⟩ | ⟨rfl, e1⟩
          · refine q_aload_n hC dX10_takesTold_47 ?_
            refine q_iconst (v := nI 0) hC dX10_takesTold_48 (by decide) ?_
            refine q_lload_n hC dX10_takesTold_49 ?_
            refine q_ldc2 hC klX10_136 dX10_takesTold_50 ?_
            refine q_lcmp hC dX10_takesTold_53 ?_
            refine q_if_ne hC 66 dX10_takesTold_54 (by decide) (fun hb3 => ?_) (fun hb3 => ?_)
            · exact absurd rfl hb3
            · refine q_aload_n hC dX10_takesTold_57 ?_
              refine q_getI hC (by first | assumption | rfl) flX10_131 dX10_takesTold_58 ?_
              rw [hF1.1 22 (by omega), hM.2.1]
              refine q_iconst (v := nI 1) hC dX10_takesTold_61 (by decide) ?_
              refine q_isub hC dX10_takesTold_62 ?_
              refine q_goto hC 68 dX10_takesTold_63 (by decide) ?_
              refine q_calliV2 hC (by first | assumption | rfl) cvX10_123 dX10_takesTold_68 (m_takes θ _ b1 L 0 (tF T) x _ (by omega) (by omega) (ml_pred (by omega)) hx1 g3 a1.2) (by decide) (fun r2 S2 hr2 => ?_)
              obtain ⟨rfl, hF2, k1, k2⟩ := hr2
              have hF12 := hF1.trans hF2
              have hM2 := hM1.frN hF2
              by_cases c2 : tkK L x b1 = 1 ∧ tkV L x b1 < tF T
              · rw [if_pos ⟨c2, Nat.zero_le _⟩]
                obtain ⟨k3, k4⟩ := k2 c2
                have a2 := tk_adv (x := x) a1.2 (by omega)
                unfold pNum at e1
                rw [if_pos c2] at e1
                dsimp only at e1
                clear k2
                generalize tkV L x b1 = B at c2 e1 k4 ⊢
                generalize tkE L x b1 = b2 at k3 a2 e1
                refine q_if_ne hC 76 dX10_takesTold_71 (by decide) (fun hb4 => ?_) (fun hb4 => ?_)
                · refine q_aload_n hC dX10_takesTold_76 ?_
                  refine q_getR hC (by first | assumption | rfl) flX10_46 dX10_takesTold_77 ?_
                  refine q_lload_n hC dX10_takesTold_80 ?_
                  refine q_ldc2 hC klX10_136 dX10_takesTold_81 ?_
                  refine q_lcmp hC dX10_takesTold_84 ?_
                  refine q_if_ne hC 94 dX10_takesTold_85 (by decide) (fun hb5 => ?_) (fun hb5 => ?_)
                  · exact absurd rfl hb5
                  · refine q_iload_n hC dX10_takesTold_88 ?_
                    refine q_iconst (v := nI 3) hC dX10_takesTold_89 (by decide) ?_
                    refine q_iadd hC dX10_takesTold_90 ?_
                    rw [nI_add]
                    refine q_goto hC 97 dX10_takesTold_91 (by decide) ?_
                    refine q_aload_n hC dX10_takesTold_97 ?_
                    refine q_getL hC (by first | assumption | rfl) flX10_91 dX10_takesTold_98 ?_
                    rw [k4]
                    refine q_l2i hC dX10_takesTold_101 ?_
                    rw [lN_i]
                    refine q_iastn hC (by first | assumption | rfl) (by first | assumption | omega) dX10_takesTold_102 ?_
                    have hM3 := hM2.own (f := B) c1.2 h8
                    have em : mdO B = nI B := by unfold mdO; rw [if_pos (by omega)]
                    rw [em] at hM3
                    have hF3 : FrI S (up S2 13 (5 * A + 3) (nI B)) := hF12.I.trans FrI.u13
                    refine q_aload_n hC dX10_takesTold_103 ?_
                    refine q_calliV0 hC (by first | assumption | rfl) cvX10_127 dX10_takesTold_104 (m_stops θ _ b2 L x (hF3.tx hx) (by rw [up_oc (by decide)]; exact k3) a2.2) (by decide) (fun r5 S5 hr5 => ?_)
                    obtain ⟨rfl, hF5, l1, l2⟩ := hr5
                    refine q_iret hC dX10_takesTold_107 ?_
                    by_cases c4 : tkK L x b2 = 2
                    · rw [if_pos c4]
                      unfold pStp at e1
                      rw [if_pos c4] at e1
                      exact ⟨MPo.good (hF3.trans hF5.I) (hM3.frN hF5) (l2 c4) hz e1, by decide⟩
                    · rw [if_neg c4]
                      unfold pStp at e1
                      rw [if_neg c4] at e1
                      exact ⟨MPo.bad (hF3.trans hF5.I) l1 e1, by decide⟩
                · exact absurd hb4 (by decide)
              · rw [if_neg (fun q => c2 q.1)]
                unfold pNum at e1
                rw [if_neg c2] at e1
                refine q_if_ne hC 76 dX10_takesTold_71 (by decide) (fun hb4 => ?_) (fun hb4 => ?_)
                · exact absurd rfl hb4
                · refine q_iconst (v := nI 0) hC dX10_takesTold_74 (by decide) ?_
                  refine q_iret hC dX10_takesTold_75 ?_
                  exact ⟨MPo.bad hF12.I k1 e1, by decide⟩
          · refine q_aload_n hC dX10_takesTold_47 ?_
            refine q_iconst (v := nI 0) hC dX10_takesTold_48 (by decide) ?_
            refine q_lload_n hC dX10_takesTold_49 ?_
            refine q_ldc2 hC klX10_136 dX10_takesTold_50 ?_
            refine q_lcmp hC dX10_takesTold_53 ?_
            refine q_if_ne hC 66 dX10_takesTold_54 (by decide) (fun hb3 => ?_) (fun hb3 => ?_)
            · refine q_bipush (v := nI 9) hC dX10_takesTold_66 (by decide) ?_
              refine q_calliV2 hC (by first | assumption | rfl) cvX10_123 dX10_takesTold_68 (m_takes θ _ b1 L 0 10 x _ (by omega) (by omega) (ml_nI (m := 9) (by omega)) hx1 g3 a1.2) (by decide) (fun r2 S2 hr2 => ?_)
              obtain ⟨rfl, hF2, k1, k2⟩ := hr2
              have hF12 := hF1.trans hF2
              have hM2 := hM1.frN hF2
              by_cases c2 : tkK L x b1 = 1 ∧ tkV L x b1 < 10
              · rw [if_pos ⟨c2, Nat.zero_le _⟩]
                obtain ⟨k3, k4⟩ := k2 c2
                have a2 := tk_adv (x := x) a1.2 (by omega)
                unfold pNum at e1
                rw [if_pos c2] at e1
                dsimp only at e1
                clear k2
                generalize tkV L x b1 = B at c2 e1 k4 ⊢
                generalize tkE L x b1 = b2 at k3 a2 e1
                refine q_if_ne hC 76 dX10_takesTold_71 (by decide) (fun hb4 => ?_) (fun hb4 => ?_)
                · refine q_aload_n hC dX10_takesTold_76 ?_
                  refine q_getR hC (by first | assumption | rfl) flX10_46 dX10_takesTold_77 ?_
                  refine q_lload_n hC dX10_takesTold_80 ?_
                  refine q_ldc2 hC klX10_136 dX10_takesTold_81 ?_
                  refine q_lcmp hC dX10_takesTold_84 ?_
                  refine q_if_ne hC 94 dX10_takesTold_85 (by decide) (fun hb5 => ?_) (fun hb5 => ?_)
                  · refine q_iload_n hC dX10_takesTold_94 ?_
                    refine q_iconst (v := nI 4) hC dX10_takesTold_95 (by decide) ?_
                    refine q_iadd hC dX10_takesTold_96 ?_
                    rw [nI_add]
                    refine q_aload_n hC dX10_takesTold_97 ?_
                    refine q_getL hC (by first | assumption | rfl) flX10_91 dX10_takesTold_98 ?_
                    rw [k4]
                    refine q_l2i hC dX10_takesTold_101 ?_
                    rw [lN_i]
                    refine q_iastn hC (by first | assumption | rfl) (by first | assumption | omega) dX10_takesTold_102 ?_
                    have hM3 := hM2.flo (n := B) c1.2 h8
                    have hF3 : FrI S (up S2 13 (5 * A + 4) (nI B)) := hF12.I.trans FrI.u13
                    refine q_aload_n hC dX10_takesTold_103 ?_
                    refine q_calliV0 hC (by first | assumption | rfl) cvX10_127 dX10_takesTold_104 (m_stops θ _ b2 L x (hF3.tx hx) (by rw [up_oc (by decide)]; exact k3) a2.2) (by decide) (fun r5 S5 hr5 => ?_)
                    obtain ⟨rfl, hF5, l1, l2⟩ := hr5
                    refine q_iret hC dX10_takesTold_107 ?_
                    by_cases c4 : tkK L x b2 = 2
                    · rw [if_pos c4]
                      unfold pStp at e1
                      rw [if_pos c4] at e1
                      exact ⟨MPo.good (hF3.trans hF5.I) (hM3.frN hF5) (l2 c4) (hz.flo c1.2) e1, by decide⟩
                    · rw [if_neg c4]
                      unfold pStp at e1
                      rw [if_neg c4] at e1
                      exact ⟨MPo.bad (hF3.trans hF5.I) l1 e1, by decide⟩
                  · exact absurd hb5 (by decide)
                · exact absurd hb4 (by decide)
              · rw [if_neg (fun q => c2 q.1)]
                unfold pNum at e1
                rw [if_neg c2] at e1
                refine q_if_ne hC 76 dX10_takesTold_71 (by decide) (fun hb4 => ?_) (fun hb4 => ?_)
                · exact absurd rfl hb4
                · refine q_iconst (v := nI 0) hC dX10_takesTold_74 (by decide) ?_
                  refine q_iret hC dX10_takesTold_75 ?_
                  exact ⟨MPo.bad hF12.I k1 e1, by decide⟩
            · exact absurd hb3 (by decide)
        · exact absurd hb2 hne
    · exact absurd hb1 (by decide)
  · rw [if_neg (fun q => c1 q.1)]
    have e1 : res = .inl (tkS L x a) := by
      rcases hw with ⟨-, q2⟩ | ⟨-, q2⟩ | ⟨-, q2⟩
      · rw [q2]; unfold pSto; unfold pNum; rw [if_neg c1]
      · rw [q2]; unfold pPav; unfold pNum; rw [if_neg c1]
      · rw [q2]; unfold pFlo; unfold pNum; rw [if_neg c1]
    refine q_if_ne hC 16 dX10_takesTold_11 (by decide) (fun hb1 => ?_) (fun hb1 => ?_)
    · exact absurd rfl hb1
    · refine q_iconst (v := nI 0) hC dX10_takesTold_14 (by decide) ?_
      refine q_iret hC dX10_takesTold_15 ?_
      exact ⟨MPo.bad hF1.I g1 e1, by decide⟩
/-- the reference's takesAll() -/
theorem m_takesAll (θ : Site) (S : St) (L : Nat) (x : Nat → Nat) (hx : MTx S L x) : Cti yX10_takesAll cX10_takesAll 5 (some .int) 4 θ shM [.ref (sA θ 0)] S (fun r S' => FrI S S' ∧ (∀ s, pAll L x 301 0 T00 N00 0 = .inl s → r = -1 ∧ S'.1 0 18 = nI s) ∧ ∀ k T N, pAll L x 301 0 T00 N00 0 = .inr (k, T, N) → r = nI k ∧ k ≤ 300 ∧ RdM S' T N ∧ TnOk T ∧ NwOk T N) := by
  have hL := hx.1
  obtain ⟨w0, w1, w2, w3, w4⟩ := wcd_val
  refine Cti.mk (own := RX10) 4 [some (.ref (sA θ 0)), none, none, none, none] (fun K hC => ?_)
  have loop : ∀ n i T N a l2 l3 l4 S1, L < a + n → a ≤ L → 2 * i ≤ a → FrI S S1 → TnOk T → NwOk T N → FlZ T N → RdM S1 T N → MTok S1 L x a → pAll L x 301 0 T00 N00 0 = pAll L x n i T N a → K 21 [some (.ref (sA θ 0)), some (.int (nI i)), l2, l3, l4] [] S1 := by
    intro n
    induction n with
    | zero => intro i T N a l2 l3 l4 S1 h1 h2; omega
    | succ n ih =>
      intro i T N a l2 l3 l4 S1 hn haL hi hF1 hok hNo hz hM hm he
      obtain ⟨m1, kd, mk, m2, m3, m4, m5, m6, m7, m8, m9⟩ := hm
      have hx1 := hF1.tx hx
      have hpi := pItm_ok (x := x) haL hok hNo
      have hbd := tk_bd (x := x) haL
      by_cases h0 : tkK L x a = 0
      · have k0 := m3.mpr h0
        subst k0
        have he2 : pAll L x 301 0 T00 N00 0 = .inr (i, T, N) := by rw [he, pAll_end h0]
        refine q_aload_n hC dX10_takesAll_21 ?_
        refine q_getI hC (by first | assumption | rfl) flX10_102 dX10_takesAll_22 ?_
        rw [m2]
        refine q_if_eq hC 133 dX10_takesAll_25 (by decide) (fun hb => ?_) (fun hb => ?_)
        · refine q_iload_n hC dX10_takesAll_133 ?_
          refine q_iret hC dX10_takesAll_134 ?_
          exact ⟨hF1, fun s e' => (by rw [he2] at e'; cases e'), fun k T' N' e' => (by rw [he2] at e'; cases e'; exact ⟨rfl, by omega, hM, hok, hNo⟩)⟩
        · exact absurd rfl hb
      · have k0 : kd ≠ 0 := fun z => h0 (m3.mp z)
        have after : ∀ r wv S2, MPo S1 S2 r (pItm L x T N a) → K 114 [some (.ref (sA θ 0)), some (.int (nI i)), some (.long wv), none, l4] [.int r] S2 := by
          intro r wv S2 hpo
          obtain ⟨hF2, p1, p2⟩ := hpo
          have hF12 := hF1.trans hF2
          have hx2 := hF12.tx hx
          cases hp : pItm L x T N a with
          | inl s =>
            obtain ⟨rfl, q2⟩ := p1 s hp
            have he2 : pAll L x 301 0 T00 N00 0 = .inl s := by rw [he, pAll_bad h0 hp]
            refine q_istore_4 hC dX10_takesAll_114 ?_
            refine q_iload hC dX10_takesAll_116 ?_
            refine q_if_ne hC 123 dX10_takesAll_118 (by decide) (fun hb2 => ?_) (fun hb2 => ?_)
            · exact absurd rfl hb2
            · refine q_iconst (v := (-1)) hC dX10_takesAll_121 (by decide) ?_
              refine q_iret hC dX10_takesAll_122 ?_
              exact ⟨hF12, fun s' e' => (by rw [he2] at e'; cases e'; exact ⟨rfl, q2⟩), fun k T' N' e' => (by rw [he2] at e'; cases e')⟩
          | inr z =>
            obtain ⟨T', N', a'⟩ := z
            obtain ⟨rfl, q2, q3, q4⟩ := p2 T' N' a' hp
            obtain ⟨b1, b2, b3, b4⟩ := hpi T' N' a' hp
            refine q_istore_4 hC dX10_takesAll_114 ?_
            refine q_iload hC dX10_takesAll_116 ?_
            refine q_if_ne hC 123 dX10_takesAll_118 (by decide) (fun hb2 => ?_) (fun hb2 => ?_)
            · refine q_inc1_1 hC dX10_takesAll_123 ?_
              refine q_aload_n hC dX10_takesAll_126 ?_
              refine q_callvV0 hC (by first | assumption | rfl) cvX10_117 dX10_takesAll_127 (m_next θ _ a' L x hx2 q3 b2) (by decide) (fun S3 hr3 => ?_)
              obtain ⟨hF3, hm3⟩ := hr3
              refine q_goto hC 21 dX10_takesAll_130 (by decide) ?_
              exact ih (i + 1) T' N' a' _ _ _ S3 (by omega) b2 (by omega) (hF12.trans hF3.I) b3 b4 q4 (q2.frN hF3) hm3 (by rw [he, pAll_go h0 hp])
            · exact absurd hb2 (by decide)
        -- behind the word
        have bad : ∀ wv, pItm L x T N a = .inl (tkS L x a) → K 113 [some (.ref (sA θ 0)), some (.int (nI i)), some (.long wv), none, l4] [] S1 := by
          intro wv hp
          refine q_iconst (v := nI 0) hC dX10_takesAll_113 (by decide) ?_
          exact after (nI 0) wv S1 (MPo.bad FrI.rfl' m1 hp)
        refine q_aload_n hC dX10_takesAll_21 ?_
        refine q_getI hC (by first | assumption | rfl) flX10_102 dX10_takesAll_22 ?_
        rw [m2]
        refine q_if_eq hC 133 dX10_takesAll_25 (by decide) (fun hb => ?_) (fun hb => ?_)
        · exact absurd (nI_small (b := 0) (by omega) (by omega) hb) k0
        · refine q_aload_n hC dX10_takesAll_28 ?_
          refine q_getI hC (by first | assumption | rfl) flX10_102 dX10_takesAll_29 ?_
          rw [m2]
          by_cases k1 : kd = 1
          · subst k1
            obtain ⟨v1, v2⟩ := m8 rfl
            have v20 := v2 0 (by omega)
            have v21 := v2 1 (by omega)
            have v22 := v2 2 (by omega)
            have v23 := v2 3 (by omega)
            have v24 := v2 4 (by omega)
            rw [w0] at v20
            rw [w1] at v21
            rw [w2] at v22
            rw [w3] at v23
            rw [w4] at v24
            have h17 := m5 (by omega)
            have told : ∀ wv, wv = S1.2 0 20 → (wv = lN 20594117 ∧ pItm L x T N a = pSto L x T N (tkE L x a)) ∨ (wv = lN 16832676 ∧ pItm L x T N a = pPav L x T N (tkE L x a)) ∨ (wv = lN 6700516 ∧ pItm L x T N a = pFlo L x T N (tkE L x a)) → K 101 [some (.ref (sA θ 0)), some (.int (nI i)), some (.long wv), none, l4] [] S1 := by
              intro wv _ hw
              refine q_aload_n hC dX10_takesAll_101 ?_
              refine q_lload_n hC dX10_takesAll_102 ?_
              refine q_calliV1 hC (by first | assumption | rfl) cvX10_150 dX10_takesAll_103 (m_takesTold θ _ (tkE L x a) L x T N hx1 h17 hbd.2.2.2.1 hok hz hM wv (pItm L x T N a) hw) (by decide) (fun r2 S2 hr2 => ?_)
              have hcopy := hr2
              obtain ⟨hF2, p1, p2⟩ := hr2
              cases hp : pItm L x T N a with
              | inl s =>
                obtain ⟨rfl, q2⟩ := p1 s hp
                refine q_if_eq hC 113 dX10_takesAll_106 (by decide) (fun hb4 => ?_) (fun hb4 => ?_)
                · refine q_iconst (v := nI 0) hC dX10_takesAll_113 (by decide) ?_
                  exact after (nI 0) wv S2 hcopy
                · exact absurd rfl hb4
              | inr z =>
                obtain ⟨T', N', a'⟩ := z
                obtain ⟨rfl, q2, q3, q4⟩ := p2 T' N' a' hp
                refine q_if_eq hC 113 dX10_takesAll_106 (by decide) (fun hb4 => ?_) (fun hb4 => ?_)
                · exact absurd hb4 (by decide)
                · refine q_iconst (v := nI 1) hC dX10_takesAll_109 (by decide) ?_
                  refine q_goto hC 114 dX10_takesAll_110 (by decide) ?_
                  exact after (nI 1) wv S2 hcopy
            refine q_iconst (v := nI 1) hC dX10_takesAll_32 (by decide) ?_
            refine q_icmp_ne hC 43 dX10_takesAll_33 (by decide) (fun hb2 => ?_) (fun hb2 => ?_)
            · exact absurd rfl hb2
            · refine q_aload_n hC dX10_takesAll_36 ?_
              refine q_getL hC (by first | assumption | rfl) flX10_91 dX10_takesAll_37 ?_
              refine q_goto hC 46 dX10_takesAll_40 (by decide) ?_
              refine q_lstore_2 hC dX10_takesAll_46 ?_
              generalize hwv : S1.2 0 20 = wv at v20 v21 v22 v23 v24 ⊢
              refine q_lload_n hC dX10_takesAll_47 ?_
              refine q_ldc2 hC klX10_138 dX10_takesAll_48 ?_
              refine q_lcmp hC dX10_takesAll_51 ?_
              by_cases c0 : isW x (tkS L x a) (tkE L x a) 0 = true
              · have ek : tkK L x a = 3 := by rw [v1]; unfold wK; rw [if_pos c0]
                refine q_if_ne hC 62 dX10_takesAll_52 (by decide) (fun hb3 => ?_) (fun hb3 => ?_)
                · exact absurd ((lg_eq _ _).mpr (v20.mpr c0)) hb3
                · refine q_aload_n hC dX10_takesAll_55 ?_
                  refine q_calliV0 hC (by first | assumption | rfl) cvX10_140 dX10_takesAll_56 (m_takesPiece θ _ (tkE L x a) (tkS L x a) L x T N hx1 h17 m1 hbd.2.2.2.1 hok hNo hz hM) (by decide) (fun r2 S2 hr2 => ?_)
                  refine q_goto hC 114 dX10_takesAll_59 (by decide) ?_
                  exact after r2 wv S2 (by unfold pItm; rw [if_pos ek]; exact hr2)
              · refine q_if_ne hC 62 dX10_takesAll_52 (by decide) (fun hb3 => ?_) (fun hb3 => ?_)
                · refine q_lload_n hC dX10_takesAll_62 ?_
                  refine q_ldc2 hC klX10_143 dX10_takesAll_63 ?_
                  refine q_lcmp hC dX10_takesAll_66 ?_
                  by_cases c1 : isW x (tkS L x a) (tkE L x a) 1 = true
                  · have ek : tkK L x a = 4 := by rw [v1]; unfold wK; rw [if_neg c0, if_pos c1]
                    refine q_if_ne hC 77 dX10_takesAll_67 (by decide) (fun hb4 => ?_) (fun hb4 => ?_)
                    · exact absurd ((lg_eq _ _).mpr (v21.mpr c1)) hb4
                    · refine q_aload_n hC dX10_takesAll_70 ?_
                      refine q_calliV0 hC (by first | assumption | rfl) cvX10_145 dX10_takesAll_71 (m_takesFamily θ _ (tkE L x a) (tkS L x a) L x T N hx1 h17 m1 hbd.2.2.2.1 hok hNo hz hM) (by decide) (fun r2 S2 hr2 => ?_)
                      refine q_goto hC 114 dX10_takesAll_74 (by decide) ?_
                      exact after r2 wv S2 (by unfold pItm; rw [if_neg (by omega), if_pos ek]; exact hr2)
                  · refine q_if_ne hC 77 dX10_takesAll_67 (by decide) (fun hb4 => ?_) (fun hb4 => ?_)
                    · refine q_lload_n hC dX10_takesAll_77 ?_
                      refine q_ldc2 hC klX10_136 dX10_takesAll_78 ?_
                      refine q_lcmp hC dX10_takesAll_81 ?_
                      by_cases c2 : isW x (tkS L x a) (tkE L x a) 2 = true
                      · have ek : tkK L x a = 5 := by rw [v1]; unfold wK; rw [if_neg c0, if_neg c1, if_pos c2]
                        refine q_if_eq hC 101 dX10_takesAll_82 (by decide) (fun hb5 => ?_) (fun hb5 => ?_)
                        · exact told wv hwv.symm (Or.inr (Or.inl ⟨v22.mpr c2, by unfold pItm; rw [if_neg (by omega), if_neg (by omega), if_pos ek]⟩))
                        · exact absurd ((lg_eq _ _).mpr (v22.mpr c2)) hb5
                      · refine q_if_eq hC 101 dX10_takesAll_82 (by decide) (fun hb5 => ?_) (fun hb5 => ?_)
                        · exact absurd (v22.mp ((lg_eq _ _).mp hb5)) c2
                        · refine q_lload_n hC dX10_takesAll_85 ?_
                          refine q_ldc2 hC klX10_134 dX10_takesAll_86 ?_
                          refine q_lcmp hC dX10_takesAll_89 ?_
                          by_cases c3 : isW x (tkS L x a) (tkE L x a) 3 = true
                          · have ek : tkK L x a = 6 := by rw [v1]; unfold wK; rw [if_neg c0, if_neg c1, if_neg c2, if_pos c3]
                            refine q_if_eq hC 101 dX10_takesAll_90 (by decide) (fun hb6 => ?_) (fun hb6 => ?_)
                            · exact told wv hwv.symm (Or.inl ⟨v23.mpr c3, by unfold pItm; rw [if_neg (by omega), if_neg (by omega), if_neg (by omega), if_pos ek]⟩)
                            · exact absurd ((lg_eq _ _).mpr (v23.mpr c3)) hb6
                          · refine q_if_eq hC 101 dX10_takesAll_90 (by decide) (fun hb6 => ?_) (fun hb6 => ?_)
                            · exact absurd (v23.mp ((lg_eq _ _).mp hb6)) c3
                            · refine q_lload_n hC dX10_takesAll_93 ?_
                              refine q_ldc2 hC klX10_148 dX10_takesAll_94 ?_
                              refine q_lcmp hC dX10_takesAll_97 ?_
                              by_cases c4 : isW x (tkS L x a) (tkE L x a) 4 = true
                              · have ek : tkK L x a = 7 := by rw [v1]; unfold wK; rw [if_neg c0, if_neg c1, if_neg c2, if_neg c3, if_pos c4]
                                refine q_if_ne hC 113 dX10_takesAll_98 (by decide) (fun hb7 => ?_) (fun hb7 => ?_)
                                · exact absurd ((lg_eq _ _).mpr (v24.mpr c4)) hb7
                                · exact told wv hwv.symm (Or.inr (Or.inr ⟨v24.mpr c4, by unfold pItm; rw [if_neg (by omega), if_neg (by omega), if_neg (by omega), if_neg (by omega), if_pos ek]⟩))
                              · have ek : tkK L x a = 8 := by rw [v1]; unfold wK; rw [if_neg c0, if_neg c1, if_neg c2, if_neg c3, if_neg c4]
                                refine q_if_ne hC 113 dX10_takesAll_98 (by decide) (fun hb7 => ?_) (fun hb7 => ?_)
                                · exact bad wv (by unfold pItm; rw [if_neg (by omega), if_neg (by omega), if_neg (by omega), if_neg (by omega), if_neg (by omega)])
                                · exact absurd (v24.mp ((lg_eq _ _).mp hb7)) c4
                    · exact absurd (v21.mp ((lg_eq _ _).mp hb4)) c1
                · exact absurd (v20.mp ((lg_eq _ _).mp hb3)) c0
          · have nk := m9 k1
            have hbadp : pItm L x T N a = .inl (tkS L x a) := by unfold pItm; rw [if_neg (by omega), if_neg (by omega), if_neg (by omega), if_neg (by omega), if_neg (by omega)]
            refine q_iconst (v := nI 1) hC dX10_takesAll_32 (by decide) ?_
            refine q_icmp_ne hC 43 dX10_takesAll_33 (by decide) (fun hb2 => ?_) (fun hb2 => ?_)
            · refine q_ldc2 hC klX10_109 dX10_takesAll_43 ?_
              refine q_lstore_2 hC dX10_takesAll_46 ?_
              refine q_lload_n hC dX10_takesAll_47 ?_
              refine q_ldc2 hC klX10_138 dX10_takesAll_48 ?_
              refine q_lcmp hC dX10_takesAll_51 ?_
              refine q_if_ne hC 62 dX10_takesAll_52 (by decide) (fun hb3 => ?_) (fun hb3 => ?_)
              · refine q_lload_n hC dX10_takesAll_62 ?_
                refine q_ldc2 hC klX10_143 dX10_takesAll_63 ?_
                refine q_lcmp hC dX10_takesAll_66 ?_
                refine q_if_ne hC 77 dX10_takesAll_67 (by decide) (fun hb4 => ?_) (fun hb4 => ?_)
                · refine q_lload_n hC dX10_takesAll_77 ?_
                  refine q_ldc2 hC klX10_136 dX10_takesAll_78 ?_
                  refine q_lcmp hC dX10_takesAll_81 ?_
                  refine q_if_eq hC 101 dX10_takesAll_82 (by decide) (fun hb5 => ?_) (fun hb5 => ?_)
                  · exact absurd hb5 (by decide)
                  · refine q_lload_n hC dX10_takesAll_85 ?_
                    refine q_ldc2 hC klX10_134 dX10_takesAll_86 ?_
                    refine q_lcmp hC dX10_takesAll_89 ?_
                    refine q_if_eq hC 101 dX10_takesAll_90 (by decide) (fun hb6 => ?_) (fun hb6 => ?_)
                    · exact absurd hb6 (by decide)
                    · refine q_lload_n hC dX10_takesAll_93 ?_
                      refine q_ldc2 hC klX10_148 dX10_takesAll_94 ?_
                      refine q_lcmp hC dX10_takesAll_97 ?_
                      refine q_if_ne hC 113 dX10_takesAll_98 (by decide) (fun hb7 => ?_) (fun hb7 => ?_)
                      · exact bad _ hbadp
                      · exact absurd hb7 (by decide)
                · exact absurd hb4 (by decide)
              · exact absurd hb3 (by decide)
            · exact absurd (nI_small (by omega) (by omega) hb2) k1
  refine q_aload_n hC dX10_takesAll_0 ?_
  refine q_iconst (v := nI 0) hC dX10_takesAll_1 (by decide) ?_
  refine q_putI hC (by first | assumption | rfl) fpX10_85 dX10_takesAll_2 ?_
  refine q_aload_n hC dX10_takesAll_5 ?_
  refine q_iconst (v := nI 0) hC dX10_takesAll_6 (by decide) ?_
  refine q_putI hC (by first | assumption | rfl) fpX10_120 dX10_takesAll_7 ?_
  refine q_aload_n hC dX10_takesAll_10 ?_
  refine q_iconst (v := nI 0) hC dX10_takesAll_11 (by decide) ?_
  refine q_putI hC (by first | assumption | rfl) fpX10_131 dX10_takesAll_12 ?_
  refine q_iconst (v := nI 0) hC dX10_takesAll_15 (by decide) ?_
  refine q_istore_1 hC dX10_takesAll_16 ?_
  have hF0 : FrI S (up (up (up S 0 17 (nI 0)) 0 21 (nI 0)) 0 22 (nI 0)) := (FrI.u0 (by omega)).trans ((FrI.u0 (by omega)).trans (FrI.u0 (by omega)))
  have hM0 : RdM (up (up (up S 0 17 (nI 0)) 0 21 (nI 0)) 0 22 (nI 0)) T00 N00 := ⟨by rw [up_of (by decide), up_s]; rfl, by rw [up_s]; rfl, fun p hp => absurd hp (Nat.not_lt_zero p), fun p hp => absurd hp (Nat.not_lt_zero p)⟩
  refine q_aload_n hC dX10_takesAll_17 ?_
  refine q_callvV0 hC (by first | assumption | rfl) cvX10_117 dX10_takesAll_18 (m_next θ _ 0 L x (hF0.tx hx) (by rw [up_of (by decide), up_of (by decide), up_s]) (by omega)) (by decide) (fun S3 hr3 => ?_)
  obtain ⟨hF3, hm3⟩ := hr3
  exact loop 301 0 T00 N00 0 _ _ _ S3 (by omega) (by omega) (by omega) (hF0.trans hF3.I) T00_ok (N00_ok _) (fun p _ => rfl) (hM0.frN hF3) hm3 rfl
