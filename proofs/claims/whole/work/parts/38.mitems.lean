theorem m_takes (θ : Site) (S : St) (a L lo m : Nat) (x : Nat → Nat) (mo : Int32) (hlo : lo ≤ 1) (hm : m ≤ 31) (hmo : ∀ v, v ≤ 10000 → (lN v ≤ mo.toInt64 ↔ v < m)) (hx : MTx S L x) (h17 : S.1 0 17 = nI a) (haL : a ≤ L) : Cti yX10_takes cX10_takes 3 (some .boolean) 2 θ shM [.ref (sA θ 0), .int (nI lo), .int mo] S (fun r S' => r = nI (if (tkK L x a = 1 ∧ tkV L x a < m) ∧ lo ≤ tkV L x a then 1 else 0) ∧ FrN S S' ∧ S'.1 0 18 = nI (tkS L x a) ∧ (tkK L x a = 1 ∧ tkV L x a < m → S'.1 0 17 = nI (tkE L x a) ∧ S'.2 0 20 = lN (tkV L x a))) := by
  refine Cti.mkz (own := RX10) 0 [some (.ref (sA θ 0)), some (.int (nI lo)), some (.int mo)] (fun K hC => ?_)
  refine q_aload_n hC dX10_takes_0 ?_
  refine q_callvV0 hC (by first | assumption | rfl) cvX10_117 dX10_takes_1 (m_next θ _ a L x hx h17 haL) (by decide) (fun S1 hr1 => ?_)
  obtain ⟨hF1, m1, kd, mk, m2, m3, m4, m5, m6, m7, m8, m9⟩ := hr1
  refine q_aload_n hC dX10_takes_4 ?_
  refine q_getI hC (by first | assumption | rfl) flX10_102 dX10_takes_5 ?_
  rw [m2]
  refine q_iconst (v := nI 2) hC dX10_takes_8 (by decide) ?_
  refine q_icmp_ne hC 30 dX10_takes_9 (by decide) (fun hb => ?_) (fun hb => ?_)
  · have h2 : kd ≠ 2 := fun z => hb (by rw [z])
    have h3 := m7 h2
    refine q_iconst (v := nI 0) hC dX10_takes_30 (by decide) ?_
    refine q_iret hC dX10_takes_31 ?_
    exact ⟨⟨by rw [if_neg (fun z => h3 z.1.1)], hF1, m1, fun z => absurd z.1 h3⟩, by decide⟩
  · have h2 : kd = 2 := nI_small (by omega) (by omega) hb
    obtain ⟨mv, v1, v2, v3, v4⟩ := m6 h2
    refine q_aload_n hC dX10_takes_12 ?_
    refine q_getL hC (by first | assumption | rfl) flX10_91 dX10_takes_13 ?_
    rw [v2]
    refine q_iload_n hC dX10_takes_16 ?_
    refine q_i2l hC dX10_takes_17 ?_
    rw [nI_l (by omega)]
    refine q_iload_n hC dX10_takes_18 ?_
    refine q_i2l hC dX10_takes_19 ?_
    refine q_calliS3 hC csX10_71 dX10_takes_20 (m_in θ _ _ _ _) (by decide) (fun r S1 hr => ?_)
    obtain ⟨rfl, rfl⟩ := hr
    have key : (lN lo ≤ lN mv ∧ lN mv ≤ mo.toInt64) ↔ ((tkK L x a = 1 ∧ tkV L x a < m) ∧ lo ≤ tkV L x a) := by
      rw [hmo mv v1, lN_le (by omega) (by omega), v3 m hm]
      constructor
      · intro q; refine ⟨q.2, ?_⟩; rw [v4 (by omega)]; exact q.1
      · intro q; refine ⟨?_, q.1⟩; have := v4 (by omega); omega
    have post : tkK L x a = 1 ∧ tkV L x a < m → S1.1 0 17 = nI (tkE L x a) ∧ S1.2 0 20 = lN (tkV L x a) := fun q => ⟨m5 (show kd ≠ 4 by omega), (by rw [v2, v4 (by have := (v3 m hm).mp q; omega)])⟩
    by_cases hc : (tkK L x a = 1 ∧ tkV L x a < m) ∧ lo ≤ tkV L x a
    · rw [if_pos (key.mpr hc)]
      refine q_if_eq hC 30 dX10_takes_23 (by decide) (fun hb2 => ?_) (fun hb2 => ?_)
      · exact absurd hb2 (by decide)
      · refine q_iconst (v := nI 1) hC dX10_takes_26 (by decide) ?_
        refine q_goto hC 31 dX10_takes_27 (by decide) ?_
        refine q_iret hC dX10_takes_31 ?_
        exact ⟨⟨by rw [if_pos hc], hF1, m1, post⟩, by decide⟩
    · rw [if_neg (fun q => hc (key.mp q))]
      refine q_if_eq hC 30 dX10_takes_23 (by decide) (fun hb2 => ?_) (fun hb2 => ?_)
      · refine q_iconst (v := nI 0) hC dX10_takes_30 (by decide) ?_
        refine q_iret hC dX10_takes_31 ?_
        exact ⟨⟨by rw [if_neg hc], hF1, m1, post⟩, by decide⟩
      · exact absurd (by decide) hb2
theorem m_stops (θ : Site) (S : St) (a L : Nat) (x : Nat → Nat) (hx : MTx S L x) (h17 : S.1 0 17 = nI a) (haL : a ≤ L) : Cti yX10_stops cX10_stops 1 (some .boolean) 2 θ shM [.ref (sA θ 0)] S (fun r S' => r = nI (if tkK L x a = 2 then 1 else 0) ∧ FrN S S' ∧ S'.1 0 18 = nI (tkS L x a) ∧ (tkK L x a = 2 → S'.1 0 17 = nI (tkE L x a))) := by
  refine Cti.mkz (own := RX10) 0 [some (.ref (sA θ 0))] (fun K hC => ?_)
  refine q_aload_n hC dX10_stops_0 ?_
  refine q_callvV0 hC (by first | assumption | rfl) cvX10_117 dX10_stops_1 (m_next θ _ a L x hx h17 haL) (by decide) (fun S1 hr1 => ?_)
  obtain ⟨hF1, m1, kd, mk, m2, m3, m4, m5, m6, m7, m8, m9⟩ := hr1
  refine q_aload_n hC dX10_stops_4 ?_
  refine q_getI hC (by first | assumption | rfl) flX10_102 dX10_stops_5 ?_
  rw [m2]
  refine q_iconst (v := nI 3) hC dX10_stops_8 (by decide) ?_
  refine q_icmp_ne hC 16 dX10_stops_9 (by decide) (fun hb => ?_) (fun hb => ?_)
  · have h2 : kd ≠ 3 := fun z => hb (by rw [z])
    have h3 : ¬ tkK L x a = 2 := fun z => h2 (m4.mpr z)
    refine q_iconst (v := nI 0) hC dX10_stops_16 (by decide) ?_
    refine q_iret hC dX10_stops_17 ?_
    exact ⟨⟨by rw [if_neg h3], hF1, m1, fun z => absurd z h3⟩, by decide⟩
  · have h2 : kd = 3 := nI_small (by omega) (by omega) hb
    refine q_iconst (v := nI 1) hC dX10_stops_12 (by decide) ?_
    refine q_goto hC 17 dX10_stops_13 (by decide) ?_
    refine q_iret hC dX10_stops_17 ?_
    exact ⟨⟨by rw [if_pos (m4.mp h2)], hF1, m1, fun _ => m5 (by omega)⟩, by decide⟩
theorem m_takesPiece (θ : Site) (S : St) (a s0 L : Nat) (x : Nat → Nat) (T : Tn) (N : Nw) (hx : MTx S L x) (h17 : S.1 0 17 = nI a) (h18 : S.1 0 18 = nI s0) (haL : a ≤ L) (hok : TnOk T) (hNo : NwOk T N) (hz : FlZ T N) (hM : RdM S T N) : Cti yX10_takesPiece cX10_takesPiece 2 (some .boolean) 3 θ shM [.ref (sA θ 0)] S (fun r S' => MPo S S' r (pPie L x T N s0 a)) := by
  have h8 := hok.1
  have hF4 := hok.2.1
  refine Cti.mkz (own := RX10) 1 [some (.ref (sA θ 0)), none] (fun K hC => ?_)
  refine q_iconst (v := nI 5) hC dX10_takesPiece_0 (by decide) ?_
  refine q_aload_n hC dX10_takesPiece_1 ?_
  refine q_getI hC (by first | assumption | rfl) flX10_120 dX10_takesPiece_2 ?_
  rw [hM.1]
  refine q_imul hC dX10_takesPiece_5 ?_
  rw [pk_mul]
  refine q_istore_1 hC dX10_takesPiece_6 ?_
  refine q_aload_n hC dX10_takesPiece_7 ?_
  refine q_getI hC (by first | assumption | rfl) flX10_120 dX10_takesPiece_8 ?_
  rw [hM.1]
  refine q_bipush (v := nI 8) hC dX10_takesPiece_11 (by decide) ?_
  refine q_icmp_eq hC 25 dX10_takesPiece_13 (by decide) (fun hb => ?_) (fun hb => ?_)
  · have hP : 8 ≤ tP T := by have := nI_small (by omega) (by omega) hb; omega
    refine q_iconst (v := nI 0) hC dX10_takesPiece_25 (by decide) ?_
    refine q_iret hC dX10_takesPiece_26 ?_
    exact ⟨MPo.bad FrI.rfl' h18 (by unfold pPie; rw [if_pos hP]), by decide⟩
  · have hP : ¬ 8 ≤ tP T := fun z => hb (by rw [show tP T = 8 by omega])
    refine q_aload_n hC dX10_takesPiece_16 ?_
    refine q_iconst (v := nI 0) hC dX10_takesPiece_17 (by decide) ?_
    refine q_iconst (v := nI 5) hC dX10_takesPiece_18 (by decide) ?_
    refine q_calliV2 hC (by first | assumption | rfl) cvX10_123 dX10_takesPiece_19 (m_takes θ _ a L 0 6 x _ (by omega) (by omega) (ml_nI (m := 5) (by omega)) hx h17 haL) (by decide) (fun r S1 hr => ?_)
    obtain ⟨rfl, hF1, g1, g2⟩ := hr
    have hx1 := hF1.tx hx
    by_cases c1 : tkK L x a = 1 ∧ tkV L x a < 6
    · rw [if_pos ⟨c1, Nat.zero_le _⟩]
      obtain ⟨g3, g4⟩ := g2 c1
      have a1 := tk_adv (x := x) haL (by omega)
      have e1 : pPie L x T N s0 a = pNum L x (tkE L x a) 6 fun B e2 => if B = tkV L x a then .inl (tkS L x (tkE L x a)) else pNum L x e2 31 fun Y e3 => if Y < 1 then .inl (tkS L x e2) else pStp L x e3 fun e4 => .inr (tAddP T (tkV L x a) B Y, N, e4) := by
        unfold pPie; rw [if_neg hP]; unfold pNum; rw [if_pos c1]
      clear g2
      generalize tkV L x a = A at c1 e1 g4 ⊢
      generalize tkE L x a = b1 at g3 a1 e1
      refine q_if_ne hC 27 dX10_takesPiece_22 (by decide) (fun hb1 => ?_) (fun hb1 => ?_)
      · refine q_aload_n hC dX10_takesPiece_27 ?_
        refine q_getR hC (by first | assumption | rfl) flX10_46 dX10_takesPiece_28 ?_
        refine q_iload_n hC dX10_takesPiece_31 ?_
        refine q_aload_n hC dX10_takesPiece_32 ?_
        refine q_getL hC (by first | assumption | rfl) flX10_91 dX10_takesPiece_33 ?_
        rw [g4]
        refine q_l2i hC dX10_takesPiece_36 ?_
        rw [lN_i]
        refine q_iastn hC (by first | assumption | rfl) (by first | assumption | omega) dX10_takesPiece_37 ?_
        have hFa : FrI S (up S1 13 (5 * tP T) (nI A)) := hF1.I.trans FrI.u13
        have hxa := hFa.tx hx
        refine q_aload_n hC dX10_takesPiece_38 ?_
        refine q_iconst (v := nI 0) hC dX10_takesPiece_39 (by decide) ?_
        refine q_iconst (v := nI 5) hC dX10_takesPiece_40 (by decide) ?_
        refine q_calliV2 hC (by first | assumption | rfl) cvX10_123 dX10_takesPiece_41 (m_takes θ _ b1 L 0 6 x _ (by omega) (by omega) (ml_nI (m := 5) (by omega)) hxa (by rw [up_oc (by decide)]; exact g3) a1.2) (by decide) (fun r2 S2 hr2 => ?_)
        obtain ⟨rfl, hF2, k1, k2⟩ := hr2
        have hF12 := hFa.trans hF2.I
        have hx2 := hF12.tx hx
        have rA : S2.1 13 (5 * tP T) = nI A := by rw [hF2.2.1 13 (by decide), up_s]
        have rO : ∀ j, j < 5 * tP T ∨ 40 ≤ j → S2.1 13 j = S.1 13 j := fun j hj => by rw [hF2.2.1 13 (by decide), up_of (by omega), hF1.2.1 13 (by decide)]
        have r21 : S2.1 0 21 = nI (tP T) := by rw [hF2.1 21 (by omega), up_oc (by decide), hF1.1 21 (by omega)]; exact hM.1
        have r22 : S2.1 0 22 = nI (tF T) := by rw [hF2.1 22 (by omega), up_oc (by decide), hF1.1 22 (by omega)]; exact hM.2.1
        clear hF2 hFa hxa
        by_cases c2 : tkK L x b1 = 1 ∧ tkV L x b1 < 6
        · rw [if_pos ⟨c2, Nat.zero_le _⟩]
          obtain ⟨k3, k4⟩ := k2 c2
          have a2 := tk_adv (x := x) a1.2 (by omega)
          have e2 : pPie L x T N s0 a = if tkV L x b1 = A then .inl (tkS L x b1) else pNum L x (tkE L x b1) 31 fun Y e3 => if Y < 1 then .inl (tkS L x (tkE L x b1)) else pStp L x e3 fun e4 => .inr (tAddP T A (tkV L x b1) Y, N, e4) := by
            rw [e1]; unfold pNum; rw [if_pos c2]
          clear k2
          generalize tkV L x b1 = B at c2 e2 k4 ⊢
          generalize tkE L x b1 = b2 at k3 a2 e2
          refine q_if_eq hC 62 dX10_takesPiece_44 (by decide) (fun hb2 => ?_) (fun hb2 => ?_)
          · exact absurd hb2 (by decide)
          · refine q_aload_n hC dX10_takesPiece_47 ?_
            refine q_getL hC (by first | assumption | rfl) flX10_91 dX10_takesPiece_48 ?_
            rw [k4]
            refine q_aload_n hC dX10_takesPiece_51 ?_
            refine q_getR hC (by first | assumption | rfl) flX10_46 dX10_takesPiece_52 ?_
            refine q_iload_n hC dX10_takesPiece_55 ?_
            refine q_ialdn hC (by first | assumption | rfl) (by first | assumption | omega) dX10_takesPiece_56 ?_
            rw [rA]
            refine q_i2l hC dX10_takesPiece_57 ?_
            rw [nI_l (by omega)]
            refine q_lcmp hC dX10_takesPiece_58 ?_
            refine q_if_ne hC 64 dX10_takesPiece_59 (by decide) (fun hb3 => ?_) (fun hb3 => ?_)
            · have hne : ¬ B = A := fun z => hb3 ((lg_eq _ _).mpr (by rw [z]))
              rw [if_neg hne] at e2
              refine q_aload_n hC dX10_takesPiece_64 ?_
              refine q_getR hC (by first | assumption | rfl) flX10_46 dX10_takesPiece_65 ?_
              refine q_iload_n hC dX10_takesPiece_68 ?_
              refine q_iconst (v := nI 1) hC dX10_takesPiece_69 (by decide) ?_
              refine q_iadd hC dX10_takesPiece_70 ?_
              rw [nI_add]
              refine q_aload_n hC dX10_takesPiece_71 ?_
              refine q_getL hC (by first | assumption | rfl) flX10_91 dX10_takesPiece_72 ?_
              rw [k4]
              refine q_l2i hC dX10_takesPiece_75 ?_
              rw [lN_i]
              refine q_iastn hC (by first | assumption | rfl) (by first | assumption | omega) dX10_takesPiece_76 ?_
              have hFb := hF12.trans (FrI.u13 (j := 5 * tP T + 1) (v := nI B))
              have hxb := hFb.tx hx
              refine q_aload_n hC dX10_takesPiece_77 ?_
              refine q_iconst (v := nI 1) hC dX10_takesPiece_78 (by decide) ?_
              refine q_bipush (v := nI 30) hC dX10_takesPiece_79 (by decide) ?_
              refine q_calliV2 hC (by first | assumption | rfl) cvX10_123 dX10_takesPiece_81 (m_takes θ _ b2 L 1 31 x _ (by omega) (by omega) (ml_nI (m := 30) (by omega)) hxb (by rw [up_oc (by decide)]; exact k3) a2.2) (by decide) (fun r3 S3 hr3 => ?_)
              obtain ⟨rfl, hF3, j1, j2⟩ := hr3
              have hF13 := hFb.trans hF3.I
              have sA' : S3.1 13 (5 * tP T) = nI A := by rw [hF3.2.1 13 (by decide), up_of (by omega)]; exact rA
              have sB' : S3.1 13 (5 * tP T + 1) = nI B := by rw [hF3.2.1 13 (by decide), up_s]
              have sO : ∀ j, j < 5 * tP T ∨ 40 ≤ j → S3.1 13 j = S.1 13 j := fun j hj => by rw [hF3.2.1 13 (by decide), up_of (by omega)]; exact rO j hj
              have s21 : S3.1 0 21 = nI (tP T) := by rw [hF3.1 21 (by omega), up_oc (by decide)]; exact r21
              have s22 : S3.1 0 22 = nI (tF T) := by rw [hF3.1 22 (by omega), up_oc (by decide)]; exact r22
              clear hF3 hFb hxb
              by_cases c3 : tkK L x b2 = 1 ∧ tkV L x b2 < 31
              · obtain ⟨j3, j4⟩ := j2 c3
                have a3 := tk_adv (x := x) a2.2 (by omega)
                have e3 : pPie L x T N s0 a = if tkV L x b2 < 1 then .inl (tkS L x b2) else pStp L x (tkE L x b2) fun e4 => .inr (tAddP T A B (tkV L x b2), N, e4) := by
                  rw [e2]; unfold pNum; rw [if_pos c3]
                by_cases hY : tkV L x b2 < 1
                · rw [if_neg (fun q => by omega)]
                  refine q_if_ne hC 89 dX10_takesPiece_84 (by decide) (fun hb4 => ?_) (fun hb4 => ?_)
                  · exact absurd rfl hb4
                  · refine q_iconst (v := nI 0) hC dX10_takesPiece_87 (by decide) ?_
                    refine q_iret hC dX10_takesPiece_88 ?_
                    exact ⟨MPo.bad hF13 j1 (by rw [e3, if_pos hY]), by decide⟩
                · rw [if_pos ⟨c3, by omega⟩]
                  rw [if_neg hY] at e3
                  clear j2
                  generalize tkV L x b2 = Y at c3 e3 j4 hY ⊢
                  generalize tkE L x b2 = b3 at j3 a3 e3
                  refine q_if_ne hC 89 dX10_takesPiece_84 (by decide) (fun hb4 => ?_) (fun hb4 => ?_)
                  · refine q_aload_n hC dX10_takesPiece_89 ?_
                    refine q_getR hC (by first | assumption | rfl) flX10_46 dX10_takesPiece_90 ?_
                    refine q_iload_n hC dX10_takesPiece_93 ?_
                    refine q_iconst (v := nI 2) hC dX10_takesPiece_94 (by decide) ?_
                    refine q_iadd hC dX10_takesPiece_95 ?_
                    rw [nI_add]
                    refine q_aload_n hC dX10_takesPiece_96 ?_
                    refine q_getL hC (by first | assumption | rfl) flX10_91 dX10_takesPiece_97 ?_
                    rw [j4]
                    refine q_l2i hC dX10_takesPiece_100 ?_
                    rw [lN_i]
                    refine q_iastn hC (by first | assumption | rfl) (by first | assumption | omega) dX10_takesPiece_101 ?_
                    refine q_aload_n hC dX10_takesPiece_102 ?_
                    refine q_getR hC (by first | assumption | rfl) flX10_46 dX10_takesPiece_103 ?_
                    refine q_iload_n hC dX10_takesPiece_106 ?_
                    refine q_iconst (v := nI 3) hC dX10_takesPiece_107 (by decide) ?_
                    refine q_iadd hC dX10_takesPiece_108 ?_
                    rw [nI_add]
                    refine q_bipush (v := (-9)) hC dX10_takesPiece_109 (by decide) ?_
                    refine q_iastn hC (by first | assumption | rfl) (by first | assumption | omega) dX10_takesPiece_111 ?_
                    refine q_aload_n hC dX10_takesPiece_112 ?_
                    refine q_getR hC (by first | assumption | rfl) flX10_46 dX10_takesPiece_113 ?_
                    refine q_iload_n hC dX10_takesPiece_116 ?_
                    refine q_iconst (v := nI 4) hC dX10_takesPiece_117 (by decide) ?_
                    refine q_iadd hC dX10_takesPiece_118 ?_
                    rw [nI_add]
                    refine q_iconst (v := nI 0) hC dX10_takesPiece_119 (by decide) ?_
                    refine q_iastn hC (by first | assumption | rfl) (by first | assumption | omega) dX10_takesPiece_120 ?_
                    refine q_aload_n hC dX10_takesPiece_121 ?_
                    refine q_dup hC dX10_takesPiece_122 rfl ?_
                    refine q_getI hC (by first | assumption | rfl) flX10_120 dX10_takesPiece_123 ?_
                    rw [up_oc (by decide), up_oc (by decide), up_oc (by decide), s21]
                    refine q_iconst (v := nI 1) hC dX10_takesPiece_126 (by decide) ?_
                    refine q_iadd hC dX10_takesPiece_127 ?_
                    rw [nI_add]
                    refine q_putI hC (by first | assumption | rfl) fpX10_120 dX10_takesPiece_128 ?_
                    generalize hS4 : up (up (up (up S3 13 (5 * tP T + 2) (nI Y)) 13 (5 * tP T + 3) (-9)) 13 (5 * tP T + 4) (nI 0)) 0 21 (nI (tP T + 1)) = S4
                    have hF14 : FrI S S4 := by rw [← hS4]; exact hF13.trans (FrI.u13.trans (FrI.u13.trans (FrI.u13.trans (FrI.u0 (by omega)))))
                    have hx4 := hF14.tx hx
                    have hM4 : RdM S4 (tAddP T A B Y) N := by
                      rw [← hS4]
                      refine ⟨up_s, ?_, fun p hp => ?_, fun f hf => ?_⟩
                      · rw [up_of (by decide), up_oc (by decide), up_oc (by decide), up_oc (by decide)]; exact s22
                      · have hp' : p < tP T + 1 := hp
                        rw [up_oc (by decide)]
                        show _ = nI (upN (tA T) (tP T) A p) ∧ _ = nI (upN (tB T) (tP T) B p) ∧ _ = nI (upN (tY T) (tP T) Y p) ∧ _
                        by_cases e : p = tP T
                        · subst e
                          rw [upN_s, upN_s, upN_s, (hNo.1 _).2.1 (Nat.le_refl _), hz _ (Nat.le_refl _)]
                          refine ⟨?_, ?_, ?_, ?_, up_s⟩
                          · rw [up_of (by omega), up_of (by omega), up_of (by omega)]; exact sA'
                          · rw [up_of (by omega), up_of (by omega), up_of (by omega)]; exact sB'
                          · rw [up_of (by omega), up_of (by omega), up_s]
                          · rw [up_of (by omega), up_s]; rfl
                        · rw [upN_o e, upN_o e, upN_o e]
                          rw [up_of (by omega), up_of (by omega), up_of (by omega), up_of (by omega), up_of (by omega), up_of (by omega), up_of (by omega), up_of (by omega), up_of (by omega), up_of (by omega), up_of (by omega), up_of (by omega), up_of (by omega), up_of (by omega), up_of (by omega)]
                          rw [sO _ (by omega), sO _ (by omega), sO _ (by omega), sO _ (by omega), sO _ (by omega)]
                          exact hM.2.2.1 p (by omega)
                      · have hf' : f < tF T := hf
                        rw [up_oc (by decide)]
                        rw [up_of (by omega), up_of (by omega), up_of (by omega), up_of (by omega), up_of (by omega), up_of (by omega), up_of (by omega), up_of (by omega), up_of (by omega)]
                        rw [sO _ (by omega), sO _ (by omega), sO _ (by omega)]
                        exact hM.2.2.2 f hf'
                    have h174 : S4.1 0 17 = nI b3 := by rw [← hS4, up_of (by decide), up_oc (by decide), up_oc (by decide), up_oc (by decide)]; exact j3
                    refine q_aload_n hC dX10_takesPiece_131 ?_
                    refine q_calliV0 hC (by first | assumption | rfl) cvX10_127 dX10_takesPiece_132 (m_stops θ _ b3 L x hx4 h174 a3.2) (by decide) (fun r5 S5 hr5 => ?_)
                    obtain ⟨rfl, hF5, l1, l2⟩ := hr5
                    refine q_iret hC dX10_takesPiece_135 ?_
                    by_cases c4 : tkK L x b3 = 2
                    · rw [if_pos c4]
                      unfold pStp at e3
                      rw [if_pos c4] at e3
                      exact ⟨MPo.good (hF14.trans hF5.I) (hM4.frN hF5) (l2 c4) (fun p hp => hz p (by have : tP T + 1 ≤ p := hp; omega)) e3, by decide⟩
                    · rw [if_neg c4]
                      unfold pStp at e3
                      rw [if_neg c4] at e3
                      exact ⟨MPo.bad (hF14.trans hF5.I) l1 e3, by decide⟩
                  · exact absurd hb4 (by decide)
              · rw [if_neg (fun q => c3 q.1)]
                unfold pNum at e2
                rw [if_neg c3] at e2
                refine q_if_ne hC 89 dX10_takesPiece_84 (by decide) (fun hb4 => ?_) (fun hb4 => ?_)
                · exact absurd rfl hb4
                · refine q_iconst (v := nI 0) hC dX10_takesPiece_87 (by decide) ?_
                  refine q_iret hC dX10_takesPiece_88 ?_
                  exact ⟨MPo.bad hF13 j1 e2, by decide⟩
            · have hne : B = A := by
                have := (lg_eq _ _).mp hb3
                exact (lN_eq (by omega) (by omega)).mp this
              rw [if_pos hne] at e2
              refine q_iconst (v := nI 0) hC dX10_takesPiece_62 (by decide) ?_
              refine q_iret hC dX10_takesPiece_63 ?_
              exact ⟨MPo.bad hF12 k1 e2, by decide⟩
        · rw [if_neg (fun q => c2 q.1)]
          unfold pNum at e1
          rw [if_neg c2] at e1
          refine q_if_eq hC 62 dX10_takesPiece_44 (by decide) (fun hb2 => ?_) (fun hb2 => ?_)
          · refine q_iconst (v := nI 0) hC dX10_takesPiece_62 (by decide) ?_
            refine q_iret hC dX10_takesPiece_63 ?_
            exact ⟨MPo.bad hF12 k1 e1, by decide⟩
          · exact absurd rfl hb2
      · exact absurd hb1 (by decide)
    · rw [if_neg (fun q => c1 q.1)]
      refine q_if_ne hC 27 dX10_takesPiece_22 (by decide) (fun hb1 => ?_) (fun hb1 => ?_)
      · exact absurd rfl hb1
      · refine q_iconst (v := nI 0) hC dX10_takesPiece_25 (by decide) ?_
        refine q_iret hC dX10_takesPiece_26 ?_
        exact ⟨MPo.bad hF1.I g1 (by unfold pPie; rw [if_neg hP]; unfold pNum; rw [if_neg c1]), by decide⟩
theorem m_takesFamily (θ : Site) (S : St) (a s0 L : Nat) (x : Nat → Nat) (T : Tn) (N : Nw) (hx : MTx S L x) (h17 : S.1 0 17 = nI a) (h18 : S.1 0 18 = nI s0) (haL : a ≤ L) (hok : TnOk T) (hNo : NwOk T N) (hz : FlZ T N) (hM : RdM S T N) : Cti yX10_takesFamily cX10_takesFamily 2 (some .boolean) 3 θ shM [.ref (sA θ 0)] S (fun r S' => MPo S S' r (pFam L x T N s0 a)) := by
  have h8 := hok.1
  have hF4 := hok.2.1
  refine Cti.mkz (own := RX10) 1 [some (.ref (sA θ 0)), none] (fun K hC => ?_)
  refine q_bipush (v := nI 40) hC dX10_takesFamily_0 (by decide) ?_
  refine q_iconst (v := nI 3) hC dX10_takesFamily_2 (by decide) ?_
  refine q_aload_n hC dX10_takesFamily_3 ?_
  refine q_getI hC (by first | assumption | rfl) flX10_131 dX10_takesFamily_4 ?_
  rw [hM.2.1]
  refine q_imul hC dX10_takesFamily_7 ?_
  rw [pk_mul]
  refine q_iadd hC dX10_takesFamily_8 ?_
  rw [nI_add]
  refine q_istore_1 hC dX10_takesFamily_9 ?_
  refine q_aload_n hC dX10_takesFamily_10 ?_
  refine q_getI hC (by first | assumption | rfl) flX10_131 dX10_takesFamily_11 ?_
  rw [hM.2.1]
  refine q_iconst (v := nI 4) hC dX10_takesFamily_14 (by decide) ?_
  refine q_icmp_eq hC 27 dX10_takesFamily_15 (by decide) (fun hb => ?_) (fun hb => ?_)
  · have hP : 4 ≤ tF T := by have := nI_small (by omega) (by omega) hb; omega
    refine q_iconst (v := nI 0) hC dX10_takesFamily_27 (by decide) ?_
    refine q_iret hC dX10_takesFamily_28 ?_
    exact ⟨MPo.bad FrI.rfl' h18 (by unfold pFam; rw [if_pos hP]), by decide⟩
  · have hP : ¬ 4 ≤ tF T := fun z => hb (by rw [show tF T = 4 by omega])
    refine q_aload_n hC dX10_takesFamily_18 ?_
    refine q_iconst (v := nI 0) hC dX10_takesFamily_19 (by decide) ?_
    refine q_iconst (v := nI 5) hC dX10_takesFamily_20 (by decide) ?_
    refine q_calliV2 hC (by first | assumption | rfl) cvX10_123 dX10_takesFamily_21 (m_takes θ _ a L 0 6 x _ (by omega) (by omega) (ml_nI (m := 5) (by omega)) hx h17 haL) (by decide) (fun r S1 hr => ?_)
    obtain ⟨rfl, hF1, g1, g2⟩ := hr
    have hx1 := hF1.tx hx
    by_cases c1 : tkK L x a = 1 ∧ tkV L x a < 6
    · rw [if_pos ⟨c1, Nat.zero_le _⟩]
      obtain ⟨g3, g4⟩ := g2 c1
      have a1 := tk_adv (x := x) haL (by omega)
      have e1 : pFam L x T N s0 a = pNum L x (tkE L x a) 6 fun B e2 => pNum L x e2 10 fun Y e3 => if Y < 1 then .inl (tkS L x e2) else pStp L x e3 fun e4 => .inr (tAddF T (tkV L x a) B Y, N, e4) := by
        unfold pFam; rw [if_neg hP]; unfold pNum; rw [if_pos c1]
      clear g2
      generalize tkV L x a = A at c1 e1 g4 ⊢
      generalize tkE L x a = b1 at g3 a1 e1
      refine q_if_ne hC 29 dX10_takesFamily_24 (by decide) (fun hb1 => ?_) (fun hb1 => ?_)
      · refine q_aload_n hC dX10_takesFamily_29 ?_
        refine q_getR hC (by first | assumption | rfl) flX10_46 dX10_takesFamily_30 ?_
        refine q_iload_n hC dX10_takesFamily_33 ?_
        refine q_aload_n hC dX10_takesFamily_34 ?_
        refine q_getL hC (by first | assumption | rfl) flX10_91 dX10_takesFamily_35 ?_
        rw [g4]
        refine q_l2i hC dX10_takesFamily_38 ?_
        rw [lN_i]
        refine q_iastn hC (by first | assumption | rfl) (by first | assumption | omega) dX10_takesFamily_39 ?_
        have hFa : FrI S (up S1 13 (40 + 3 * tF T) (nI A)) := hF1.I.trans FrI.u13
        have hxa := hFa.tx hx
        refine q_aload_n hC dX10_takesFamily_40 ?_
        refine q_iconst (v := nI 0) hC dX10_takesFamily_41 (by decide) ?_
        refine q_iconst (v := nI 5) hC dX10_takesFamily_42 (by decide) ?_
        refine q_calliV2 hC (by first | assumption | rfl) cvX10_123 dX10_takesFamily_43 (m_takes θ _ b1 L 0 6 x _ (by omega) (by omega) (ml_nI (m := 5) (by omega)) hxa (by rw [up_oc (by decide)]; exact g3) a1.2) (by decide) (fun r2 S2 hr2 => ?_)
        obtain ⟨rfl, hF2, k1, k2⟩ := hr2
        have hF12 := hFa.trans hF2.I
        have hx2 := hF12.tx hx
        have rA : S2.1 13 (40 + 3 * tF T) = nI A := by rw [hF2.2.1 13 (by decide), up_s]
        have rO : ∀ j, j < 40 + 3 * tF T → S2.1 13 j = S.1 13 j := fun j hj => by rw [hF2.2.1 13 (by decide), up_of (by omega), hF1.2.1 13 (by decide)]
        have r21 : S2.1 0 21 = nI (tP T) := by rw [hF2.1 21 (by omega), up_oc (by decide), hF1.1 21 (by omega)]; exact hM.1
        have r22 : S2.1 0 22 = nI (tF T) := by rw [hF2.1 22 (by omega), up_oc (by decide), hF1.1 22 (by omega)]; exact hM.2.1
        clear hF2 hFa hxa
        by_cases c2 : tkK L x b1 = 1 ∧ tkV L x b1 < 6
        · rw [if_pos ⟨c2, Nat.zero_le _⟩]
          obtain ⟨k3, k4⟩ := k2 c2
          have a2 := tk_adv (x := x) a1.2 (by omega)
          have e2 : pFam L x T N s0 a = pNum L x (tkE L x b1) 10 fun Y e3 => if Y < 1 then .inl (tkS L x (tkE L x b1)) else pStp L x e3 fun e4 => .inr (tAddF T A (tkV L x b1) Y, N, e4) := by
            rw [e1]; unfold pNum; rw [if_pos c2]
          clear k2
          generalize tkV L x b1 = B at c2 e2 k4 ⊢
          generalize tkE L x b1 = b2 at k3 a2 e2
          refine q_if_ne hC 51 dX10_takesFamily_46 (by decide) (fun hb2 => ?_) (fun hb2 => ?_)
          · refine q_aload_n hC dX10_takesFamily_51 ?_
            refine q_getR hC (by first | assumption | rfl) flX10_46 dX10_takesFamily_52 ?_
            refine q_iload_n hC dX10_takesFamily_55 ?_
            refine q_iconst (v := nI 1) hC dX10_takesFamily_56 (by decide) ?_
            refine q_iadd hC dX10_takesFamily_57 ?_
            rw [nI_add]
            refine q_aload_n hC dX10_takesFamily_58 ?_
            refine q_getL hC (by first | assumption | rfl) flX10_91 dX10_takesFamily_59 ?_
            rw [k4]
            refine q_l2i hC dX10_takesFamily_62 ?_
            rw [lN_i]
            refine q_iastn hC (by first | assumption | rfl) (by first | assumption | omega) dX10_takesFamily_63 ?_
            have hFb := hF12.trans (FrI.u13 (j := 40 + 3 * tF T + 1) (v := nI B))
            have hxb := hFb.tx hx
            refine q_aload_n hC dX10_takesFamily_64 ?_
            refine q_iconst (v := nI 1) hC dX10_takesFamily_65 (by decide) ?_
            refine q_bipush (v := nI 9) hC dX10_takesFamily_66 (by decide) ?_
            refine q_calliV2 hC (by first | assumption | rfl) cvX10_123 dX10_takesFamily_68 (m_takes θ _ b2 L 1 10 x _ (by omega) (by omega) (ml_nI (m := 9) (by omega)) hxb (by rw [up_oc (by decide)]; exact k3) a2.2) (by decide) (fun r3 S3 hr3 => ?_)
            obtain ⟨rfl, hF3, j1, j2⟩ := hr3
            have hF13 := hFb.trans hF3.I
            have sA' : S3.1 13 (40 + 3 * tF T) = nI A := by rw [hF3.2.1 13 (by decide), up_of (by omega)]; exact rA
            have sB' : S3.1 13 (40 + 3 * tF T + 1) = nI B := by rw [hF3.2.1 13 (by decide), up_s]
            have sO : ∀ j, j < 40 + 3 * tF T → S3.1 13 j = S.1 13 j := fun j hj => by rw [hF3.2.1 13 (by decide), up_of (by omega)]; exact rO j hj
            have s21 : S3.1 0 21 = nI (tP T) := by rw [hF3.1 21 (by omega), up_oc (by decide)]; exact r21
            have s22 : S3.1 0 22 = nI (tF T) := by rw [hF3.1 22 (by omega), up_oc (by decide)]; exact r22
            clear hF3 hFb hxb
            by_cases c3 : tkK L x b2 = 1 ∧ tkV L x b2 < 10
            · obtain ⟨j3, j4⟩ := j2 c3
              have a3 := tk_adv (x := x) a2.2 (by omega)
              have e3 : pFam L x T N s0 a = if tkV L x b2 < 1 then .inl (tkS L x b2) else pStp L x (tkE L x b2) fun e4 => .inr (tAddF T A B (tkV L x b2), N, e4) := by
                rw [e2]; unfold pNum; rw [if_pos c3]
              by_cases hY : tkV L x b2 < 1
              · rw [if_neg (fun q => by omega)]
                refine q_if_ne hC 76 dX10_takesFamily_71 (by decide) (fun hb4 => ?_) (fun hb4 => ?_)
                · exact absurd rfl hb4
                · refine q_iconst (v := nI 0) hC dX10_takesFamily_74 (by decide) ?_
                  refine q_iret hC dX10_takesFamily_75 ?_
                  exact ⟨MPo.bad hF13 j1 (by rw [e3, if_pos hY]), by decide⟩
              · rw [if_pos ⟨c3, by omega⟩]
                rw [if_neg hY] at e3
                clear j2
                generalize tkV L x b2 = Y at c3 e3 j4 hY ⊢
                generalize tkE L x b2 = b3 at j3 a3 e3
                refine q_if_ne hC 76 dX10_takesFamily_71 (by decide) (fun hb4 => ?_) (fun hb4 => ?_)
                · refine q_aload_n hC dX10_takesFamily_76 ?_
                  refine q_getR hC (by first | assumption | rfl) flX10_46 dX10_takesFamily_77 ?_
                  refine q_iload_n hC dX10_takesFamily_80 ?_
                  refine q_iconst (v := nI 2) hC dX10_takesFamily_81 (by decide) ?_
                  refine q_iadd hC dX10_takesFamily_82 ?_
                  rw [nI_add]
                  refine q_aload_n hC dX10_takesFamily_83 ?_
                  refine q_getL hC (by first | assumption | rfl) flX10_91 dX10_takesFamily_84 ?_
                  rw [j4]
                  refine q_l2i hC dX10_takesFamily_87 ?_
                  rw [lN_i]
                  refine q_iastn hC (by first | assumption | rfl) (by first | assumption | omega) dX10_takesFamily_88 ?_
                  refine q_aload_n hC dX10_takesFamily_89 ?_
                  refine q_dup hC dX10_takesFamily_90 rfl ?_
                  refine q_getI hC (by first | assumption | rfl) flX10_131 dX10_takesFamily_91 ?_
                  rw [up_oc (by decide), s22]
                  refine q_iconst (v := nI 1) hC dX10_takesFamily_94 (by decide) ?_
                  refine q_iadd hC dX10_takesFamily_95 ?_
                  rw [nI_add]
                  refine q_putI hC (by first | assumption | rfl) fpX10_131 dX10_takesFamily_96 ?_
                  generalize hS4 : up (up S3 13 (40 + 3 * tF T + 2) (nI Y)) 0 22 (nI (tF T + 1)) = S4
                  have hF14 : FrI S S4 := by rw [← hS4]; exact hF13.trans (FrI.u13.trans (FrI.u0 (by omega)))
                  have hx4 := hF14.tx hx
                  have hM4 : RdM S4 (tAddF T A B Y) N := by
                    rw [← hS4]
                    refine ⟨?_, up_s, fun p hp => ?_, fun f hf => ?_⟩
                    · rw [up_of (by decide), up_oc (by decide)]; exact s21
                    · have hp' : p < tP T := hp
                      rw [up_oc (by decide)]
                      rw [up_of (by omega), up_of (by omega), up_of (by omega), up_of (by omega), up_of (by omega)]
                      rw [sO _ (by omega), sO _ (by omega), sO _ (by omega), sO _ (by omega), sO _ (by omega)]
                      exact hM.2.2.1 p hp'
                    · have hf' : f < tF T + 1 := hf
                      rw [up_oc (by decide)]
                      show _ = nI (upN (tH T) (tF T) A f) ∧ _ = nI (upN (tG T) (tF T) B f) ∧ _ = nI (upN (tN T) (tF T) Y f)
                      by_cases e : f = tF T
                      · subst e
                        rw [upN_s, upN_s, upN_s]
                        refine ⟨?_, ?_, ?_⟩
                        · rw [up_of (by omega)]; exact sA'
                        · rw [up_of (by omega), show 41 + 3 * tF T = 40 + 3 * tF T + 1 by omega]; exact sB'
                        · rw [show 42 + 3 * tF T = 40 + 3 * tF T + 2 by omega, up_s]
                      · rw [upN_o e, upN_o e, upN_o e]
                        rw [up_of (by omega), up_of (by omega), up_of (by omega)]
                        rw [sO _ (by omega), sO _ (by omega), sO _ (by omega)]
                        exact hM.2.2.2 f (by omega)
                  have h174 : S4.1 0 17 = nI b3 := by rw [← hS4, up_of (by decide), up_oc (by decide)]; exact j3
                  refine q_aload_n hC dX10_takesFamily_99 ?_
                  refine q_calliV0 hC (by first | assumption | rfl) cvX10_127 dX10_takesFamily_100 (m_stops θ _ b3 L x hx4 h174 a3.2) (by decide) (fun r5 S5 hr5 => ?_)
                  obtain ⟨rfl, hF5, l1, l2⟩ := hr5
                  refine q_iret hC dX10_takesFamily_103 ?_
                  by_cases c4 : tkK L x b3 = 2
                  · rw [if_pos c4]
                    unfold pStp at e3
                    rw [if_pos c4] at e3
                    exact ⟨MPo.good (hF14.trans hF5.I) (hM4.frN hF5) (l2 c4) (fun p hp => hz p hp) e3, by decide⟩
                  · rw [if_neg c4]
                    unfold pStp at e3
                    rw [if_neg c4] at e3
                    exact ⟨MPo.bad (hF14.trans hF5.I) l1 e3, by decide⟩
                · exact absurd hb4 (by decide)
            · rw [if_neg (fun q => c3 q.1)]
              unfold pNum at e2
              rw [if_neg c3] at e2
              refine q_if_ne hC 76 dX10_takesFamily_71 (by decide) (fun hb4 => ?_) (fun hb4 => ?_)
              · exact absurd rfl hb4
              · refine q_iconst (v := nI 0) hC dX10_takesFamily_74 (by decide) ?_
                refine q_iret hC dX10_takesFamily_75 ?_
                exact ⟨MPo.bad hF13 j1 e2, by decide⟩
          · exact absurd hb2 (by decide)
        · rw [if_neg (fun q => c2 q.1)]
          unfold pNum at e1
          rw [if_neg c2] at e1
          refine q_if_ne hC 51 dX10_takesFamily_46 (by decide) (fun hb2 => ?_) (fun hb2 => ?_)
          · exact absurd rfl hb2
          · refine q_iconst (v := nI 0) hC dX10_takesFamily_49 (by decide) ?_
            refine q_iret hC dX10_takesFamily_50 ?_
            exact ⟨MPo.bad hF12 k1 e1, by decide⟩
      · exact absurd hb1 (by decide)
    · rw [if_neg (fun q => c1 q.1)]
      refine q_if_ne hC 29 dX10_takesFamily_24 (by decide) (fun hb1 => ?_) (fun hb1 => ?_)
      · exact absurd rfl hb1
      · refine q_iconst (v := nI 0) hC dX10_takesFamily_27 (by decide) ?_
        refine q_iret hC dX10_takesFamily_28 ?_
        exact ⟨MPo.bad hF1.I g1 (by unfold pFam; rw [if_neg hP]; unfold pNum; rw [if_neg c1]), by decide⟩
