theorem c_number (θ : Site) (S : St) (a L m : Nat) (x : Nat → Nat) (mo : Int32) (hmo : ∀ v, v ≤ 100 → (mo < nI v ↔ m ≤ v)) (hx : TxR S L x) (h3 : S.1 3 3 = nI a) (haL : a ≤ L) : Cti yX4_number cX4_number 2 (some .int) 7 θ shX [.ref (sA θ 3), .int mo] S (fun r S' => r = (if tkK L x a = 1 ∧ tkV L x a < m then nI (tkV L x a) else -1) ∧ Fr S S' [3] ∧ S'.1 3 3 = nI (tkE L x a) ∧ S'.1 3 4 = nI (tkS L x a)) := by
  have hk8 := kAt_le L x (tkS L x a)
  have hvl := tkV_le L x a
  refine Cti.mk (own := RX4) 0 [some (.ref (sA θ 3)), some (.int mo)] (fun K hC => ?_)
  refine q_aload_n hC dX4_number_0 ?_
  refine q_callvV0 hC (by first | assumption | rfl) cvX4_44 dX4_number_1 (c_nextToken θ _ a L x hx h3 haL) (by decide) (fun S1 hr => ?_)
  obtain ⟨hF1, g1, g2, g3, g4⟩ := hr
  refine q_aload_n hC dX4_number_4 ?_
  refine q_getI hC (by first | assumption | rfl) flX4_18 dX4_number_5 ?_
  rw [g3]
  refine q_iconst (v := nI 1) hC dX4_number_8 (by decide) ?_
  refine q_icmp_ne hC 27 dX4_number_9 (by decide) (fun hb => ?_) (fun hb => ?_)
  · have h1 : ¬ tkK L x a = 1 := fun z => hb (by rw [z])
    refine q_iconst (v := (-1)) hC dX4_number_27 (by decide) ?_
    refine q_iret hC dX4_number_28 ?_
    exact ⟨by rw [if_neg (fun z => h1 z.1)], hF1, g1, g2⟩
  · have h1 : tkK L x a = 1 := nI_small (by unfold tkK; omega) (by omega) hb
    refine q_aload_n hC dX4_number_12 ?_
    refine q_getI hC (by first | assumption | rfl) flX4_21 dX4_number_13 ?_
    rw [g4 h1]
    refine q_iload_n hC dX4_number_16 ?_
    refine q_icmp_gt hC 27 dX4_number_17 (by decide) (fun hb2 => ?_) (fun hb2 => ?_)
    · have h2 : m ≤ tkV L x a := (hmo _ hvl).mp hb2
      refine q_iconst (v := (-1)) hC dX4_number_27 (by decide) ?_
      refine q_iret hC dX4_number_28 ?_
      exact ⟨by rw [if_neg (fun z => by omega)], hF1, g1, g2⟩
    · have h2 : tkV L x a < m := by
        rcases Nat.lt_or_ge (tkV L x a) m with h | h
        · exact h
        · exact absurd ((hmo _ hvl).mpr h) hb2
      refine q_aload_n hC dX4_number_20 ?_
      refine q_getI hC (by first | assumption | rfl) flX4_21 dX4_number_21 ?_
      rw [g4 h1]
      refine q_goto hC 28 dX4_number_24 (by decide) ?_
      refine q_iret hC dX4_number_28 ?_
      exact ⟨by rw [if_pos ⟨h1, h2⟩], hF1, g1, g2⟩
theorem c_stops (θ : Site) (S : St) (a L : Nat) (x : Nat → Nat) (hx : TxR S L x) (h3 : S.1 3 3 = nI a) (haL : a ≤ L) : Cti yX4_stops cX4_stops 1 (some .boolean) 7 θ shX [.ref (sA θ 3)] S (fun r S' => r = nI (if tkK L x a = 2 then 1 else 0) ∧ Fr S S' [3] ∧ S'.1 3 3 = nI (tkE L x a) ∧ S'.1 3 4 = nI (tkS L x a)) := by
  have hk8 := kAt_le L x (tkS L x a)
  refine Cti.mkz (own := RX4) 0 [some (.ref (sA θ 3))] (fun K hC => ?_)
  refine q_aload_n hC dX4_stops_0 ?_
  refine q_callvV0 hC (by first | assumption | rfl) cvX4_44 dX4_stops_1 (c_nextToken θ _ a L x hx h3 haL) (by decide) (fun S1 hr => ?_)
  obtain ⟨hF1, g1, g2, g3, g4⟩ := hr
  refine q_aload_n hC dX4_stops_4 ?_
  refine q_getI hC (by first | assumption | rfl) flX4_18 dX4_stops_5 ?_
  rw [g3]
  refine q_iconst (v := nI 2) hC dX4_stops_8 (by decide) ?_
  refine q_icmp_ne hC 16 dX4_stops_9 (by decide) (fun hb => ?_) (fun hb => ?_)
  · have h1 : ¬ tkK L x a = 2 := fun z => hb (by rw [z])
    refine q_iconst (v := nI 0) hC dX4_stops_16 (by decide) ?_
    refine q_iret hC dX4_stops_17 ?_
    exact ⟨⟨by rw [if_neg h1], hF1, g1, g2⟩, by decide⟩
  · have h1 : tkK L x a = 2 := nI_small (by unfold tkK; omega) (by omega) hb
    refine q_iconst (v := nI 1) hC dX4_stops_12 (by decide) ?_
    refine q_goto hC 17 dX4_stops_13 (by decide) ?_
    refine q_iret hC dX4_stops_17 ?_
    exact ⟨⟨by rw [if_pos h1], hF1, g1, g2⟩, by decide⟩
theorem c_readPiece (θ : Site) (S : St) (a s0 L : Nat) (x : Nat → Nat) (T : Tn) (N : Nw) (hx : TxR S L x) (h3 : S.1 3 3 = nI a) (h4 : S.1 3 4 = nI s0) (haL : a ≤ L) (hok : TnOk T) (hNo : NwOk T N) (hT : TwR S 11 T) (hN : NwR S 22 N) : Cti yX4_readPiece cX4_readPiece 4 (some .boolean) 8 θ shX [.ref (sA θ 3)] S (fun r S' => RdPost S S' r (pPie L x T N s0 a)) := by
  have h8 := hok.1
  have hF4 := hok.2.1
  refine Cti.mkz (own := RX4) 3 [some (.ref (sA θ 3)), none, none, none] (fun K hC => ?_)
  refine q_aload_n hC dX4_readPiece_0 ?_
  refine q_getR hC (by first | assumption | rfl) flX4_28 dX4_readPiece_1 ?_
  refine q_getI hC (by first | assumption | rfl) flX4_63 dX4_readPiece_4 ?_
  rw [hT.1]
  refine q_bipush (v := nI 8) hC dX4_readPiece_7 (by decide) ?_
  refine q_icmp_lt hC 14 dX4_readPiece_9 (by decide) (fun hb => ?_) (fun hb => ?_)
  · have hP : ¬ 8 ≤ tP T := by have := (nI_ltI (by omega) (by omega)).mp hb; omega
    refine q_aload_n hC dX4_readPiece_14 ?_
    refine q_iconst (v := nI 5) hC dX4_readPiece_15 (by decide) ?_
    refine q_calliV1 hC (by first | assumption | rfl) cvX4_66 dX4_readPiece_16 (c_number θ _ a L 6 x _ (mo_nI (m := 5) (by omega)) hx h3 haL) (by decide) (fun r S1 hr => ?_)
    obtain ⟨rfl, hF1, g1, g2⟩ := hr
    have hx1 := hx.go (hF1.c 1) (hF1.c 2)
    by_cases c1 : tkK L x a = 1 ∧ tkV L x a < 6
    · rw [if_pos c1]
      have a1 := tk_adv (x := x) haL (by omega)
      have e1 : pPie L x T N s0 a = pNum L x (tkE L x a) 6 fun B e2 => if B = tkV L x a then .inl (tkS L x (tkE L x a)) else pNum L x e2 31 fun Y e3 => if Y < 1 then .inl (tkS L x e2) else pStp L x e3 fun e4 => .inr (tAddP T (tkV L x a) B Y, N, e4) := by
        unfold pPie; rw [if_neg hP]; unfold pNum; rw [if_pos c1]
      generalize tkV L x a = A at c1 e1 ⊢
      generalize tkE L x a = b1 at g1 a1 e1
      refine q_istore_1 hC dX4_readPiece_19 ?_
      refine q_iload_n hC dX4_readPiece_20 ?_
      refine q_iconst (v := (-1)) hC dX4_readPiece_21 (by decide) ?_
      refine q_icmp_ne hC 27 dX4_readPiece_22 (by decide) (fun hb1 => ?_) (fun hb1 => ?_)
      · refine q_aload_n hC dX4_readPiece_27 ?_
        refine q_iconst (v := nI 5) hC dX4_readPiece_28 (by decide) ?_
        refine q_calliV1 hC (by first | assumption | rfl) cvX4_66 dX4_readPiece_29 (c_number θ _ b1 L 6 x _ (mo_nI (m := 5) (by omega)) hx1 g1 a1.2) (by decide) (fun r2 S2 hr2 => ?_)
        obtain ⟨rfl, hF2, g3, g4⟩ := hr2
        have hF12 := hF1.trans hF2
        have hx2 := hx.go (hF12.c 1) (hF12.c 2)
        by_cases c2 : tkK L x b1 = 1 ∧ tkV L x b1 < 6
        · rw [if_pos c2]
          have a2 := tk_adv (x := x) a1.2 (by omega)
          have e2 : pPie L x T N s0 a = if tkV L x b1 = A then .inl (tkS L x b1) else pNum L x (tkE L x b1) 31 fun Y e3 => if Y < 1 then .inl (tkS L x (tkE L x b1)) else pStp L x e3 fun e4 => .inr (tAddP T A (tkV L x b1) Y, N, e4) := by
            rw [e1]; unfold pNum; rw [if_pos c2]
          generalize tkV L x b1 = B at c2 e2 ⊢
          generalize tkE L x b1 = b2 at g3 a2 e2
          refine q_istore_2 hC dX4_readPiece_32 ?_
          refine q_iload_n hC dX4_readPiece_33 ?_
          refine q_iconst (v := (-1)) hC dX4_readPiece_34 (by decide) ?_
          refine q_icmp_eq hC 43 dX4_readPiece_35 (by decide) (fun hb2 => ?_) (fun hb2 => ?_)
          · exact absurd hb2 (by have : ∀ B, B < 6 → ¬ (nI B = (-1 : Int32)) := by decide
                                 exact this B c2.2)
          · refine q_iload_n hC dX4_readPiece_38 ?_
            refine q_iload_n hC dX4_readPiece_39 ?_
            refine q_icmp_ne hC 45 dX4_readPiece_40 (by decide) (fun hb3 => ?_) (fun hb3 => ?_)
            · have hne : ¬ B = A := fun z => hb3 (by rw [z])
              rw [if_neg hne] at e2
              refine q_aload_n hC dX4_readPiece_45 ?_
              refine q_bipush (v := nI 30) hC dX4_readPiece_46 (by decide) ?_
              refine q_calliV1 hC (by first | assumption | rfl) cvX4_66 dX4_readPiece_48 (c_number θ _ b2 L 31 x _ (mo_nI (m := 30) (by omega)) hx2 g3 a2.2) (by decide) (fun r3 S3 hr3 => ?_)
              obtain ⟨rfl, hF3, g5, g6⟩ := hr3
              have hF13 := hF12.trans hF3
              have hx3 := hx.go (hF13.c 1) (hF13.c 2)
              by_cases c3 : tkK L x b2 = 1 ∧ tkV L x b2 < 31
              · rw [if_pos c3]
                have a3 := tk_adv (x := x) a2.2 (by omega)
                have e3 : pPie L x T N s0 a = if tkV L x b2 < 1 then .inl (tkS L x b2) else pStp L x (tkE L x b2) fun e4 => .inr (tAddP T A B (tkV L x b2), N, e4) := by
                  rw [e2]; unfold pNum; rw [if_pos c3]
                generalize tkV L x b2 = Y at c3 e3 ⊢
                generalize tkE L x b2 = b3 at g5 a3 e3
                refine q_istore_3 hC dX4_readPiece_51 ?_
                refine q_iload_n hC dX4_readPiece_52 ?_
                refine q_iconst (v := nI 1) hC dX4_readPiece_53 (by decide) ?_
                refine q_icmp_lt hC 64 dX4_readPiece_54 (by decide) (fun hb4 => ?_) (fun hb4 => ?_)
                · have hY : Y < 1 := (nI_ltI (by omega) (by omega)).mp hb4
                  refine q_iconst (v := nI 0) hC dX4_readPiece_64 (by decide) ?_
                  refine q_iret hC dX4_readPiece_65 ?_
                  exact ⟨RdPost.bad (hF13.mono (by decide)) g6 (by rw [e3, if_pos hY]), by decide⟩
                · have hY : ¬ Y < 1 := fun z => hb4 (nI_lt z (by omega))
                  rw [if_neg hY] at e3
                  refine q_aload_n hC dX4_readPiece_57 ?_
                  refine q_calliV0 hC (by first | assumption | rfl) cvX4_70 dX4_readPiece_58 (c_stops θ _ b3 L x hx3 g5 a3.2) (by decide) (fun r4 S4 hr4 => ?_)
                  obtain ⟨rfl, hF4', g7, g8⟩ := hr4
                  have hF14 := hF13.trans hF4'
                  by_cases c4 : tkK L x b3 = 2
                  · rw [if_pos c4]
                    unfold pStp at e3
                    rw [if_pos c4] at e3
                    refine q_if_ne hC 66 dX4_readPiece_61 (by decide) (fun hb5 => ?_) (fun hb5 => ?_)
                    · refine q_aload_n hC dX4_readPiece_66 ?_
                      refine q_getR hC (by first | assumption | rfl) flX4_28 dX4_readPiece_67 ?_
                      refine q_iload_n hC dX4_readPiece_70 ?_
                      refine q_iload_n hC dX4_readPiece_71 ?_
                      refine q_iload_n hC dX4_readPiece_72 ?_
                      refine q_callvV3 hC (by first | assumption | rfl) cvX4_73 dX4_readPiece_73 (c_addPiece θ _ 11 A B Y twAt11 T (hT.go11 hF14) (by omega)) (by decide) (fun S5 hr5 => ?_)
                      obtain ⟨hF5, hT5⟩ := hr5
                      refine q_iconst (v := nI 1) hC dX4_readPiece_76 (by decide) ?_
                      refine q_iret hC dX4_readPiece_77 ?_
                      have hF15 : Fr S S5 drL := (hF14.mono (by decide)).trans (hF5.mono (by decide))
                      exact ⟨RdPost.good hF15 hT5 ((hN.go22 hF14).go (hF5.c 22) (hF5.c 23) (hF5.c 24) (hF5.c 25)) (by rw [hF5.c 3]; exact g7) e3, by decide⟩
                    · exact absurd hb5 (by decide)
                  · rw [if_neg c4]
                    unfold pStp at e3
                    rw [if_neg c4] at e3
                    refine q_if_ne hC 66 dX4_readPiece_61 (by decide) (fun hb5 => ?_) (fun hb5 => ?_)
                    · exact absurd rfl hb5
                    · refine q_iconst (v := nI 0) hC dX4_readPiece_64 (by decide) ?_
                      refine q_iret hC dX4_readPiece_65 ?_
                      exact ⟨RdPost.bad (hF14.mono (by decide)) g8 e3, by decide⟩
              · rw [if_neg c3]
                unfold pNum at e2
                rw [if_neg c3] at e2
                refine q_istore_3 hC dX4_readPiece_51 ?_
                refine q_iload_n hC dX4_readPiece_52 ?_
                refine q_iconst (v := nI 1) hC dX4_readPiece_53 (by decide) ?_
                refine q_icmp_lt hC 64 dX4_readPiece_54 (by decide) (fun hb4 => ?_) (fun hb4 => ?_)
                · refine q_iconst (v := nI 0) hC dX4_readPiece_64 (by decide) ?_
                  refine q_iret hC dX4_readPiece_65 ?_
                  exact ⟨RdPost.bad (hF13.mono (by decide)) g6 e2, by decide⟩
                · exact absurd (by decide) hb4
            · have hne : B = A := nI_small (by omega) (by omega) hb3
              rw [if_pos hne] at e2
              refine q_iconst (v := nI 0) hC dX4_readPiece_43 (by decide) ?_
              refine q_iret hC dX4_readPiece_44 ?_
              exact ⟨RdPost.bad (hF12.mono (by decide)) g4 e2, by decide⟩
        · rw [if_neg c2]
          unfold pNum at e1
          rw [if_neg c2] at e1
          refine q_istore_2 hC dX4_readPiece_32 ?_
          refine q_iload_n hC dX4_readPiece_33 ?_
          refine q_iconst (v := (-1)) hC dX4_readPiece_34 (by decide) ?_
          refine q_icmp_eq hC 43 dX4_readPiece_35 (by decide) (fun hb2 => ?_) (fun hb2 => ?_)
          · refine q_iconst (v := nI 0) hC dX4_readPiece_43 (by decide) ?_
            refine q_iret hC dX4_readPiece_44 ?_
            exact ⟨RdPost.bad (hF12.mono (by decide)) g4 e1, by decide⟩
          · exact absurd rfl hb2
      · exact absurd hb1 (by have : ∀ B, B < 6 → ¬ (nI B = (-1 : Int32)) := by decide
                             exact this A c1.2)
    · rw [if_neg c1]
      refine q_istore_1 hC dX4_readPiece_19 ?_
      refine q_iload_n hC dX4_readPiece_20 ?_
      refine q_iconst (v := (-1)) hC dX4_readPiece_21 (by decide) ?_
      refine q_icmp_ne hC 27 dX4_readPiece_22 (by decide) (fun hb1 => ?_) (fun hb1 => ?_)
      · exact absurd rfl hb1
      · refine q_iconst (v := nI 0) hC dX4_readPiece_25 (by decide) ?_
        refine q_iret hC dX4_readPiece_26 ?_
        exact ⟨RdPost.bad (hF1.mono (by decide)) g2 (by unfold pPie; rw [if_neg hP]; unfold pNum; rw [if_neg c1]), by decide⟩
  · have hP : 8 ≤ tP T := by
      rcases Nat.lt_or_ge (tP T) 8 with h | h
      · exact absurd (nI_lt h (by omega)) hb
      · exact h
    refine q_iconst (v := nI 0) hC dX4_readPiece_12 (by decide) ?_
    refine q_iret hC dX4_readPiece_13 ?_
    exact ⟨RdPost.bad Fr.rfl' h4 (by unfold pPie; rw [if_pos hP]), by decide⟩
theorem c_readFamily (θ : Site) (S : St) (a s0 L : Nat) (x : Nat → Nat) (T : Tn) (N : Nw) (hx : TxR S L x) (h3 : S.1 3 3 = nI a) (h4 : S.1 3 4 = nI s0) (haL : a ≤ L) (hok : TnOk T) (hNo : NwOk T N) (hT : TwR S 11 T) (hN : NwR S 22 N) : Cti yX4_readFamily cX4_readFamily 4 (some .boolean) 8 θ shX [.ref (sA θ 3)] S (fun r S' => RdPost S S' r (pFam L x T N s0 a)) := by
  have h8 := hok.1
  have hF4 := hok.2.1
  refine Cti.mkz (own := RX4) 3 [some (.ref (sA θ 3)), none, none, none] (fun K hC => ?_)
  refine q_aload_n hC dX4_readFamily_0 ?_
  refine q_getR hC (by first | assumption | rfl) flX4_28 dX4_readFamily_1 ?_
  refine q_getI hC (by first | assumption | rfl) flX4_77 dX4_readFamily_4 ?_
  rw [hT.2.1]
  refine q_iconst (v := nI 4) hC dX4_readFamily_7 (by decide) ?_
  refine q_icmp_lt hC 13 dX4_readFamily_8 (by decide) (fun hb => ?_) (fun hb => ?_)
  · have hP : ¬ 4 ≤ tF T := by have := (nI_ltI (by omega) (by omega)).mp hb; omega
    refine q_aload_n hC dX4_readFamily_13 ?_
    refine q_iconst (v := nI 5) hC dX4_readFamily_14 (by decide) ?_
    refine q_calliV1 hC (by first | assumption | rfl) cvX4_66 dX4_readFamily_15 (c_number θ _ a L 6 x _ (mo_nI (m := 5) (by omega)) hx h3 haL) (by decide) (fun r S1 hr => ?_)
    obtain ⟨rfl, hF1, g1, g2⟩ := hr
    have hx1 := hx.go (hF1.c 1) (hF1.c 2)
    by_cases c1 : tkK L x a = 1 ∧ tkV L x a < 6
    · rw [if_pos c1]
      have a1 := tk_adv (x := x) haL (by omega)
      have e1 : pFam L x T N s0 a = pNum L x (tkE L x a) 6 fun B e2 => pNum L x e2 10 fun Y e3 => if Y < 1 then .inl (tkS L x e2) else pStp L x e3 fun e4 => .inr (tAddF T (tkV L x a) B Y, N, e4) := by
        unfold pFam; rw [if_neg hP]; unfold pNum; rw [if_pos c1]
      generalize tkV L x a = A at c1 e1 ⊢
      generalize tkE L x a = b1 at g1 a1 e1
      refine q_istore_1 hC dX4_readFamily_18 ?_
      refine q_iload_n hC dX4_readFamily_19 ?_
      refine q_iconst (v := (-1)) hC dX4_readFamily_20 (by decide) ?_
      refine q_icmp_ne hC 26 dX4_readFamily_21 (by decide) (fun hb1 => ?_) (fun hb1 => ?_)
      · refine q_aload_n hC dX4_readFamily_26 ?_
        refine q_iconst (v := nI 5) hC dX4_readFamily_27 (by decide) ?_
        refine q_calliV1 hC (by first | assumption | rfl) cvX4_66 dX4_readFamily_28 (c_number θ _ b1 L 6 x _ (mo_nI (m := 5) (by omega)) hx1 g1 a1.2) (by decide) (fun r2 S2 hr2 => ?_)
        obtain ⟨rfl, hF2, g3, g4⟩ := hr2
        have hF12 := hF1.trans hF2
        have hx2 := hx.go (hF12.c 1) (hF12.c 2)
        by_cases c2 : tkK L x b1 = 1 ∧ tkV L x b1 < 6
        · rw [if_pos c2]
          have a2 := tk_adv (x := x) a1.2 (by omega)
          have e2 : pFam L x T N s0 a = pNum L x (tkE L x b1) 10 fun Y e3 => if Y < 1 then .inl (tkS L x (tkE L x b1)) else pStp L x e3 fun e4 => .inr (tAddF T A (tkV L x b1) Y, N, e4) := by
            rw [e1]; unfold pNum; rw [if_pos c2]
          generalize tkV L x b1 = B at c2 e2 ⊢
          generalize tkE L x b1 = b2 at g3 a2 e2
          refine q_istore_2 hC dX4_readFamily_31 ?_
          refine q_iload_n hC dX4_readFamily_32 ?_
          refine q_iconst (v := (-1)) hC dX4_readFamily_33 (by decide) ?_
          refine q_icmp_ne hC 39 dX4_readFamily_34 (by decide) (fun hb2 => ?_) (fun hb2 => ?_)
          · refine q_aload_n hC dX4_readFamily_39 ?_
            refine q_bipush (v := nI 9) hC dX4_readFamily_40 (by decide) ?_
            refine q_calliV1 hC (by first | assumption | rfl) cvX4_66 dX4_readFamily_42 (c_number θ _ b2 L 10 x _ (mo_nI (m := 9) (by omega)) hx2 g3 a2.2) (by decide) (fun r3 S3 hr3 => ?_)
            obtain ⟨rfl, hF3, g5, g6⟩ := hr3
            have hF13 := hF12.trans hF3
            have hx3 := hx.go (hF13.c 1) (hF13.c 2)
            by_cases c3 : tkK L x b2 = 1 ∧ tkV L x b2 < 10
            · rw [if_pos c3]
              have a3 := tk_adv (x := x) a2.2 (by omega)
              have e3 : pFam L x T N s0 a = if tkV L x b2 < 1 then .inl (tkS L x b2) else pStp L x (tkE L x b2) fun e4 => .inr (tAddF T A B (tkV L x b2), N, e4) := by
                rw [e2]; unfold pNum; rw [if_pos c3]
              generalize tkV L x b2 = Y at c3 e3 ⊢
              generalize tkE L x b2 = b3 at g5 a3 e3
              refine q_istore_3 hC dX4_readFamily_45 ?_
              refine q_iload_n hC dX4_readFamily_46 ?_
              refine q_iconst (v := nI 1) hC dX4_readFamily_47 (by decide) ?_
              refine q_icmp_lt hC 58 dX4_readFamily_48 (by decide) (fun hb4 => ?_) (fun hb4 => ?_)
              · have hY : Y < 1 := (nI_ltI (by omega) (by omega)).mp hb4
                refine q_iconst (v := nI 0) hC dX4_readFamily_58 (by decide) ?_
                refine q_iret hC dX4_readFamily_59 ?_
                exact ⟨RdPost.bad (hF13.mono (by decide)) g6 (by rw [e3, if_pos hY]), by decide⟩
              · have hY : ¬ Y < 1 := fun z => hb4 (nI_lt z (by omega))
                rw [if_neg hY] at e3
                refine q_aload_n hC dX4_readFamily_51 ?_
                refine q_calliV0 hC (by first | assumption | rfl) cvX4_70 dX4_readFamily_52 (c_stops θ _ b3 L x hx3 g5 a3.2) (by decide) (fun r4 S4 hr4 => ?_)
                obtain ⟨rfl, hF4', g7, g8⟩ := hr4
                have hF14 := hF13.trans hF4'
                by_cases c4 : tkK L x b3 = 2
                · rw [if_pos c4]
                  unfold pStp at e3
                  rw [if_pos c4] at e3
                  refine q_if_ne hC 60 dX4_readFamily_55 (by decide) (fun hb5 => ?_) (fun hb5 => ?_)
                  · refine q_aload_n hC dX4_readFamily_60 ?_
                    refine q_getR hC (by first | assumption | rfl) flX4_28 dX4_readFamily_61 ?_
                    refine q_iload_n hC dX4_readFamily_64 ?_
                    refine q_iload_n hC dX4_readFamily_65 ?_
                    refine q_iload_n hC dX4_readFamily_66 ?_
                    refine q_callvV3 hC (by first | assumption | rfl) cvX4_80 dX4_readFamily_67 (c_addFamily θ _ 11 A B Y twAt11 T (hT.go11 hF14) (by omega)) (by decide) (fun S5 hr5 => ?_)
                    obtain ⟨hF5, hT5⟩ := hr5
                    refine q_iconst (v := nI 1) hC dX4_readFamily_70 (by decide) ?_
                    refine q_iret hC dX4_readFamily_71 ?_
                    have hF15 : Fr S S5 drL := (hF14.mono (by decide)).trans (hF5.mono (by decide))
                    exact ⟨RdPost.good hF15 hT5 ((hN.go22 hF14).go (hF5.c 22) (hF5.c 23) (hF5.c 24) (hF5.c 25)) (by rw [hF5.c 3]; exact g7) e3, by decide⟩
                  · exact absurd hb5 (by decide)
                · rw [if_neg c4]
                  unfold pStp at e3
                  rw [if_neg c4] at e3
                  refine q_if_ne hC 60 dX4_readFamily_55 (by decide) (fun hb5 => ?_) (fun hb5 => ?_)
                  · exact absurd rfl hb5
                  · refine q_iconst (v := nI 0) hC dX4_readFamily_58 (by decide) ?_
                    refine q_iret hC dX4_readFamily_59 ?_
                    exact ⟨RdPost.bad (hF14.mono (by decide)) g8 e3, by decide⟩
            · rw [if_neg c3]
              unfold pNum at e2
              rw [if_neg c3] at e2
              refine q_istore_3 hC dX4_readFamily_45 ?_
              refine q_iload_n hC dX4_readFamily_46 ?_
              refine q_iconst (v := nI 1) hC dX4_readFamily_47 (by decide) ?_
              refine q_icmp_lt hC 58 dX4_readFamily_48 (by decide) (fun hb4 => ?_) (fun hb4 => ?_)
              · refine q_iconst (v := nI 0) hC dX4_readFamily_58 (by decide) ?_
                refine q_iret hC dX4_readFamily_59 ?_
                exact ⟨RdPost.bad (hF13.mono (by decide)) g6 e2, by decide⟩
              · exact absurd (by decide) hb4
          · exact absurd hb2 (by have : ∀ B, B < 6 → ¬ (nI B = (-1 : Int32)) := by decide
                                 exact this B c2.2)
        · rw [if_neg c2]
          unfold pNum at e1
          rw [if_neg c2] at e1
          refine q_istore_2 hC dX4_readFamily_31 ?_
          refine q_iload_n hC dX4_readFamily_32 ?_
          refine q_iconst (v := (-1)) hC dX4_readFamily_33 (by decide) ?_
          refine q_icmp_ne hC 39 dX4_readFamily_34 (by decide) (fun hb2 => ?_) (fun hb2 => ?_)
          · exact absurd rfl hb2
          · refine q_iconst (v := nI 0) hC dX4_readFamily_37 (by decide) ?_
            refine q_iret hC dX4_readFamily_38 ?_
            exact ⟨RdPost.bad (hF12.mono (by decide)) g4 e1, by decide⟩
      · exact absurd hb1 (by have : ∀ B, B < 6 → ¬ (nI B = (-1 : Int32)) := by decide
                             exact this A c1.2)
    · rw [if_neg c1]
      refine q_istore_1 hC dX4_readFamily_18 ?_
      refine q_iload_n hC dX4_readFamily_19 ?_
      refine q_iconst (v := (-1)) hC dX4_readFamily_20 (by decide) ?_
      refine q_icmp_ne hC 26 dX4_readFamily_21 (by decide) (fun hb1 => ?_) (fun hb1 => ?_)
      · exact absurd rfl hb1
      · refine q_iconst (v := nI 0) hC dX4_readFamily_24 (by decide) ?_
        refine q_iret hC dX4_readFamily_25 ?_
        exact ⟨RdPost.bad (hF1.mono (by decide)) g2 (by unfold pFam; rw [if_neg hP]; unfold pNum; rw [if_neg c1]), by decide⟩
  · have hP : 4 ≤ tF T := by
      rcases Nat.lt_or_ge (tF T) 4 with h | h
      · exact absurd (nI_lt h (by omega)) hb
      · exact h
    refine q_iconst (v := nI 0) hC dX4_readFamily_11 (by decide) ?_
    refine q_iret hC dX4_readFamily_12 ?_
    exact ⟨RdPost.bad Fr.rfl' h4 (by unfold pFam; rw [if_pos hP]), by decide⟩
theorem c_readPaved (θ : Site) (S : St) (a s0 L : Nat) (x : Nat → Nat) (T : Tn) (N : Nw) (hx : TxR S L x) (h3 : S.1 3 3 = nI a) (h4 : S.1 3 4 = nI s0) (haL : a ≤ L) (hok : TnOk T) (hNo : NwOk T N) (hT : TwR S 11 T) (hN : NwR S 22 N) : Cti yX4_readPaved cX4_readPaved 3 (some .boolean) 8 θ shX [.ref (sA θ 3)] S (fun r S' => RdPost S S' r (pPav L x T N a)) := by
  have h8 := hok.1
  have hF4 := hok.2.1
  have n1 : ∀ B, B < 8 → ¬ (nI B = (-1 : Int32)) := by decide
  refine Cti.mkz (own := RX4) 2 [some (.ref (sA θ 3)), none, none] (fun K hC => ?_)
  refine q_aload_n hC dX4_readPaved_0 ?_
  refine q_aload_n hC dX4_readPaved_1 ?_
  refine q_getR hC (by first | assumption | rfl) flX4_28 dX4_readPaved_2 ?_
  refine q_getI hC (by first | assumption | rfl) flX4_63 dX4_readPaved_5 ?_
  rw [hT.1]
  refine q_iconst (v := nI 1) hC dX4_readPaved_8 (by decide) ?_
  refine q_isub hC dX4_readPaved_9 ?_
  refine q_calliV1 hC (by first | assumption | rfl) cvX4_66 dX4_readPaved_10 (c_number θ _ a L (tP T) x _ (mo_pred h8) hx h3 haL) (by decide) (fun r S1 hr => ?_)
  obtain ⟨rfl, hF1, g1, g2⟩ := hr
  have hx1 := hx.go (hF1.c 1) (hF1.c 2)
  have hT1 := hT.go11 hF1
  by_cases c1 : tkK L x a = 1 ∧ tkV L x a < tP T
  · rw [if_pos c1]
    have a1 := tk_adv (x := x) haL (by omega)
    have e1 : pPav L x T N a = pNum L x (tkE L x a) (tF T) fun f e2 => pStp L x e2 fun e3 => .inr (T, nPav N (tkV L x a) f, e3) := by
      unfold pPav; unfold pNum; rw [if_pos c1]
    generalize tkV L x a = A at c1 e1 ⊢
    generalize tkE L x a = b1 at g1 a1 e1
    refine q_istore_1 hC dX4_readPaved_13 ?_
    refine q_iload_n hC dX4_readPaved_14 ?_
    refine q_iconst (v := (-1)) hC dX4_readPaved_15 (by decide) ?_
    refine q_icmp_ne hC 21 dX4_readPaved_16 (by decide) (fun hb1 => ?_) (fun hb1 => ?_)
    · refine q_aload_n hC dX4_readPaved_21 ?_
      refine q_aload_n hC dX4_readPaved_22 ?_
      refine q_getR hC (by first | assumption | rfl) flX4_28 dX4_readPaved_23 ?_
      refine q_getI hC (by first | assumption | rfl) flX4_77 dX4_readPaved_26 ?_
      rw [hT1.2.1]
      refine q_iconst (v := nI 1) hC dX4_readPaved_29 (by decide) ?_
      refine q_isub hC dX4_readPaved_30 ?_
      refine q_calliV1 hC (by first | assumption | rfl) cvX4_66 dX4_readPaved_31 (c_number θ _ b1 L (tF T) x _ (mo_pred (by omega)) hx1 g1 a1.2) (by decide) (fun r2 S2 hr2 => ?_)
      obtain ⟨rfl, hF2, g3, g4⟩ := hr2
      have hF12 := hF1.trans hF2
      have hx2 := hx.go (hF12.c 1) (hF12.c 2)
      by_cases c2 : tkK L x b1 = 1 ∧ tkV L x b1 < tF T
      · rw [if_pos c2]
        have a2 := tk_adv (x := x) a1.2 (by omega)
        have e2 : pPav L x T N a = pStp L x (tkE L x b1) fun e3 => .inr (T, nPav N A (tkV L x b1), e3) := by
          rw [e1]; unfold pNum; rw [if_pos c2]
        generalize tkV L x b1 = B at c2 e2 ⊢
        generalize tkE L x b1 = b2 at g3 a2 e2
        refine q_istore_2 hC dX4_readPaved_34 ?_
        refine q_iload_n hC dX4_readPaved_35 ?_
        refine q_iconst (v := (-1)) hC dX4_readPaved_36 (by decide) ?_
        refine q_icmp_eq hC 47 dX4_readPaved_37 (by decide) (fun hb2 => ?_) (fun hb2 => ?_)
        · exact absurd hb2 (n1 B (by omega))
        · refine q_aload_n hC dX4_readPaved_40 ?_
          refine q_calliV0 hC (by first | assumption | rfl) cvX4_70 dX4_readPaved_41 (c_stops θ _ b2 L x hx2 g3 a2.2) (by decide) (fun r4 S4 hr4 => ?_)
          obtain ⟨rfl, hF4', g7, g8⟩ := hr4
          have hF14 := hF12.trans hF4'
          by_cases c4 : tkK L x b2 = 2
          · rw [if_pos c4]
            unfold pStp at e2
            rw [if_pos c4] at e2
            have hN4 := hN.go22 hF14
            refine q_if_ne hC 49 dX4_readPaved_44 (by decide) (fun hb5 => ?_) (fun hb5 => ?_)
            · refine q_aload_n hC dX4_readPaved_49 ?_
              refine q_getR hC (by first | assumption | rfl) flX4_32 dX4_readPaved_50 ?_
              refine q_iload_n hC dX4_readPaved_53 ?_
              refine q_callvV1 hC (by first | assumption | rfl) cvX4_83 dX4_readPaved_54 (c_makeNoStone θ _ 22 A (stm N) nowAt22 (by omega) (stm_lt N) hN4.2.2.1) (by decide) (fun S5 hr5 => ?_)
              subst hr5
              refine q_aload_n hC dX4_readPaved_57 ?_
              refine q_getR hC (by first | assumption | rfl) flX4_32 dX4_readPaved_58 ?_
              refine q_getR hC (by first | assumption | rfl) flX4_87 dX4_readPaved_61 ?_
              refine q_iload_n hC dX4_readPaved_64 ?_
              refine q_iload_n hC dX4_readPaved_65 ?_
              refine q_iastn hC (by first | assumption | rfl) (by first | assumption | omega) dX4_readPaved_66 ?_
              refine q_iconst (v := nI 1) hC dX4_readPaved_67 (by decide) ?_
              refine q_iret hC dX4_readPaved_68 ?_
              have hF15 : Fr S (up (up S4 22 2 (nI (stm N - stm N / 2 ^ A % 2 * 2 ^ A))) (22 + 1) A (nI B)) drL := (hF14.mono (by decide)).trans (Fr.trans (Fr.u1.mono (by decide)) (Fr.u1.mono (by decide)))
              refine ⟨RdPost.good hF15 ((hT.go11 hF14).go ?_ ?_ ?_ ?_ ?_ ?_ ?_) (hN4.pav (by omega) (by omega)) (by rw [up_oc (by decide), up_oc (by decide)]; exact g7) e2, by decide⟩ <;> rw [up_oc (by decide), up_oc (by decide)]
            · exact absurd hb5 (by decide)
          · rw [if_neg c4]
            unfold pStp at e2
            rw [if_neg c4] at e2
            refine q_if_ne hC 49 dX4_readPaved_44 (by decide) (fun hb5 => ?_) (fun hb5 => ?_)
            · exact absurd rfl hb5
            · refine q_iconst (v := nI 0) hC dX4_readPaved_47 (by decide) ?_
              refine q_iret hC dX4_readPaved_48 ?_
              exact ⟨RdPost.bad (hF14.mono (by decide)) g8 e2, by decide⟩
      · rw [if_neg c2]
        unfold pNum at e1
        rw [if_neg c2] at e1
        refine q_istore_2 hC dX4_readPaved_34 ?_
        refine q_iload_n hC dX4_readPaved_35 ?_
        refine q_iconst (v := (-1)) hC dX4_readPaved_36 (by decide) ?_
        refine q_icmp_eq hC 47 dX4_readPaved_37 (by decide) (fun hb2 => ?_) (fun hb2 => ?_)
        · refine q_iconst (v := nI 0) hC dX4_readPaved_47 (by decide) ?_
          refine q_iret hC dX4_readPaved_48 ?_
          exact ⟨RdPost.bad (hF12.mono (by decide)) g4 e1, by decide⟩
        · exact absurd rfl hb2
    · exact absurd hb1 (n1 A (by omega))
  · rw [if_neg c1]
    refine q_istore_1 hC dX4_readPaved_13 ?_
    refine q_iload_n hC dX4_readPaved_14 ?_
    refine q_iconst (v := (-1)) hC dX4_readPaved_15 (by decide) ?_
    refine q_icmp_ne hC 21 dX4_readPaved_16 (by decide) (fun hb1 => ?_) (fun hb1 => ?_)
    · exact absurd rfl hb1
    · refine q_iconst (v := nI 0) hC dX4_readPaved_19 (by decide) ?_
      refine q_iret hC dX4_readPaved_20 ?_
      exact ⟨RdPost.bad (hF1.mono (by decide)) g2 (by unfold pPav; unfold pNum; rw [if_neg c1]), by decide⟩
theorem c_readStone (θ : Site) (S : St) (a s0 L : Nat) (x : Nat → Nat) (T : Tn) (N : Nw) (hx : TxR S L x) (h3 : S.1 3 3 = nI a) (h4 : S.1 3 4 = nI s0) (haL : a ≤ L) (hok : TnOk T) (hNo : NwOk T N) (hT : TwR S 11 T) (hN : NwR S 22 N) : Cti yX4_readStone cX4_readStone 2 (some .boolean) 8 θ shX [.ref (sA θ 3)] S (fun r S' => RdPost S S' r (pSto L x T N a)) := by
  have h8 := hok.1
  have n1 : ∀ B, B < 8 → ¬ (nI B = (-1 : Int32)) := by decide
  refine Cti.mkz (own := RX4) 1 [some (.ref (sA θ 3)), none] (fun K hC => ?_)
  refine q_aload_n hC dX4_readStone_0 ?_
  refine q_aload_n hC dX4_readStone_1 ?_
  refine q_getR hC (by first | assumption | rfl) flX4_28 dX4_readStone_2 ?_
  refine q_getI hC (by first | assumption | rfl) flX4_63 dX4_readStone_5 ?_
  rw [hT.1]
  refine q_iconst (v := nI 1) hC dX4_readStone_8 (by decide) ?_
  refine q_isub hC dX4_readStone_9 ?_
  refine q_calliV1 hC (by first | assumption | rfl) cvX4_66 dX4_readStone_10 (c_number θ _ a L (tP T) x _ (mo_pred h8) hx h3 haL) (by decide) (fun r S1 hr => ?_)
  obtain ⟨rfl, hF1, g1, g2⟩ := hr
  have hx1 := hx.go (hF1.c 1) (hF1.c 2)
  by_cases c1 : tkK L x a = 1 ∧ tkV L x a < tP T
  · rw [if_pos c1]
    have a1 := tk_adv (x := x) haL (by omega)
    have e1 : pSto L x T N a = pStp L x (tkE L x a) fun e3 => .inr (T, nPav N (tkV L x a) 5, e3) := by
      unfold pSto; unfold pNum; rw [if_pos c1]
    generalize tkV L x a = A at c1 e1 ⊢
    generalize tkE L x a = b1 at g1 a1 e1
    refine q_istore_1 hC dX4_readStone_13 ?_
    refine q_iload_n hC dX4_readStone_14 ?_
    refine q_iconst (v := (-1)) hC dX4_readStone_15 (by decide) ?_
    refine q_icmp_eq hC 26 dX4_readStone_16 (by decide) (fun hb1 => ?_) (fun hb1 => ?_)
    · exact absurd hb1 (n1 A (by omega))
    · refine q_aload_n hC dX4_readStone_19 ?_
      refine q_calliV0 hC (by first | assumption | rfl) cvX4_70 dX4_readStone_20 (c_stops θ _ b1 L x hx1 g1 a1.2) (by decide) (fun r4 S4 hr4 => ?_)
      obtain ⟨rfl, hF4', g7, g8⟩ := hr4
      have hF14 := hF1.trans hF4'
      by_cases c4 : tkK L x b1 = 2
      · rw [if_pos c4]
        unfold pStp at e1
        rw [if_pos c4] at e1
        have hN4 := hN.go22 hF14
        refine q_if_ne hC 28 dX4_readStone_23 (by decide) (fun hb5 => ?_) (fun hb5 => ?_)
        · refine q_aload_n hC dX4_readStone_28 ?_
          refine q_getR hC (by first | assumption | rfl) flX4_32 dX4_readStone_29 ?_
          refine q_iload_n hC dX4_readStone_32 ?_
          refine q_callvV1 hC (by first | assumption | rfl) cvX4_91 dX4_readStone_33 (c_makeStone θ _ 22 A (stm N) nowAt22 (by omega) hN4.2.2.1) (by decide) (fun S5 hr5 => ?_)
          subst hr5
          refine q_iconst (v := nI 1) hC dX4_readStone_36 (by decide) ?_
          refine q_iret hC dX4_readStone_37 ?_
          have hF15 : Fr S (up (up S4 (22 + 1) A (-9)) 22 2 (nI (stm N ||| 2 ^ A))) drL := (hF14.mono (by decide)).trans (Fr.trans (Fr.u1.mono (by decide)) (Fr.u1.mono (by decide)))
          refine ⟨RdPost.good hF15 ((hT.go11 hF14).go ?_ ?_ ?_ ?_ ?_ ?_ ?_) (hN4.sto (by omega)) (by rw [up_oc (by decide), up_oc (by decide)]; exact g7) e1, by decide⟩ <;> rw [up_oc (by decide), up_oc (by decide)]
        · exact absurd hb5 (by decide)
      · rw [if_neg c4]
        unfold pStp at e1
        rw [if_neg c4] at e1
        refine q_if_ne hC 28 dX4_readStone_23 (by decide) (fun hb5 => ?_) (fun hb5 => ?_)
        · exact absurd rfl hb5
        · refine q_iconst (v := nI 0) hC dX4_readStone_26 (by decide) ?_
          refine q_iret hC dX4_readStone_27 ?_
          exact ⟨RdPost.bad (hF14.mono (by decide)) g8 e1, by decide⟩
  · rw [if_neg c1]
    refine q_istore_1 hC dX4_readStone_13 ?_
    refine q_iload_n hC dX4_readStone_14 ?_
    refine q_iconst (v := (-1)) hC dX4_readStone_15 (by decide) ?_
    refine q_icmp_eq hC 26 dX4_readStone_16 (by decide) (fun hb1 => ?_) (fun hb1 => ?_)
    · refine q_iconst (v := nI 0) hC dX4_readStone_26 (by decide) ?_
      refine q_iret hC dX4_readStone_27 ?_
      exact ⟨RdPost.bad (hF1.mono (by decide)) g2 (by unfold pSto; unfold pNum; rw [if_neg c1]), by decide⟩
    · exact absurd rfl hb1
theorem c_readFlood (θ : Site) (S : St) (a s0 L : Nat) (x : Nat → Nat) (T : Tn) (N : Nw) (hx : TxR S L x) (h3 : S.1 3 3 = nI a) (h4 : S.1 3 4 = nI s0) (haL : a ≤ L) (hok : TnOk T) (hNo : NwOk T N) (hT : TwR S 11 T) (hN : NwR S 22 N) : Cti yX4_readFlood cX4_readFlood 3 (some .boolean) 8 θ shX [.ref (sA θ 3)] S (fun r S' => RdPost S S' r (pFlo L x T N a)) := by
  have h8 := hok.1
  have n1 : ∀ B, B < 10 → ¬ (nI B = (-1 : Int32)) := by decide
  refine Cti.mkz (own := RX4) 2 [some (.ref (sA θ 3)), none, none] (fun K hC => ?_)
  refine q_aload_n hC dX4_readFlood_0 ?_
  refine q_aload_n hC dX4_readFlood_1 ?_
  refine q_getR hC (by first | assumption | rfl) flX4_28 dX4_readFlood_2 ?_
  refine q_getI hC (by first | assumption | rfl) flX4_63 dX4_readFlood_5 ?_
  rw [hT.1]
  refine q_iconst (v := nI 1) hC dX4_readFlood_8 (by decide) ?_
  refine q_isub hC dX4_readFlood_9 ?_
  refine q_calliV1 hC (by first | assumption | rfl) cvX4_66 dX4_readFlood_10 (c_number θ _ a L (tP T) x _ (mo_pred h8) hx h3 haL) (by decide) (fun r S1 hr => ?_)
  obtain ⟨rfl, hF1, g1, g2⟩ := hr
  have hx1 := hx.go (hF1.c 1) (hF1.c 2)
  by_cases c1 : tkK L x a = 1 ∧ tkV L x a < tP T
  · rw [if_pos c1]
    have a1 := tk_adv (x := x) haL (by omega)
    have e1 : pFlo L x T N a = pNum L x (tkE L x a) 10 fun f e2 => pStp L x e2 fun e3 => .inr (T, nFlo N (tkV L x a) f, e3) := by
      unfold pFlo; unfold pNum; rw [if_pos c1]
    generalize tkV L x a = A at c1 e1 ⊢
    generalize tkE L x a = b1 at g1 a1 e1
    refine q_istore_1 hC dX4_readFlood_13 ?_
    refine q_iload_n hC dX4_readFlood_14 ?_
    refine q_iconst (v := (-1)) hC dX4_readFlood_15 (by decide) ?_
    refine q_icmp_ne hC 21 dX4_readFlood_16 (by decide) (fun hb1 => ?_) (fun hb1 => ?_)
    · refine q_aload_n hC dX4_readFlood_21 ?_
      refine q_bipush (v := nI 9) hC dX4_readFlood_22 (by decide) ?_
      refine q_calliV1 hC (by first | assumption | rfl) cvX4_66 dX4_readFlood_24 (c_number θ _ b1 L 10 x _ (mo_nI (m := 9) (by omega)) hx1 g1 a1.2) (by decide) (fun r2 S2 hr2 => ?_)
      obtain ⟨rfl, hF2, g3, g4⟩ := hr2
      have hF12 := hF1.trans hF2
      have hx2 := hx.go (hF12.c 1) (hF12.c 2)
      by_cases c2 : tkK L x b1 = 1 ∧ tkV L x b1 < 10
      · rw [if_pos c2]
        have a2 := tk_adv (x := x) a1.2 (by omega)
        have e2 : pFlo L x T N a = pStp L x (tkE L x b1) fun e3 => .inr (T, nFlo N A (tkV L x b1), e3) := by
          rw [e1]; unfold pNum; rw [if_pos c2]
        generalize tkV L x b1 = B at c2 e2 ⊢
        generalize tkE L x b1 = b2 at g3 a2 e2
        refine q_istore_2 hC dX4_readFlood_27 ?_
        refine q_iload_n hC dX4_readFlood_28 ?_
        refine q_iconst (v := (-1)) hC dX4_readFlood_29 (by decide) ?_
        refine q_icmp_eq hC 40 dX4_readFlood_30 (by decide) (fun hb2 => ?_) (fun hb2 => ?_)
        · exact absurd hb2 (n1 B (by omega))
        · refine q_aload_n hC dX4_readFlood_33 ?_
          refine q_calliV0 hC (by first | assumption | rfl) cvX4_70 dX4_readFlood_34 (c_stops θ _ b2 L x hx2 g3 a2.2) (by decide) (fun r4 S4 hr4 => ?_)
          obtain ⟨rfl, hF4', g7, g8⟩ := hr4
          have hF14 := hF12.trans hF4'
          by_cases c4 : tkK L x b2 = 2
          · rw [if_pos c4]
            unfold pStp at e2
            rw [if_pos c4] at e2
            have hN4 := hN.go22 hF14
            refine q_if_ne hC 42 dX4_readFlood_37 (by decide) (fun hb5 => ?_) (fun hb5 => ?_)
            · refine q_aload_n hC dX4_readFlood_42 ?_
              refine q_getR hC (by first | assumption | rfl) flX4_32 dX4_readFlood_43 ?_
              refine q_getR hC (by first | assumption | rfl) flX4_94 dX4_readFlood_46 ?_
              refine q_iload_n hC dX4_readFlood_49 ?_
              refine q_iload_n hC dX4_readFlood_50 ?_
              refine q_iastn hC (by first | assumption | rfl) (by first | assumption | omega) dX4_readFlood_51 ?_
              refine q_iconst (v := nI 1) hC dX4_readFlood_52 (by decide) ?_
              refine q_iret hC dX4_readFlood_53 ?_
              have hF15 : Fr S (up S4 (22 + 2) A (nI B)) drL := (hF14.mono (by decide)).trans (Fr.u1.mono (by decide))
              refine ⟨RdPost.good hF15 ((hT.go11 hF14).go ?_ ?_ ?_ ?_ ?_ ?_ ?_) hN4.flo (by rw [up_oc (by decide)]; exact g7) e2, by decide⟩ <;> rw [up_oc (by decide)]
            · exact absurd hb5 (by decide)
          · rw [if_neg c4]
            unfold pStp at e2
            rw [if_neg c4] at e2
            refine q_if_ne hC 42 dX4_readFlood_37 (by decide) (fun hb5 => ?_) (fun hb5 => ?_)
            · exact absurd rfl hb5
            · refine q_iconst (v := nI 0) hC dX4_readFlood_40 (by decide) ?_
              refine q_iret hC dX4_readFlood_41 ?_
              exact ⟨RdPost.bad (hF14.mono (by decide)) g8 e2, by decide⟩
      · rw [if_neg c2]
        unfold pNum at e1
        rw [if_neg c2] at e1
        refine q_istore_2 hC dX4_readFlood_27 ?_
        refine q_iload_n hC dX4_readFlood_28 ?_
        refine q_iconst (v := (-1)) hC dX4_readFlood_29 (by decide) ?_
        refine q_icmp_eq hC 40 dX4_readFlood_30 (by decide) (fun hb2 => ?_) (fun hb2 => ?_)
        · refine q_iconst (v := nI 0) hC dX4_readFlood_40 (by decide) ?_
          refine q_iret hC dX4_readFlood_41 ?_
          exact ⟨RdPost.bad (hF12.mono (by decide)) g4 e1, by decide⟩
        · exact absurd rfl hb2
    · exact absurd hb1 (n1 A (by omega))
  · rw [if_neg c1]
    refine q_istore_1 hC dX4_readFlood_13 ?_
    refine q_iload_n hC dX4_readFlood_14 ?_
    refine q_iconst (v := (-1)) hC dX4_readFlood_15 (by decide) ?_
    refine q_icmp_ne hC 21 dX4_readFlood_16 (by decide) (fun hb1 => ?_) (fun hb1 => ?_)
    · exact absurd rfl hb1
    · refine q_iconst (v := nI 0) hC dX4_readFlood_19 (by decide) ?_
      refine q_iret hC dX4_readFlood_20 ?_
      exact ⟨RdPost.bad (hF1.mono (by decide)) g2 (by unfold pFlo; unfold pNum; rw [if_neg c1]), by decide⟩
