theorem mdO_cl {o : Nat} (ho : o ≤ 5) (h5 : o ≠ 5) : mdO o = clO o := by
  have : ∀ o, o ≤ 5 → o ≠ 5 → mdO o = clO o := by decide
  exact this o ho h5
theorem RM.own {S : St} {L : Nat} {x : Nat → Nat} {T : Tn} {N : Nw} {im : Nat → Option Nw} {tr : Int64} (h : RM S L x T N im tr) (q o : Nat) : RM (up S 8 q (mdO o)) L x T (nPav N q o) im tr := by
  obtain ⟨a1, a2, ⟨b1, b2, b3⟩, a4, a5⟩ := h
  refine ⟨a1.go (by rw [up_oc (by decide)]) (by rw [up_oc (by decide)]), a2.go (by rw [up_oc (by decide)]) (by rw [up_oc (by decide)]) (fun a g1 g2 => by rw [up_oc (by omega)]), ⟨fun p hp => ?_, by rw [up_oc (by decide)]; exact b2, by rw [up_oc (by decide), up_oc (by decide)]; exact b3⟩, a4.go (by rw [up_oc (by decide)]), a5⟩
  rw [up_oc (show 9 ≠ 8 by decide)]
  refine ⟨?_, (b1 p hp).2⟩
  show _ = mdO (upN (nO N) q o p)
  by_cases e : p = q
  · subst e; rw [up_s, upN_s]
  · rw [up_of e, upN_o e]; exact (b1 p hp).1
theorem RM.flo {S : St} {L : Nat} {x : Nat → Nat} {T : Tn} {N : Nw} {im : Nat → Option Nw} {tr : Int64} (h : RM S L x T N im tr) (q k : Nat) : RM (up S 9 q (nI k)) L x T (nFlo N q k) im tr := by
  obtain ⟨a1, a2, ⟨b1, b2, b3⟩, a4, a5⟩ := h
  refine ⟨a1.go (by rw [up_oc (by decide)]) (by rw [up_oc (by decide)]), a2.go (by rw [up_oc (by decide)]) (by rw [up_oc (by decide)]) (fun a g1 g2 => by rw [up_oc (by omega)]), ⟨fun p hp => ?_, by rw [up_oc (by decide)]; exact b2, by rw [up_oc (by decide), up_oc (by decide)]; exact b3⟩, a4.go (by rw [up_oc (by decide)]), a5⟩
  rw [up_oc (show 8 ≠ 9 by decide)]
  refine ⟨(b1 p hp).1, ?_⟩
  show _ = nI (upN (nF N) q k p)
  by_cases e : p = q
  · subst e; rw [up_s, upN_s]
  · rw [up_of e, upN_o e]; exact (b1 p hp).2
theorem m_inN (θ : Site) (S : St) (w : Int32) (m n : Nat) (hn : n = m + 1) (hm : m < 2 ^ 30) : Cti yX10_in cX10_in 6 (some .boolean) 0 θ shM [.long w.toInt64, .long (lN 0), .long (lN m)] S (fun r S' => r = nI (if (ixN w n).isSome = true then 1 else 0) ∧ S' = S) := by
  subst hn
  rw [← ix_iff (b := 0) _ (in_ix (x := w) (m := m) hm)]
  exact m_in θ S _ _ _
theorem isT {α : Type} {o : Option α} {a : α} (h : o = some a) : nI (if o.isSome = true then 1 else 0) = nI 1 := by rw [h]; rfl
theorem isF {α : Type} {o : Option α} (h : o = none) : nI (if o.isSome = true then 1 else 0) = nI 0 := by rw [h]; rfl
theorem m_piece (θ : Site) (S : St) (L : Nat) (x : Nat → Nat) (T : Tn) (N : Nw) (im : Nat → Option Nw) (tr : Int64) (hA : AOk T N im) (hR : RM S L x T N im tr) (p w : Int32) : Cti yX10_piece cX10_piece 3 (some .int) 20 θ shM [.ref (sA θ 0), .int p, .int w] S (fun r S' => r = sPiece T N p w ∧ RM S' L x T N im tr) := by
  obtain ⟨hok, hNo, hIm⟩ := hA
  have hR' := hR
  obtain ⟨hx, hT, hN, hI, htr⟩ := hR
  have h8 := hok.1
  have hF4 := hok.2.1
  refine Cti.mk (own := RX10) 0 [some (.ref (sA θ 0)), some (.int p), some (.int w)] (fun K hC => ?_)
  have bad : sPiece T N p w = -1 → K 20 [some (.ref (sA θ 0)), some (.int (p)), some (.int (w))] [] S := by
    intro e
    refine q_iconst (v := (-1)) hC dX10_piece_20 (by decide) ?_
    refine q_iret hC dX10_piece_21 ?_
    rw [e]
    exact ⟨rfl, hR'⟩
  refine q_aload_n hC dX10_piece_0 ?_
  refine q_iload_n hC dX10_piece_1 ?_
  refine q_calliV1 hC (by first | assumption | rfl) cvX10_161 dX10_piece_2 (m_isPiece θ _ p T hok hT) (by decide) (fun r S1 hr => ?_)
  obtain ⟨rfl, rfl⟩ := hr
  cases hp : ixN p (tP T) with
  | none =>
    refine q_if_eq hC 20 dX10_piece_5 (by decide) (fun hb => ?_) (fun hz => absurd hz (by first | decide | exact (show ¬ nI 1 = 0 by decide)))
    exact bad (by simp [sPiece, hp])
  | some q =>
    obtain ⟨hq, rfl⟩ := ixN_some (by omega) hp
    have hq8 : q < 8 := by omega
    refine q_if_eq hC 20 dX10_piece_5 (by decide) (fun hz => absurd hz (by first | decide | exact (show ¬ nI 1 = 0 by decide))) (fun hb => ?_)
    refine q_iload_n hC dX10_piece_8 ?_
    refine q_i2l hC dX10_piece_9 ?_
    refine q_lconst (v := lN 0) hC dX10_piece_10 (by decide) ?_
    refine q_ldc2 hC klX10_164 dX10_piece_11 ?_
    refine q_calliS3 hC csX10_71 dX10_piece_14 (m_inN θ _ w 5 6 rfl (by decide)) (by decide) (fun r S1 hr => ?_)
    obtain ⟨rfl, rfl⟩ := hr
    cases hw : ixN w 6 with
    | none =>
      refine q_if_ne hC 22 dX10_piece_17 (by decide) (fun hz => absurd hz (by first | decide | exact (show ¬ nI 1 = 0 by decide))) (fun hb => ?_)
      exact bad (by simp [sPiece, hw])
    | some k =>
      obtain ⟨hk, rfl⟩ := ixN_some (by decide) hw
      rcases (show k = 0 ∨ k = 1 ∨ k = 2 ∨ k = 3 ∨ k = 4 ∨ k = 5 by omega) with rfl | rfl | rfl | rfl | rfl | rfl
      · refine q_if_ne hC 22 dX10_piece_17 (by decide) (fun hb => ?_) (fun hz => absurd hz (by first | decide | exact (show ¬ nI 1 = 0 by decide)))
        refine q_iload_n hC dX10_piece_22 ?_
        refine q_if_ne hC 35 dX10_piece_23 (by decide) (fun hz => absurd hz (by first | decide | exact (show ¬ nI 1 = 0 by decide))) (fun hb => ?_)
        refine q_aload_n hC dX10_piece_26 ?_
        refine q_getR hC (by first | assumption | rfl) flX10_13 dX10_piece_27 ?_
        refine q_iload_n hC dX10_piece_30 ?_
        refine q_ialdn hC (by first | assumption | rfl) (by first | assumption | omega) dX10_piece_31 ?_
        rw [(hT.2.2.1 q hq).1]
        refine q_goto hC 103 dX10_piece_32 (by decide) ?_
        refine q_iret hC dX10_piece_103 ?_
        exact ⟨by simp [sPiece, hp, hw], hR'⟩
      · refine q_if_ne hC 22 dX10_piece_17 (by decide) (fun hb => ?_) (fun hz => absurd hz (by first | decide | exact (show ¬ nI 1 = 0 by decide)))
        refine q_iload_n hC dX10_piece_22 ?_
        refine q_if_ne hC 35 dX10_piece_23 (by decide) (fun hb => ?_) (fun hz => absurd hz (by first | decide | exact (show ¬ nI 1 = 0 by decide)))
        refine q_iload_n hC dX10_piece_35 ?_
        refine q_iconst (v := nI 1) hC dX10_piece_36 (by decide) ?_
        refine q_icmp_ne hC 49 dX10_piece_37 (by decide) (fun hz => absurd hz (by first | decide | exact (show ¬ nI 1 = 0 by decide))) (fun hb => ?_)
        refine q_aload_n hC dX10_piece_40 ?_
        refine q_getR hC (by first | assumption | rfl) flX10_16 dX10_piece_41 ?_
        refine q_iload_n hC dX10_piece_44 ?_
        refine q_ialdn hC (by first | assumption | rfl) (by first | assumption | omega) dX10_piece_45 ?_
        rw [(hT.2.2.1 q hq).2.1]
        refine q_goto hC 103 dX10_piece_46 (by decide) ?_
        refine q_iret hC dX10_piece_103 ?_
        exact ⟨by simp [sPiece, hp, hw], hR'⟩
      · refine q_if_ne hC 22 dX10_piece_17 (by decide) (fun hb => ?_) (fun hz => absurd hz (by first | decide | exact (show ¬ nI 1 = 0 by decide)))
        refine q_iload_n hC dX10_piece_22 ?_
        refine q_if_ne hC 35 dX10_piece_23 (by decide) (fun hb => ?_) (fun hz => absurd hz (by first | decide | exact (show ¬ nI 1 = 0 by decide)))
        refine q_iload_n hC dX10_piece_35 ?_
        refine q_iconst (v := nI 1) hC dX10_piece_36 (by decide) ?_
        refine q_icmp_ne hC 49 dX10_piece_37 (by decide) (fun hb => ?_) (fun hz => absurd hz (by first | decide | exact (show ¬ nI 1 = 0 by decide)))
        refine q_iload_n hC dX10_piece_49 ?_
        refine q_iconst (v := nI 2) hC dX10_piece_50 (by decide) ?_
        refine q_icmp_ne hC 63 dX10_piece_51 (by decide) (fun hz => absurd hz (by first | decide | exact (show ¬ nI 1 = 0 by decide))) (fun hb => ?_)
        refine q_aload_n hC dX10_piece_54 ?_
        refine q_getR hC (by first | assumption | rfl) flX10_19 dX10_piece_55 ?_
        refine q_iload_n hC dX10_piece_58 ?_
        refine q_ialdn hC (by first | assumption | rfl) (by first | assumption | omega) dX10_piece_59 ?_
        rw [(hT.2.2.1 q hq).2.2]
        refine q_goto hC 103 dX10_piece_60 (by decide) ?_
        refine q_iret hC dX10_piece_103 ?_
        exact ⟨by simp [sPiece, hp, hw], hR'⟩
      · refine q_if_ne hC 22 dX10_piece_17 (by decide) (fun hb => ?_) (fun hz => absurd hz (by first | decide | exact (show ¬ nI 1 = 0 by decide)))
        refine q_iload_n hC dX10_piece_22 ?_
        refine q_if_ne hC 35 dX10_piece_23 (by decide) (fun hb => ?_) (fun hz => absurd hz (by first | decide | exact (show ¬ nI 1 = 0 by decide)))
        refine q_iload_n hC dX10_piece_35 ?_
        refine q_iconst (v := nI 1) hC dX10_piece_36 (by decide) ?_
        refine q_icmp_ne hC 49 dX10_piece_37 (by decide) (fun hb => ?_) (fun hz => absurd hz (by first | decide | exact (show ¬ nI 1 = 0 by decide)))
        refine q_iload_n hC dX10_piece_49 ?_
        refine q_iconst (v := nI 2) hC dX10_piece_50 (by decide) ?_
        refine q_icmp_ne hC 63 dX10_piece_51 (by decide) (fun hb => ?_) (fun hz => absurd hz (by first | decide | exact (show ¬ nI 1 = 0 by decide)))
        refine q_iload_n hC dX10_piece_63 ?_
        refine q_iconst (v := nI 3) hC dX10_piece_64 (by decide) ?_
        refine q_icmp_ne hC 76 dX10_piece_65 (by decide) (fun hz => absurd hz (by first | decide | exact (show ¬ nI 1 = 0 by decide))) (fun hb => ?_)
        refine q_aload_n hC dX10_piece_68 ?_
        refine q_iload_n hC dX10_piece_69 ?_
        refine q_calliV1 hC (by first | assumption | rfl) cvX10_166 dX10_piece_70 (m_ownerOf θ _ q T N hok hNo (fun p hp => (hN.1 p hp).1) hq) (by decide) (fun r S1 hr => ?_)
        obtain ⟨rfl, rfl⟩ := hr
        refine q_goto hC 103 dX10_piece_73 (by decide) ?_
        refine q_iret hC dX10_piece_103 ?_
        exact ⟨by simp [sPiece, hp, hw], hR'⟩
      · refine q_if_ne hC 22 dX10_piece_17 (by decide) (fun hb => ?_) (fun hz => absurd hz (by first | decide | exact (show ¬ nI 1 = 0 by decide)))
        refine q_iload_n hC dX10_piece_22 ?_
        refine q_if_ne hC 35 dX10_piece_23 (by decide) (fun hb => ?_) (fun hz => absurd hz (by first | decide | exact (show ¬ nI 1 = 0 by decide)))
        refine q_iload_n hC dX10_piece_35 ?_
        refine q_iconst (v := nI 1) hC dX10_piece_36 (by decide) ?_
        refine q_icmp_ne hC 49 dX10_piece_37 (by decide) (fun hb => ?_) (fun hz => absurd hz (by first | decide | exact (show ¬ nI 1 = 0 by decide)))
        refine q_iload_n hC dX10_piece_49 ?_
        refine q_iconst (v := nI 2) hC dX10_piece_50 (by decide) ?_
        refine q_icmp_ne hC 63 dX10_piece_51 (by decide) (fun hb => ?_) (fun hz => absurd hz (by first | decide | exact (show ¬ nI 1 = 0 by decide)))
        refine q_iload_n hC dX10_piece_63 ?_
        refine q_iconst (v := nI 3) hC dX10_piece_64 (by decide) ?_
        refine q_icmp_ne hC 76 dX10_piece_65 (by decide) (fun hb => ?_) (fun hz => absurd hz (by first | decide | exact (show ¬ nI 1 = 0 by decide)))
        refine q_iload_n hC dX10_piece_76 ?_
        refine q_iconst (v := nI 4) hC dX10_piece_77 (by decide) ?_
        refine q_icmp_ne hC 97 dX10_piece_78 (by decide) (fun hz => absurd hz (by first | decide | exact (show ¬ nI 1 = 0 by decide))) (fun hb => ?_)
        refine q_aload_n hC dX10_piece_81 ?_
        refine q_iload_n hC dX10_piece_82 ?_
        refine q_calliV1 hC (by first | assumption | rfl) cvX10_170 dX10_piece_83 (m_isStone θ _ q T N hok hNo (fun p hp => (hN.1 p hp).1) hq) (by decide) (fun r S1 hr => ?_)
        obtain ⟨rfl, rfl⟩ := hr
        by_cases h5 : nO N q = 5
        · rw [if_pos h5]
          refine q_if_eq hC 93 dX10_piece_86 (by decide) (fun hz => absurd hz (by first | decide | exact (show ¬ nI 1 = 0 by decide))) (fun hb => ?_)
          refine q_iconst (v := nI 1) hC dX10_piece_89 (by decide) ?_
          refine q_goto hC 103 dX10_piece_90 (by decide) ?_
          refine q_iret hC dX10_piece_103 ?_
          exact ⟨by simp [sPiece, hp, hw, h5], hR'⟩
        · rw [if_neg h5]
          refine q_if_eq hC 93 dX10_piece_86 (by decide) (fun hb => ?_) (fun hz => absurd hz (by first | decide | exact (show ¬ nI 1 = 0 by decide)))
          refine q_iconst (v := nI 0) hC dX10_piece_93 (by decide) ?_
          refine q_goto hC 103 dX10_piece_94 (by decide) ?_
          refine q_iret hC dX10_piece_103 ?_
          exact ⟨by simp [sPiece, hp, hw, h5], hR'⟩
      · refine q_if_ne hC 22 dX10_piece_17 (by decide) (fun hb => ?_) (fun hz => absurd hz (by first | decide | exact (show ¬ nI 1 = 0 by decide)))
        refine q_iload_n hC dX10_piece_22 ?_
        refine q_if_ne hC 35 dX10_piece_23 (by decide) (fun hb => ?_) (fun hz => absurd hz (by first | decide | exact (show ¬ nI 1 = 0 by decide)))
        refine q_iload_n hC dX10_piece_35 ?_
        refine q_iconst (v := nI 1) hC dX10_piece_36 (by decide) ?_
        refine q_icmp_ne hC 49 dX10_piece_37 (by decide) (fun hb => ?_) (fun hz => absurd hz (by first | decide | exact (show ¬ nI 1 = 0 by decide)))
        refine q_iload_n hC dX10_piece_49 ?_
        refine q_iconst (v := nI 2) hC dX10_piece_50 (by decide) ?_
        refine q_icmp_ne hC 63 dX10_piece_51 (by decide) (fun hb => ?_) (fun hz => absurd hz (by first | decide | exact (show ¬ nI 1 = 0 by decide)))
        refine q_iload_n hC dX10_piece_63 ?_
        refine q_iconst (v := nI 3) hC dX10_piece_64 (by decide) ?_
        refine q_icmp_ne hC 76 dX10_piece_65 (by decide) (fun hb => ?_) (fun hz => absurd hz (by first | decide | exact (show ¬ nI 1 = 0 by decide)))
        refine q_iload_n hC dX10_piece_76 ?_
        refine q_iconst (v := nI 4) hC dX10_piece_77 (by decide) ?_
        refine q_icmp_ne hC 97 dX10_piece_78 (by decide) (fun hb => ?_) (fun hz => absurd hz (by first | decide | exact (show ¬ nI 1 = 0 by decide)))
        refine q_aload_n hC dX10_piece_97 ?_
        refine q_getR hC (by first | assumption | rfl) flX10_34 dX10_piece_98 ?_
        refine q_iload_n hC dX10_piece_101 ?_
        refine q_ialdn hC (by first | assumption | rfl) (by first | assumption | omega) dX10_piece_102 ?_
        rw [(hN.1 q hq).2]
        refine q_iret hC dX10_piece_103 ?_
        exact ⟨by simp [sPiece, hp, hw], hR'⟩
theorem m_family (θ : Site) (S : St) (L : Nat) (x : Nat → Nat) (T : Tn) (N : Nw) (im : Nat → Option Nw) (tr : Int64) (hA : AOk T N im) (hR : RM S L x T N im tr) (f w : Int32) : Cti yX10_family cX10_family 3 (some .int) 20 θ shM [.ref (sA θ 0), .int f, .int w] S (fun r S' => r = sFamily T N f w ∧ RM S' L x T N im tr) := by
  obtain ⟨hok, hNo, hIm⟩ := hA
  have hR' := hR
  obtain ⟨hx, hT, hN, hI, htr⟩ := hR
  have h8 := hok.1
  have hF4 := hok.2.1
  refine Cti.mk (own := RX10) 0 [some (.ref (sA θ 0)), some (.int f), some (.int w)] (fun K hC => ?_)
  have bad : sFamily T N f w = -1 → K 20 [some (.ref (sA θ 0)), some (.int (f)), some (.int (w))] [] S := by
    intro e
    refine q_iconst (v := (-1)) hC dX10_family_20 (by decide) ?_
    refine q_iret hC dX10_family_21 ?_
    rw [e]
    exact ⟨rfl, hR'⟩
  refine q_aload_n hC dX10_family_0 ?_
  refine q_iload_n hC dX10_family_1 ?_
  refine q_calliV1 hC (by first | assumption | rfl) cvX10_173 dX10_family_2 (m_isFamily θ _ f T hok hT) (by decide) (fun r S1 hr => ?_)
  obtain ⟨rfl, rfl⟩ := hr
  cases hp : ixN f (tF T) with
  | none =>
    refine q_if_eq hC 20 dX10_family_5 (by decide) (fun hb => ?_) (fun hz => absurd hz (by first | decide | exact (show ¬ nI 1 = 0 by decide)))
    exact bad (by simp [sFamily, hp])
  | some q =>
    obtain ⟨hq, rfl⟩ := ixN_some (by omega) hp
    have hq4 : q < 4 := by omega
    refine q_if_eq hC 20 dX10_family_5 (by decide) (fun hz => absurd hz (by first | decide | exact (show ¬ nI 1 = 0 by decide))) (fun hb => ?_)
    refine q_iload_n hC dX10_family_8 ?_
    refine q_i2l hC dX10_family_9 ?_
    refine q_lconst (v := lN 0) hC dX10_family_10 (by decide) ?_
    refine q_ldc2 hC klX10_176 dX10_family_11 ?_
    refine q_calliS3 hC csX10_71 dX10_family_14 (m_inN θ _ w 3 4 rfl (by decide)) (by decide) (fun r S1 hr => ?_)
    obtain ⟨rfl, rfl⟩ := hr
    cases hw : ixN w 4 with
    | none =>
      refine q_if_ne hC 22 dX10_family_17 (by decide) (fun hz => absurd hz (by first | decide | exact (show ¬ nI 1 = 0 by decide))) (fun hb => ?_)
      exact bad (by simp [sFamily, hw])
    | some k =>
      obtain ⟨hk, rfl⟩ := ixN_some (by decide) hw
      rcases (show k = 0 ∨ k = 1 ∨ k = 2 ∨ k = 3 by omega) with rfl | rfl | rfl | rfl
      · refine q_if_ne hC 22 dX10_family_17 (by decide) (fun hb => ?_) (fun hz => absurd hz (by first | decide | exact (show ¬ nI 1 = 0 by decide)))
        refine q_iload_n hC dX10_family_22 ?_
        refine q_if_ne hC 35 dX10_family_23 (by decide) (fun hz => absurd hz (by first | decide | exact (show ¬ nI 1 = 0 by decide))) (fun hb => ?_)
        refine q_aload_n hC dX10_family_26 ?_
        refine q_getR hC (by first | assumption | rfl) flX10_22 dX10_family_27 ?_
        refine q_iload_n hC dX10_family_30 ?_
        refine q_ialdn hC (by first | assumption | rfl) (by first | assumption | omega) dX10_family_31 ?_
        rw [(hT.2.2.2 q hq).1]
        refine q_goto hC 75 dX10_family_32 (by decide) ?_
        refine q_iret hC dX10_family_75 ?_
        exact ⟨by simp [sFamily, hp, hw], hR'⟩
      · refine q_if_ne hC 22 dX10_family_17 (by decide) (fun hb => ?_) (fun hz => absurd hz (by first | decide | exact (show ¬ nI 1 = 0 by decide)))
        refine q_iload_n hC dX10_family_22 ?_
        refine q_if_ne hC 35 dX10_family_23 (by decide) (fun hb => ?_) (fun hz => absurd hz (by first | decide | exact (show ¬ nI 1 = 0 by decide)))
        refine q_iload_n hC dX10_family_35 ?_
        refine q_iconst (v := nI 1) hC dX10_family_36 (by decide) ?_
        refine q_icmp_ne hC 49 dX10_family_37 (by decide) (fun hz => absurd hz (by first | decide | exact (show ¬ nI 1 = 0 by decide))) (fun hb => ?_)
        refine q_aload_n hC dX10_family_40 ?_
        refine q_getR hC (by first | assumption | rfl) flX10_25 dX10_family_41 ?_
        refine q_iload_n hC dX10_family_44 ?_
        refine q_ialdn hC (by first | assumption | rfl) (by first | assumption | omega) dX10_family_45 ?_
        rw [(hT.2.2.2 q hq).2.1]
        refine q_goto hC 75 dX10_family_46 (by decide) ?_
        refine q_iret hC dX10_family_75 ?_
        exact ⟨by simp [sFamily, hp, hw], hR'⟩
      · refine q_if_ne hC 22 dX10_family_17 (by decide) (fun hb => ?_) (fun hz => absurd hz (by first | decide | exact (show ¬ nI 1 = 0 by decide)))
        refine q_iload_n hC dX10_family_22 ?_
        refine q_if_ne hC 35 dX10_family_23 (by decide) (fun hb => ?_) (fun hz => absurd hz (by first | decide | exact (show ¬ nI 1 = 0 by decide)))
        refine q_iload_n hC dX10_family_35 ?_
        refine q_iconst (v := nI 1) hC dX10_family_36 (by decide) ?_
        refine q_icmp_ne hC 49 dX10_family_37 (by decide) (fun hb => ?_) (fun hz => absurd hz (by first | decide | exact (show ¬ nI 1 = 0 by decide)))
        refine q_iload_n hC dX10_family_49 ?_
        refine q_iconst (v := nI 2) hC dX10_family_50 (by decide) ?_
        refine q_icmp_ne hC 63 dX10_family_51 (by decide) (fun hz => absurd hz (by first | decide | exact (show ¬ nI 1 = 0 by decide))) (fun hb => ?_)
        refine q_aload_n hC dX10_family_54 ?_
        refine q_getR hC (by first | assumption | rfl) flX10_28 dX10_family_55 ?_
        refine q_iload_n hC dX10_family_58 ?_
        refine q_ialdn hC (by first | assumption | rfl) (by first | assumption | omega) dX10_family_59 ?_
        rw [(hT.2.2.2 q hq).2.2]
        refine q_goto hC 75 dX10_family_60 (by decide) ?_
        refine q_iret hC dX10_family_75 ?_
        exact ⟨by simp [sFamily, hp, hw], hR'⟩
      · refine q_if_ne hC 22 dX10_family_17 (by decide) (fun hb => ?_) (fun hz => absurd hz (by first | decide | exact (show ¬ nI 1 = 0 by decide)))
        refine q_iload_n hC dX10_family_22 ?_
        refine q_if_ne hC 35 dX10_family_23 (by decide) (fun hb => ?_) (fun hz => absurd hz (by first | decide | exact (show ¬ nI 1 = 0 by decide)))
        refine q_iload_n hC dX10_family_35 ?_
        refine q_iconst (v := nI 1) hC dX10_family_36 (by decide) ?_
        refine q_icmp_ne hC 49 dX10_family_37 (by decide) (fun hb => ?_) (fun hz => absurd hz (by first | decide | exact (show ¬ nI 1 = 0 by decide)))
        refine q_iload_n hC dX10_family_49 ?_
        refine q_iconst (v := nI 2) hC dX10_family_50 (by decide) ?_
        refine q_icmp_ne hC 63 dX10_family_51 (by decide) (fun hb => ?_) (fun hz => absurd hz (by first | decide | exact (show ¬ nI 1 = 0 by decide)))
        refine q_aload_n hC dX10_family_63 ?_
        refine q_aload_n hC dX10_family_64 ?_
        refine q_getR hC (by first | assumption | rfl) flX10_31 dX10_family_65 ?_
        refine q_iload_n hC dX10_family_68 ?_
        refine q_calliV2 hC (by first | assumption | rfl) cvX10_178 dX10_family_69 (m_own θ _ q T N hok hNo hT.1 (fun p hp => (hN.1 p hp).1) hq4) (by decide) (fun r S1 hr => ?_)
        obtain ⟨rfl, rfl⟩ := hr
        refine q_calliS1 hC csX10_182 dX10_family_72 (m_many θ _ _ (owm_lt N q)) (by decide) (fun r S1 hr => ?_)
        obtain ⟨rfl, rfl⟩ := hr
        refine q_iret hC dX10_family_75 ?_
        exact ⟨by simp [sFamily, hp, hw], hR'⟩
theorem m_pave (θ : Site) (S : St) (L : Nat) (x : Nat → Nat) (T : Tn) (N : Nw) (im : Nat → Option Nw) (tr : Int64) (hA : AOk T N im) (hR : RM S L x T N im tr) (p f : Int32) : Cti yX10_pave cX10_pave 4 (some .int) 20 θ shM [.ref (sA θ 0), .int p, .int f] S (fun r S' => r = (sPave T N p f).1 ∧ RM S' L x T (sPave T N p f).2 im tr) := by
  obtain ⟨hok, hNo, hIm⟩ := hA
  have hR' := hR
  obtain ⟨hx, hT, hN, hI, htr⟩ := hR
  have h8 := hok.1
  have hF4 := hok.2.1
  refine Cti.mk (own := RX10) 1 [some (.ref (sA θ 0)), some (.int p), some (.int f), none] (fun K hC => ?_)
  have bad : sPave T N p f = (-1, N) → K 16 [some (.ref (sA θ 0)), some (.int (p)), some (.int (f)), none] [] S := by
    intro e
    refine q_iconst (v := (-1)) hC dX10_pave_16 (by decide) ?_
    refine q_iret hC dX10_pave_17 ?_
    rw [e]
    exact ⟨rfl, hR'⟩
  refine q_aload_n hC dX10_pave_0 ?_
  refine q_iload_n hC dX10_pave_1 ?_
  refine q_calliV1 hC (by first | assumption | rfl) cvX10_161 dX10_pave_2 (m_isPiece θ _ p T hok hT) (by decide) (fun r S1 hr => ?_)
  obtain ⟨rfl, rfl⟩ := hr
  cases hp : ixN p (tP T) with
  | none =>
    refine q_if_eq hC 16 dX10_pave_5 (by decide) (fun hb => ?_) (fun hz => absurd hz (by first | decide | exact (show ¬ nI 1 = 0 by decide)))
    exact bad (by simp [sPave, hp])
  | some q =>
    obtain ⟨hq, rfl⟩ := ixN_some (by omega) hp
    have hq8 : q < 8 := by omega
    refine q_if_eq hC 16 dX10_pave_5 (by decide) (fun hz => absurd hz (by first | decide | exact (show ¬ nI 1 = 0 by decide))) (fun hb => ?_)
    refine q_aload_n hC dX10_pave_8 ?_
    refine q_iload_n hC dX10_pave_9 ?_
    refine q_calliV1 hC (by first | assumption | rfl) cvX10_173 dX10_pave_10 (m_isFamily θ _ f T hok hT) (by decide) (fun r S1 hr => ?_)
    obtain ⟨rfl, rfl⟩ := hr
    cases hf : ixN f (tF T) with
    | none =>
      refine q_if_ne hC 18 dX10_pave_13 (by decide) (fun hz => absurd hz (by first | decide | exact (show ¬ nI 1 = 0 by decide))) (fun hb => ?_)
      exact bad (by simp [sPave, hf])
    | some g =>
      obtain ⟨hg, rfl⟩ := ixN_some (by omega) hf
      refine q_if_ne hC 18 dX10_pave_13 (by decide) (fun hb => ?_) (fun hz => absurd hz (by first | decide | exact (show ¬ nI 1 = 0 by decide)))
      refine q_aload_n hC dX10_pave_18 ?_
      refine q_iload_n hC dX10_pave_19 ?_
      refine q_calliV1 hC (by first | assumption | rfl) cvX10_170 dX10_pave_20 (m_isStone θ _ q T N hok hNo (fun p hp => (hN.1 p hp).1) hq) (by decide) (fun r S1 hr => ?_)
      obtain ⟨rfl, rfl⟩ := hr
      by_cases h5 : nO N q = 5
      · rw [if_pos h5]
        refine q_if_eq hC 29 dX10_pave_23 (by decide) (fun hz => absurd hz (by first | decide | exact (show ¬ nI 1 = 0 by decide))) (fun hb => ?_)
        refine q_bipush (v := (-2)) hC dX10_pave_26 (by decide) ?_
        refine q_iret hC dX10_pave_28 ?_
        exact ⟨by simp [sPave, hp, hf, h5], by simpa [sPave, hp, hf, h5] using hR'⟩
      · rw [if_neg h5]
        refine q_if_eq hC 29 dX10_pave_23 (by decide) (fun hb => ?_) (fun hz => absurd hz (by first | decide | exact (show ¬ nI 1 = 0 by decide)))
        refine q_aload_n hC dX10_pave_29 ?_
        refine q_getR hC (by first | assumption | rfl) flX10_31 dX10_pave_30 ?_
        refine q_iload_n hC dX10_pave_33 ?_
        refine q_ialdn hC (by first | assumption | rfl) (by first | assumption | omega) dX10_pave_34 ?_
        rw [(hN.1 q hq).1]
        refine q_istore_3 hC dX10_pave_35 ?_
        refine q_aload_n hC dX10_pave_36 ?_
        refine q_getR hC (by first | assumption | rfl) flX10_31 dX10_pave_37 ?_
        refine q_iload_n hC dX10_pave_40 ?_
        refine q_iload_n hC dX10_pave_41 ?_
        refine q_iastn hC (by first | assumption | rfl) (by first | assumption | omega) dX10_pave_42 ?_
        refine q_iload_n hC dX10_pave_43 ?_
        refine q_iret hC dX10_pave_44 ?_
        refine ⟨by simp [sPave, hp, hf, h5, mdO_cl (hNo.1 q).1 h5], ?_⟩
        have e : (sPave T N (nI q) (nI g)).2 = nPav N q g := by simp [sPave, hp, hf, h5]
        rw [e]
        have e2 : nI g = mdO g := by unfold mdO; rw [if_pos (by omega)]
        rw [e2]
        exact hR'.own q g
theorem m_free (θ : Site) (S : St) (L : Nat) (x : Nat → Nat) (T : Tn) (N : Nw) (im : Nat → Option Nw) (tr : Int64) (hA : AOk T N im) (hR : RM S L x T N im tr) (p : Int32) : Cti yX10_free cX10_free 3 (some .int) 20 θ shM [.ref (sA θ 0), .int p] S (fun r S' => r = (sFree T N p).1 ∧ RM S' L x T (sFree T N p).2 im tr) := by
  obtain ⟨hok, hNo, hIm⟩ := hA
  have hR' := hR
  obtain ⟨hx, hT, hN, hI, htr⟩ := hR
  have h8 := hok.1
  have hF4 := hok.2.1
  refine Cti.mk (own := RX10) 1 [some (.ref (sA θ 0)), some (.int p), none] (fun K hC => ?_)
  refine q_aload_n hC dX10_free_0 ?_
  refine q_iload_n hC dX10_free_1 ?_
  refine q_calliV1 hC (by first | assumption | rfl) cvX10_161 dX10_free_2 (m_isPiece θ _ p T hok hT) (by decide) (fun r S1 hr => ?_)
  obtain ⟨rfl, rfl⟩ := hr
  cases hp : ixN p (tP T) with
  | none =>
    refine q_if_ne hC 10 dX10_free_5 (by decide) (fun hz => absurd hz (by first | decide | exact (show ¬ nI 1 = 0 by decide))) (fun hb => ?_)
    refine q_iconst (v := (-1)) hC dX10_free_8 (by decide) ?_
    refine q_iret hC dX10_free_9 ?_
    exact ⟨by simp [sFree, hp], by simpa [sFree, hp] using hR'⟩
  | some q =>
    obtain ⟨hq, rfl⟩ := ixN_some (by omega) hp
    have hq8 : q < 8 := by omega
    have hn := mdO_neg (hNo.1 q).1
    refine q_if_ne hC 10 dX10_free_5 (by decide) (fun hb => ?_) (fun hz => absurd hz (by first | decide | exact (show ¬ nI 1 = 0 by decide)))
    refine q_aload_n hC dX10_free_10 ?_
    refine q_getR hC (by first | assumption | rfl) flX10_31 dX10_free_11 ?_
    refine q_iload_n hC dX10_free_14 ?_
    refine q_ialdn hC (by first | assumption | rfl) (by first | assumption | omega) dX10_free_15 ?_
    rw [(hN.1 q hq).1]
    refine q_if_ge hC 22 dX10_free_16 (by decide) (fun hb => ?_) (fun hb => ?_)
    · have h4 : nO N q < 4 := Decidable.byContradiction (fun z => Int32.not_lt.mpr hb (hn.mpr z))
      refine q_aload_n hC dX10_free_22 ?_
      refine q_getR hC (by first | assumption | rfl) flX10_31 dX10_free_23 ?_
      refine q_iload_n hC dX10_free_26 ?_
      refine q_ialdn hC (by first | assumption | rfl) (by first | assumption | omega) dX10_free_27 ?_
      rw [(hN.1 q hq).1]
      refine q_istore_2 hC dX10_free_28 ?_
      refine q_aload_n hC dX10_free_29 ?_
      refine q_getR hC (by first | assumption | rfl) flX10_31 dX10_free_30 ?_
      refine q_iload_n hC dX10_free_33 ?_
      refine q_bipush (v := (-9)) hC dX10_free_34 (by decide) ?_
      refine q_iastn hC (by first | assumption | rfl) (by first | assumption | omega) dX10_free_36 ?_
      refine q_iload_n hC dX10_free_37 ?_
      refine q_iret hC dX10_free_38 ?_
      have e : sFree T N (nI q) = (nI (nO N q), nPav N q 4) := by simp [sFree, hp, h4]
      rw [e]
      refine ⟨?_, hR'.own q 4⟩
      show mdO (nO N q) = nI (nO N q)
      unfold mdO; rw [if_pos h4]
    · have h4 : ¬ nO N q < 4 := hn.mp (Int32.not_le.mp hb)
      refine q_bipush (v := (-2)) hC dX10_free_19 (by decide) ?_
      refine q_iret hC dX10_free_21 ?_
      exact ⟨by simp [sFree, hp, h4], by simpa [sFree, hp, h4] using hR'⟩
theorem m_stone (θ : Site) (S : St) (L : Nat) (x : Nat → Nat) (T : Tn) (N : Nw) (im : Nat → Option Nw) (tr : Int64) (hA : AOk T N im) (hR : RM S L x T N im tr) (p z : Int32) : Cti yX10_stone cX10_stone 4 (some .int) 20 θ shM [.ref (sA θ 0), .int p, .int z] S (fun r S' => r = (sStone T N p z).1 ∧ RM S' L x T (sStone T N p z).2 im tr) := by
  obtain ⟨hok, hNo, hIm⟩ := hA
  have hR' := hR
  obtain ⟨hx, hT, hN, hI, htr⟩ := hR
  have h8 := hok.1
  have hF4 := hok.2.1
  refine Cti.mk (own := RX10) 1 [some (.ref (sA θ 0)), some (.int p), some (.int z), none] (fun K hC => ?_)
  have bad : sStone T N p z = (-1, N) → K 18 [some (.ref (sA θ 0)), some (.int (p)), some (.int (z)), none] [] S := by
    intro e
    refine q_iconst (v := (-1)) hC dX10_stone_18 (by decide) ?_
    refine q_iret hC dX10_stone_19 ?_
    rw [e]
    exact ⟨rfl, hR'⟩
  refine q_aload_n hC dX10_stone_0 ?_
  refine q_iload_n hC dX10_stone_1 ?_
  refine q_calliV1 hC (by first | assumption | rfl) cvX10_161 dX10_stone_2 (m_isPiece θ _ p T hok hT) (by decide) (fun r S1 hr => ?_)
  obtain ⟨rfl, rfl⟩ := hr
  cases hp : ixN p (tP T) with
  | none =>
    refine q_if_eq hC 18 dX10_stone_5 (by decide) (fun hb => ?_) (fun hz => absurd hz (by first | decide | exact (show ¬ nI 1 = 0 by decide)))
    exact bad (by simp [sStone, hp])
  | some q =>
    obtain ⟨hq, rfl⟩ := ixN_some (by omega) hp
    have hq8 : q < 8 := by omega
    refine q_if_eq hC 18 dX10_stone_5 (by decide) (fun hz => absurd hz (by first | decide | exact (show ¬ nI 1 = 0 by decide))) (fun hb => ?_)
    refine q_iload_n hC dX10_stone_8 ?_
    refine q_i2l hC dX10_stone_9 ?_
    refine q_lconst (v := lN 0) hC dX10_stone_10 (by decide) ?_
    refine q_lconst (v := lN 1) hC dX10_stone_11 (by decide) ?_
    refine q_calliS3 hC csX10_71 dX10_stone_12 (m_inN θ _ z 1 2 rfl (by decide)) (by decide) (fun r S1 hr => ?_)
    obtain ⟨rfl, rfl⟩ := hr
    cases hw : ixN z 2 with
    | none =>
      refine q_if_ne hC 20 dX10_stone_15 (by decide) (fun hz => absurd hz (by first | decide | exact (show ¬ nI 1 = 0 by decide))) (fun hb => ?_)
      exact bad (by simp [sStone, hw])
    | some k =>
      obtain ⟨hk, rfl⟩ := ixN_some (by decide) hw
      refine q_if_ne hC 20 dX10_stone_15 (by decide) (fun hb => ?_) (fun hz => absurd hz (by first | decide | exact (show ¬ nI 1 = 0 by decide)))
      refine q_aload_n hC dX10_stone_20 ?_
      refine q_iload_n hC dX10_stone_21 ?_
      refine q_calliV1 hC (by first | assumption | rfl) cvX10_170 dX10_stone_22 (m_isStone θ _ q T N hok hNo (fun p hp => (hN.1 p hp).1) hq) (by decide) (fun r S1 hr => ?_)
      obtain ⟨rfl, rfl⟩ := hr
      rcases (show k = 0 ∨ k = 1 by omega) with rfl | rfl
      · by_cases h5 : nO N q = 5
        · rw [if_pos h5]
          refine q_if_eq hC 32 dX10_stone_25 (by decide) (fun hz => absurd hz (by first | decide | exact (show ¬ nI 1 = 0 by decide))) (fun hb => ?_)
          refine q_iconst (v := nI 1) hC dX10_stone_28 (by decide) ?_
          refine q_goto hC 33 dX10_stone_29 (by decide) ?_
          refine q_istore_3 hC dX10_stone_33 ?_
          refine q_iload_n hC dX10_stone_34 ?_
          refine q_iconst (v := nI 1) hC dX10_stone_35 (by decide) ?_
          refine q_icmp_ne hC 50 dX10_stone_36 (by decide) (fun hb => ?_) (fun hz => absurd hz (by first | decide | exact (show ¬ nI 1 = 0 by decide)))
          refine q_iload_n hC dX10_stone_50 ?_
          refine q_iconst (v := nI 1) hC dX10_stone_51 (by decide) ?_
          refine q_icmp_ne hC 63 dX10_stone_52 (by decide) (fun hz => absurd hz (by first | decide | exact (show ¬ nI 1 = 0 by decide))) (fun hb => ?_)
          refine q_aload_n hC dX10_stone_55 ?_
          refine q_getR hC (by first | assumption | rfl) flX10_31 dX10_stone_56 ?_
          refine q_iload_n hC dX10_stone_59 ?_
          refine q_bipush (v := (-9)) hC dX10_stone_60 (by decide) ?_
          refine q_iastn hC (by first | assumption | rfl) (by first | assumption | omega) dX10_stone_62 ?_
          refine q_iload_n hC dX10_stone_63 ?_
          refine q_iret hC dX10_stone_64 ?_
          exact ⟨by simp [sStone, hp, hw, h5], by simpa [sStone, hp, hw, h5, mdO] using hR'.own q 4⟩
        · rw [if_neg h5]
          refine q_if_eq hC 32 dX10_stone_25 (by decide) (fun hb => ?_) (fun hz => absurd hz (by first | decide | exact (show ¬ nI 1 = 0 by decide)))
          refine q_iconst (v := nI 0) hC dX10_stone_32 (by decide) ?_
          refine q_istore_3 hC dX10_stone_33 ?_
          refine q_iload_n hC dX10_stone_34 ?_
          refine q_iconst (v := nI 1) hC dX10_stone_35 (by decide) ?_
          refine q_icmp_ne hC 50 dX10_stone_36 (by decide) (fun hb => ?_) (fun hz => absurd hz (by first | decide | exact (show ¬ nI 1 = 0 by decide)))
          refine q_iload_n hC dX10_stone_50 ?_
          refine q_iconst (v := nI 1) hC dX10_stone_51 (by decide) ?_
          refine q_icmp_ne hC 63 dX10_stone_52 (by decide) (fun hb => ?_) (fun hz => absurd hz (by first | decide | exact (show ¬ nI 1 = 0 by decide)))
          refine q_iload_n hC dX10_stone_63 ?_
          refine q_iret hC dX10_stone_64 ?_
          exact ⟨by simp [sStone, hp, hw, h5], by simpa [sStone, hp, hw, h5] using hR'⟩
      · by_cases h5 : nO N q = 5
        · rw [if_pos h5]
          refine q_if_eq hC 32 dX10_stone_25 (by decide) (fun hz => absurd hz (by first | decide | exact (show ¬ nI 1 = 0 by decide))) (fun hb => ?_)
          refine q_iconst (v := nI 1) hC dX10_stone_28 (by decide) ?_
          refine q_goto hC 33 dX10_stone_29 (by decide) ?_
          refine q_istore_3 hC dX10_stone_33 ?_
          refine q_iload_n hC dX10_stone_34 ?_
          refine q_iconst (v := nI 1) hC dX10_stone_35 (by decide) ?_
          refine q_icmp_ne hC 50 dX10_stone_36 (by decide) (fun hz => absurd hz (by first | decide | exact (show ¬ nI 1 = 0 by decide))) (fun hb => ?_)
          refine q_aload_n hC dX10_stone_39 ?_
          refine q_getR hC (by first | assumption | rfl) flX10_31 dX10_stone_40 ?_
          refine q_iload_n hC dX10_stone_43 ?_
          refine q_bipush (v := (-5)) hC dX10_stone_44 (by decide) ?_
          refine q_iastn hC (by first | assumption | rfl) (by first | assumption | omega) dX10_stone_46 ?_
          refine q_goto hC 63 dX10_stone_47 (by decide) ?_
          refine q_iload_n hC dX10_stone_63 ?_
          refine q_iret hC dX10_stone_64 ?_
          exact ⟨by simp [sStone, hp, hw, h5], by simpa [sStone, hp, hw, h5, mdO] using hR'.own q 5⟩
        · rw [if_neg h5]
          refine q_if_eq hC 32 dX10_stone_25 (by decide) (fun hb => ?_) (fun hz => absurd hz (by first | decide | exact (show ¬ nI 1 = 0 by decide)))
          refine q_iconst (v := nI 0) hC dX10_stone_32 (by decide) ?_
          refine q_istore_3 hC dX10_stone_33 ?_
          refine q_iload_n hC dX10_stone_34 ?_
          refine q_iconst (v := nI 1) hC dX10_stone_35 (by decide) ?_
          refine q_icmp_ne hC 50 dX10_stone_36 (by decide) (fun hz => absurd hz (by first | decide | exact (show ¬ nI 1 = 0 by decide))) (fun hb => ?_)
          refine q_aload_n hC dX10_stone_39 ?_
          refine q_getR hC (by first | assumption | rfl) flX10_31 dX10_stone_40 ?_
          refine q_iload_n hC dX10_stone_43 ?_
          refine q_bipush (v := (-5)) hC dX10_stone_44 (by decide) ?_
          refine q_iastn hC (by first | assumption | rfl) (by first | assumption | omega) dX10_stone_46 ?_
          refine q_goto hC 63 dX10_stone_47 (by decide) ?_
          refine q_iload_n hC dX10_stone_63 ?_
          refine q_iret hC dX10_stone_64 ?_
          exact ⟨by simp [sStone, hp, hw, h5], by simpa [sStone, hp, hw, h5, mdO] using hR'.own q 5⟩
theorem m_flood (θ : Site) (S : St) (L : Nat) (x : Nat → Nat) (T : Tn) (N : Nw) (im : Nat → Option Nw) (tr : Int64) (hA : AOk T N im) (hR : RM S L x T N im tr) (p n : Int32) : Cti yX10_flood cX10_flood 4 (some .int) 20 θ shM [.ref (sA θ 0), .int p, .int n] S (fun r S' => r = (sFlood T N p n).1 ∧ RM S' L x T (sFlood T N p n).2 im tr) := by
  obtain ⟨hok, hNo, hIm⟩ := hA
  have hR' := hR
  obtain ⟨hx, hT, hN, hI, htr⟩ := hR
  have h8 := hok.1
  have hF4 := hok.2.1
  refine Cti.mk (own := RX10) 1 [some (.ref (sA θ 0)), some (.int p), some (.int n), none] (fun K hC => ?_)
  have bad : sFlood T N p n = (-1, N) → K 20 [some (.ref (sA θ 0)), some (.int (p)), some (.int (n)), none] [] S := by
    intro e
    refine q_iconst (v := (-1)) hC dX10_flood_20 (by decide) ?_
    refine q_iret hC dX10_flood_21 ?_
    rw [e]
    exact ⟨rfl, hR'⟩
  refine q_aload_n hC dX10_flood_0 ?_
  refine q_iload_n hC dX10_flood_1 ?_
  refine q_calliV1 hC (by first | assumption | rfl) cvX10_161 dX10_flood_2 (m_isPiece θ _ p T hok hT) (by decide) (fun r S1 hr => ?_)
  obtain ⟨rfl, rfl⟩ := hr
  cases hp : ixN p (tP T) with
  | none =>
    refine q_if_eq hC 20 dX10_flood_5 (by decide) (fun hb => ?_) (fun hz => absurd hz (by first | decide | exact (show ¬ nI 1 = 0 by decide)))
    exact bad (by simp [sFlood, hp])
  | some q =>
    obtain ⟨hq, rfl⟩ := ixN_some (by omega) hp
    have hq8 : q < 8 := by omega
    refine q_if_eq hC 20 dX10_flood_5 (by decide) (fun hz => absurd hz (by first | decide | exact (show ¬ nI 1 = 0 by decide))) (fun hb => ?_)
    refine q_iload_n hC dX10_flood_8 ?_
    refine q_i2l hC dX10_flood_9 ?_
    refine q_lconst (v := lN 0) hC dX10_flood_10 (by decide) ?_
    refine q_ldc2 hC klX10_185 dX10_flood_11 ?_
    refine q_calliS3 hC csX10_71 dX10_flood_14 (m_inN θ _ n 9 10 rfl (by decide)) (by decide) (fun r S1 hr => ?_)
    obtain ⟨rfl, rfl⟩ := hr
    cases hw : ixN n 10 with
    | none =>
      refine q_if_ne hC 22 dX10_flood_17 (by decide) (fun hz => absurd hz (by first | decide | exact (show ¬ nI 1 = 0 by decide))) (fun hb => ?_)
      exact bad (by simp [sFlood, hw])
    | some k =>
      obtain ⟨hk, rfl⟩ := ixN_some (by decide) hw
      refine q_if_ne hC 22 dX10_flood_17 (by decide) (fun hb => ?_) (fun hz => absurd hz (by first | decide | exact (show ¬ nI 1 = 0 by decide)))
      refine q_aload_n hC dX10_flood_22 ?_
      refine q_getR hC (by first | assumption | rfl) flX10_34 dX10_flood_23 ?_
      refine q_iload_n hC dX10_flood_26 ?_
      refine q_ialdn hC (by first | assumption | rfl) (by first | assumption | omega) dX10_flood_27 ?_
      rw [(hN.1 q hq).2]
      refine q_istore_3 hC dX10_flood_28 ?_
      refine q_aload_n hC dX10_flood_29 ?_
      refine q_getR hC (by first | assumption | rfl) flX10_34 dX10_flood_30 ?_
      refine q_iload_n hC dX10_flood_33 ?_
      refine q_iload_n hC dX10_flood_34 ?_
      refine q_iastn hC (by first | assumption | rfl) (by first | assumption | omega) dX10_flood_35 ?_
      refine q_iload_n hC dX10_flood_36 ?_
      refine q_iret hC dX10_flood_37 ?_
      have e : sFlood T N (nI q) (nI k) = (nI (nF N q), nFlo N q k) := by simp [sFlood, hp, hw]
      rw [e]
      exact ⟨rfl, hR'.flo q k⟩
theorem m_measures (θ : Site) (S : St) (t B : Nat) (T : Tn) (hok : TnOk T) (hT : MTw S T) (ht : t < 6) (hB : B < 256) : Ctv yX10_measures cX10_measures 6 none 0 θ shM [.ref (sA θ 0), .int (nI t), .int (nI B)] S (fun S' => Fr S S' [14] ∧ FaR S' (rds T B (ini t) 5)) := by
  have h8 := hok.1
  refine Ctv.mk (own := RX10) 3 [some (.ref (sA θ 0)), some (.int (nI t)), some (.int (nI B)), none, none, none] (fun K hC => ?_)
  have rounds : ∀ m r S1 l4 l5, r + m = 5 → Fr S S1 [14] → FaR S1 (rds T B (ini t) r) → K 33 [some (.ref (sA θ 0)), some (.int (nI t)), some (.int (nI B)), some (.int (nI (r + 1))), l4, l5] [] S1 := by
    intro m
    induction m with
    | zero =>
      intro r S1 l4 l5 hr hF hL
      have e : r = 5 := by omega
      subst e
      refine q_iload_n hC dX10_measures_33 ?_
      refine q_bipush (v := nI 6) hC dX10_measures_34 (by decide) ?_
      refine q_icmp_ge hC 236 dX10_measures_36 (by decide) (fun hb => ?_) (fun hz => absurd hz (by first | decide | exact (show ¬ nI 1 = 0 by decide)))
      refine q_vret hC dX10_measures_236 ?_
      exact ⟨hF, hL⟩
    | succ m ih =>
      intro r S1 l4 l5 hr hF hL
      have hbd := bd_rds hok (B := B) (t := t) r (by omega)
      have pieces : ∀ k p S2 l5, p + k = tP T → Fr S S2 [14] → FaR S2 (rnd T B (rds T B (ini t) r) p) → K 42 [some (.ref (sA θ 0)), some (.int (nI t)), some (.int (nI B)), some (.int (nI (r + 1))), some (.int (nI p)), l5] [] S2 := by
        intro k
        induction k with
        | zero =>
          intro p S2 l5 hp hF2 hL2
          have e : p = tP T := by omega
          subst e
          refine q_iload hC dX10_measures_42 ?_
          refine q_aload_n hC dX10_measures_44 ?_
          refine q_getI hC (by first | assumption | rfl) flX10_67 dX10_measures_45 ?_
          rw [hF2.c 0, hT.1]
          refine q_icmp_ge hC 230 dX10_measures_48 (by decide) (fun hb => ?_) (fun hz => absurd hz (fun z => z (nI_le (Nat.le_refl _) (by omega))))
          refine q_inc1_3 hC dX10_measures_230 ?_
          refine q_goto hC 33 dX10_measures_233 (by decide) ?_
          exact ih (r + 1) S2 _ _ (by omega) hF2 hL2
        | succ k ihp =>
          intro p S2 l5 hp hF2 hL2
          have hp8 : p < 8 := by omega
          obtain ⟨ha, hb, hab, hy1, hy2⟩ := hok.2.2.1 p (by omega)
          obtain ⟨t1, t2, t3⟩ := hT.2.2.1 p (by omega)
          have hbp := bd_rnd hok (B := B) hbd (by omega) p (by omega)
          generalize hdd : rnd T B (rds T B (ini t) r) p = d at hL2 hbp
          have u1 : ∀ v, d v ≤ 100000 := fun v => bd_le hbp (by omega)
          have body : ∀ w, w ≤ 100000 → edg T B d p = rlx (rlx d (tA T p) (tB T p) w) (tB T p) (tA T p) w → K 78 [some (.ref (sA θ 0)), some (.int (nI t)), some (.int (nI B)), some (.int (nI (r + 1))), some (.int (nI p)), l5] [.int (nI w)] S2 := by
            intro w hw he
            have second : ∀ S3, Fr S S3 [14] → FaR S3 (rlx d (tA T p) (tB T p) w) → K 152 [some (.ref (sA θ 0)), some (.int (nI t)), some (.int (nI B)), some (.int (nI (r + 1))), some (.int (nI p)), some (.int (nI w))] [] S3 := by
              intro S3 hF3 hL3
              generalize hd2 : rlx d (tA T p) (tB T p) w = d2 at hL3
              have u2 : ∀ v, d2 v ≤ 100000 := fun v => by
                rw [← hd2]
                unfold rlx
                split
                · rename_i hlt
                  by_cases e : v = tA T p
                  · subst e; rw [upN_s]; have := u1 (tA T p); omega
                  · rw [upN_o e]; exact u1 v
                · exact u1 v
              have fin : ∀ val, val = (if d2 (tA T p) + w < d2 (tB T p) then nI (d2 (tA T p) + w) else nI (d2 (tB T p))) → K 223 [some (.ref (sA θ 0)), some (.int (nI t)), some (.int (nI B)), some (.int (nI (r + 1))), some (.int (nI p)), some (.int (nI w))] [.int val, .int (nI (tB T p)), .ref (sA θ 14)] S3 := by
                intro val hv
                subst hv
                refine q_iastn hC (by first | assumption | rfl) (by first | assumption | omega) dX10_measures_223 ?_
                refine q_inc1_4 hC dX10_measures_224 ?_
                refine q_goto hC 42 dX10_measures_227 (by decide) ?_
                refine ihp (p + 1) _ _ (by omega) (hF3.trans Fr.u1) ?_
                have := FaR.relax (u := tB T p) (v := tA T p) (w := w) hL3
                show FaR _ (edg T B (rnd T B (rds T B (ini t) r) p) p)
                rw [hdd, he, hd2]
                exact this
              have v1 := u2 (tA T p)
              have v2 := u2 (tB T p)
              refine q_aload_n hC dX10_measures_152 ?_
              refine q_getR hC (by first | assumption | rfl) flX10_49 dX10_measures_153 ?_
              refine q_aload_n hC dX10_measures_156 ?_
              refine q_getR hC (by first | assumption | rfl) flX10_16 dX10_measures_157 ?_
              refine q_iload hC dX10_measures_160 ?_
              refine q_ialdn hC (by first | assumption | rfl) (by first | assumption | omega) dX10_measures_162 ?_
              rw [hF3.c 3, t2]
              refine q_aload_n hC dX10_measures_163 ?_
              refine q_getR hC (by first | assumption | rfl) flX10_49 dX10_measures_164 ?_
              refine q_aload_n hC dX10_measures_167 ?_
              refine q_getR hC (by first | assumption | rfl) flX10_13 dX10_measures_168 ?_
              refine q_iload hC dX10_measures_171 ?_
              refine q_ialdn hC (by first | assumption | rfl) (by first | assumption | omega) dX10_measures_173 ?_
              rw [hF3.c 2, t1]
              refine q_ialdn hC (by first | assumption | rfl) (by first | assumption | omega) dX10_measures_174 ?_
              rw [hL3 _ ha]
              refine q_iload hC dX10_measures_175 ?_
              refine q_iadd hC dX10_measures_177 ?_
              rw [nI_add]
              refine q_aload_n hC dX10_measures_178 ?_
              refine q_getR hC (by first | assumption | rfl) flX10_49 dX10_measures_179 ?_
              refine q_aload_n hC dX10_measures_182 ?_
              refine q_getR hC (by first | assumption | rfl) flX10_16 dX10_measures_183 ?_
              refine q_iload hC dX10_measures_186 ?_
              refine q_ialdn hC (by first | assumption | rfl) (by first | assumption | omega) dX10_measures_188 ?_
              rw [hF3.c 3, t2]
              refine q_ialdn hC (by first | assumption | rfl) (by first | assumption | omega) dX10_measures_189 ?_
              rw [hL3 _ hb]
              refine q_icmp_ge hC 211 dX10_measures_190 (by decide) (fun hc => ?_) (fun hc => ?_)
              · refine q_aload_n hC dX10_measures_211 ?_
                refine q_getR hC (by first | assumption | rfl) flX10_49 dX10_measures_212 ?_
                refine q_aload_n hC dX10_measures_215 ?_
                refine q_getR hC (by first | assumption | rfl) flX10_16 dX10_measures_216 ?_
                refine q_iload hC dX10_measures_219 ?_
                refine q_ialdn hC (by first | assumption | rfl) (by first | assumption | omega) dX10_measures_221 ?_
                rw [hF3.c 3, t2]
                refine q_ialdn hC (by first | assumption | rfl) (by first | assumption | omega) dX10_measures_222 ?_
                rw [hL3 _ hb]
                exact fin _ (by rw [if_neg (by have := (nI_leI (by omega) (by omega)).mp hc; omega)])
              · refine q_aload_n hC dX10_measures_193 ?_
                refine q_getR hC (by first | assumption | rfl) flX10_49 dX10_measures_194 ?_
                refine q_aload_n hC dX10_measures_197 ?_
                refine q_getR hC (by first | assumption | rfl) flX10_13 dX10_measures_198 ?_
                refine q_iload hC dX10_measures_201 ?_
                refine q_ialdn hC (by first | assumption | rfl) (by first | assumption | omega) dX10_measures_203 ?_
                rw [hF3.c 2, t1]
                refine q_ialdn hC (by first | assumption | rfl) (by first | assumption | omega) dX10_measures_204 ?_
                rw [hL3 _ ha]
                refine q_iload hC dX10_measures_205 ?_
                refine q_iadd hC dX10_measures_207 ?_
                rw [nI_add]
                refine q_goto hC 223 dX10_measures_208 (by decide) ?_
                exact fin _ (by rw [if_pos (by have : ¬ _ := fun z => hc (nI_le z (by omega)); omega)])
            have fin : ∀ val, val = (if d (tB T p) + w < d (tA T p) then nI (d (tB T p) + w) else nI (d (tA T p))) → K 151 [some (.ref (sA θ 0)), some (.int (nI t)), some (.int (nI B)), some (.int (nI (r + 1))), some (.int (nI p)), some (.int (nI w))] [.int val, .int (nI (tA T p)), .ref (sA θ 14)] S2 := by
              intro val hv
              subst hv
              refine q_iastn hC (by first | assumption | rfl) (by first | assumption | omega) dX10_measures_151 ?_
              exact second _ (hF2.trans Fr.u1) (FaR.relax hL2)
            have v1 := u1 (tA T p)
            have v2 := u1 (tB T p)
            refine q_istore_5 hC dX10_measures_78 ?_
            refine q_aload_n hC dX10_measures_80 ?_
            refine q_getR hC (by first | assumption | rfl) flX10_49 dX10_measures_81 ?_
            refine q_aload_n hC dX10_measures_84 ?_
            refine q_getR hC (by first | assumption | rfl) flX10_13 dX10_measures_85 ?_
            refine q_iload hC dX10_measures_88 ?_
            refine q_ialdn hC (by first | assumption | rfl) (by first | assumption | omega) dX10_measures_90 ?_
            rw [hF2.c 2, t1]
            refine q_aload_n hC dX10_measures_91 ?_
            refine q_getR hC (by first | assumption | rfl) flX10_49 dX10_measures_92 ?_
            refine q_aload_n hC dX10_measures_95 ?_
            refine q_getR hC (by first | assumption | rfl) flX10_16 dX10_measures_96 ?_
            refine q_iload hC dX10_measures_99 ?_
            refine q_ialdn hC (by first | assumption | rfl) (by first | assumption | omega) dX10_measures_101 ?_
            rw [hF2.c 3, t2]
            refine q_ialdn hC (by first | assumption | rfl) (by first | assumption | omega) dX10_measures_102 ?_
            rw [hL2 _ hb]
            refine q_iload hC dX10_measures_103 ?_
            refine q_iadd hC dX10_measures_105 ?_
            rw [nI_add]
            refine q_aload_n hC dX10_measures_106 ?_
            refine q_getR hC (by first | assumption | rfl) flX10_49 dX10_measures_107 ?_
            refine q_aload_n hC dX10_measures_110 ?_
            refine q_getR hC (by first | assumption | rfl) flX10_13 dX10_measures_111 ?_
            refine q_iload hC dX10_measures_114 ?_
            refine q_ialdn hC (by first | assumption | rfl) (by first | assumption | omega) dX10_measures_116 ?_
            rw [hF2.c 2, t1]
            refine q_ialdn hC (by first | assumption | rfl) (by first | assumption | omega) dX10_measures_117 ?_
            rw [hL2 _ ha]
            refine q_icmp_ge hC 139 dX10_measures_118 (by decide) (fun hc => ?_) (fun hc => ?_)
            · refine q_aload_n hC dX10_measures_139 ?_
              refine q_getR hC (by first | assumption | rfl) flX10_49 dX10_measures_140 ?_
              refine q_aload_n hC dX10_measures_143 ?_
              refine q_getR hC (by first | assumption | rfl) flX10_13 dX10_measures_144 ?_
              refine q_iload hC dX10_measures_147 ?_
              refine q_ialdn hC (by first | assumption | rfl) (by first | assumption | omega) dX10_measures_149 ?_
              rw [hF2.c 2, t1]
              refine q_ialdn hC (by first | assumption | rfl) (by first | assumption | omega) dX10_measures_150 ?_
              rw [hL2 _ ha]
              exact fin _ (by rw [if_neg (by have := (nI_leI (by omega) (by omega)).mp hc; omega)])
            · refine q_aload_n hC dX10_measures_121 ?_
              refine q_getR hC (by first | assumption | rfl) flX10_49 dX10_measures_122 ?_
              refine q_aload_n hC dX10_measures_125 ?_
              refine q_getR hC (by first | assumption | rfl) flX10_16 dX10_measures_126 ?_
              refine q_iload hC dX10_measures_129 ?_
              refine q_ialdn hC (by first | assumption | rfl) (by first | assumption | omega) dX10_measures_131 ?_
              rw [hF2.c 3, t2]
              refine q_ialdn hC (by first | assumption | rfl) (by first | assumption | omega) dX10_measures_132 ?_
              rw [hL2 _ hb]
              refine q_iload hC dX10_measures_133 ?_
              refine q_iadd hC dX10_measures_135 ?_
              rw [nI_add]
              refine q_goto hC 151 dX10_measures_136 (by decide) ?_
              exact fin _ (by rw [if_pos (by have : ¬ _ := fun z => hc (nI_le z (by omega)); omega)])
          have he := edg_st (T := T) B (p := p) hbp (by omega)
          have h2 : B / 2 ^ p % 2 < 2 := Nat.mod_lt _ (by omega)
          refine q_iload hC dX10_measures_42 ?_
          refine q_aload_n hC dX10_measures_44 ?_
          refine q_getI hC (by first | assumption | rfl) flX10_67 dX10_measures_45 ?_
          rw [hF2.c 0, hT.1]
          refine q_icmp_ge hC 230 dX10_measures_48 (by decide) (fun hz => absurd hz (fun z => by have := (nI_leI (by omega) (by omega)).mp z; omega)) (fun hb => ?_)
          refine q_iload_n hC dX10_measures_51 ?_
          refine q_iload hC dX10_measures_52 ?_
          refine q_ishr hC dX10_measures_54 ?_
          refine q_iconst (v := nI 1) hC dX10_measures_55 (by decide) ?_
          refine q_iand hC dX10_measures_56 ?_
          rw [bit_n (by omega) (by omega)]
          refine q_iconst (v := nI 1) hC dX10_measures_57 (by decide) ?_
          refine q_icmp_ne hC 66 dX10_measures_58 (by decide) (fun hc => ?_) (fun hc => ?_)
          · have e0 : ¬ B / 2 ^ p % 2 = 1 := fun z => hc (by rw [z])
            rw [if_neg e0] at he
            refine q_bipush (v := nI 16) hC dX10_measures_66 (by decide) ?_
            refine q_aload_n hC dX10_measures_68 ?_
            refine q_getR hC (by first | assumption | rfl) flX10_19 dX10_measures_69 ?_
            refine q_iload hC dX10_measures_72 ?_
            refine q_ialdn hC (by first | assumption | rfl) (by first | assumption | omega) dX10_measures_74 ?_
            rw [hF2.c 4, t3]
            refine q_imul hC dX10_measures_75 ?_
            rw [pk_mul]
            refine q_iconst (v := nI 1) hC dX10_measures_76 (by decide) ?_
            refine q_iadd hC dX10_measures_77 ?_
            rw [nI_add]
            refine body (16 * tY T p + 1) (by omega) ?_
            have : leg T p = 16 * tY T p + 1 := by unfold leg; omega
            rw [← this]; exact he
          · have e1 : B / 2 ^ p % 2 = 1 := nI_small (by omega) (by omega) hc
            rw [if_pos e1] at he
            refine q_ldc hC kcX10_187 dX10_measures_61 ?_
            refine q_goto hC 78 dX10_measures_63 (by decide) ?_
            exact body 100000 (Nat.le_refl _) he
      refine q_iload_n hC dX10_measures_33 ?_
      refine q_bipush (v := nI 6) hC dX10_measures_34 (by decide) ?_
      refine q_icmp_ge hC 236 dX10_measures_36 (by decide) (fun hz => absurd hz (fun z => by have := (nI_leI (by omega) (by omega)).mp z; omega)) (fun hb => ?_)
      refine q_iconst (v := nI 0) hC dX10_measures_39 (by decide) ?_
      refine q_istore_4 hC dX10_measures_40 ?_
      exact pieces (tP T) 0 S1 _ (by omega) hF hL
  have fill : ∀ m v S1, v + m = 6 → Fr S S1 [14] → (∀ u, u < v → S1.1 14 u = nI (ini t u)) → K 2 [some (.ref (sA θ 0)), some (.int (nI t)), some (.int (nI B)), some (.int (nI v)), none, none] [] S1 := by
    intro m
    induction m with
    | zero =>
      intro v S1 hv hF hL
      have e : v = 6 := by omega
      subst e
      refine q_iload_n hC dX10_measures_2 ?_
      refine q_bipush (v := nI 6) hC dX10_measures_3 (by decide) ?_
      refine q_icmp_ge hC 31 dX10_measures_5 (by decide) (fun hb => ?_) (fun hz => absurd hz (by first | decide | exact (show ¬ nI 1 = 0 by decide)))
      refine q_iconst (v := nI 1) hC dX10_measures_31 (by decide) ?_
      refine q_istore_3 hC dX10_measures_32 ?_
      exact rounds 5 0 S1 _ _ (by omega) hF hL
    | succ m ih =>
      intro v S1 hv hF hL
      have hv6 : v < 6 := by omega
      have fin : ∀ val, val = nI (ini t v) → K 24 [some (.ref (sA θ 0)), some (.int (nI t)), some (.int (nI B)), some (.int (nI v)), none, none] [.int val, .int (nI v), .ref (sA θ 14)] S1 := by
        intro val hval
        subst hval
        refine q_iastn hC (by first | assumption | rfl) (by first | assumption | omega) dX10_measures_24 ?_
        refine q_inc1_3 hC dX10_measures_25 ?_
        refine q_goto hC 2 dX10_measures_28 (by decide) ?_
        refine ih (v + 1) _ (by omega) (hF.trans Fr.u1) (fun u hu => ?_)
        by_cases e : u = v
        · subst e; rw [up_s]
        · rw [up_of e]; exact hL u (by omega)
      refine q_iload_n hC dX10_measures_2 ?_
      refine q_bipush (v := nI 6) hC dX10_measures_3 (by decide) ?_
      refine q_icmp_ge hC 31 dX10_measures_5 (by decide) (fun hz => absurd hz (fun z => by have := (nI_leI (by omega) (by omega)).mp z; omega)) (fun hb => ?_)
      refine q_aload_n hC dX10_measures_8 ?_
      refine q_getR hC (by first | assumption | rfl) flX10_49 dX10_measures_9 ?_
      refine q_iload_n hC dX10_measures_12 ?_
      refine q_iload_n hC dX10_measures_13 ?_
      refine q_iload_n hC dX10_measures_14 ?_
      refine q_icmp_ne hC 22 dX10_measures_15 (by decide) (fun hc => ?_) (fun hc => ?_)
      · refine q_ldc hC kcX10_187 dX10_measures_22 ?_
        refine fin _ ?_
        unfold ini
        rw [if_neg (fun z => hc (by rw [z]))]
      · refine q_iconst (v := nI 0) hC dX10_measures_18 (by decide) ?_
        refine q_goto hC 24 dX10_measures_19 (by decide) ?_
        refine fin _ ?_
        unfold ini
        rw [if_pos (nI_small (by omega) (by omega) hc)]
  refine q_iconst (v := nI 0) hC dX10_measures_0 (by decide) ?_
  refine q_istore_3 hC dX10_measures_1 ?_
  exact fill 6 0 S (by omega) Fr.rfl' (fun u hu => by omega)
theorem m_wayOf (θ : Site) (S : St) (f B : Nat) (T : Tn) (hok : TnOk T) (hT : MTw S T) (hf : f < tF T) (hB : B < 256) : Cti yX10_wayOf cX10_wayOf 3 (some .int) 1 θ shM [.ref (sA θ 0), .int (nI f), .int (nI B)] S (fun r S' => r = orN (yd T f B) ∧ Fr S S' [14] ∧ FaR S' (dst T f B)) := by
  have hF4 := hok.2.1
  have hf4 : f < 4 := by omega
  obtain ⟨hh, hg, -⟩ := hok.2.2.2 f hf
  obtain ⟨t1, t2, -⟩ := hT.2.2.2 f hf
  rw [orN_yd]
  have hd : ∀ v, dst T f B v ≤ 100000 := fun v => bd_le (bd_dst hok f B) (by omega)
  have hdh := hd (tH T f)
  refine Cti.mk (own := RX10) 0 [some (.ref (sA θ 0)), some (.int (nI f)), some (.int (nI B))] (fun K hC => ?_)
  refine q_aload_n hC dX10_wayOf_0 ?_
  refine q_aload_n hC dX10_wayOf_1 ?_
  refine q_getR hC (by first | assumption | rfl) flX10_25 dX10_wayOf_2 ?_
  refine q_iload_n hC dX10_wayOf_5 ?_
  refine q_ialdn hC (by first | assumption | rfl) (by first | assumption | omega) dX10_wayOf_6 ?_
  rw [t2]
  refine q_iload_n hC dX10_wayOf_7 ?_
  refine q_callvV2 hC (by first | assumption | rfl) cvX10_188 dX10_wayOf_8 (m_measures θ _ (tG T f) B T hok hT hg hB) (by decide) (fun S1 hr => ?_)
  obtain ⟨hF1, hL⟩ := hr
  refine q_aload_n hC dX10_wayOf_11 ?_
  refine q_getR hC (by first | assumption | rfl) flX10_49 dX10_wayOf_12 ?_
  refine q_aload_n hC dX10_wayOf_15 ?_
  refine q_getR hC (by first | assumption | rfl) flX10_22 dX10_wayOf_16 ?_
  refine q_iload_n hC dX10_wayOf_19 ?_
  refine q_ialdn hC (by first | assumption | rfl) (by first | assumption | omega) dX10_wayOf_20 ?_
  rw [hF1.c 5, t1]
  refine q_ialdn hC (by first | assumption | rfl) (by first | assumption | omega) dX10_wayOf_21 ?_
  rw [hL _ hh]
  show K _ _ (.int (nI (dst T f B (tH T f))) :: _) _
  refine q_ldc hC kcX10_187 dX10_wayOf_22 ?_
  refine q_icmp_lt hC 32 dX10_wayOf_24 (by decide) (fun hb => ?_) (fun hb => ?_)
  · have h1 : dst T f B (tH T f) < 100000 := (nI_ltI (by omega) (by omega)).mp hb
    refine q_aload_n hC dX10_wayOf_32 ?_
    refine q_getR hC (by first | assumption | rfl) flX10_49 dX10_wayOf_33 ?_
    refine q_aload_n hC dX10_wayOf_36 ?_
    refine q_getR hC (by first | assumption | rfl) flX10_22 dX10_wayOf_37 ?_
    refine q_iload_n hC dX10_wayOf_40 ?_
    refine q_ialdn hC (by first | assumption | rfl) (by first | assumption | omega) dX10_wayOf_41 ?_
    rw [hF1.c 5, t1]
    refine q_ialdn hC (by first | assumption | rfl) (by first | assumption | omega) dX10_wayOf_42 ?_
    rw [hL _ hh]
    show K _ _ (.int (nI (dst T f B (tH T f))) :: _) _
    refine q_bipush (v := nI 16) hC dX10_wayOf_43 (by decide) ?_
    refine q_idiv hC dX10_wayOf_45 (by decide) ?_
    rw [pk_div (by omega) (by omega) (by omega)]
    refine q_iret hC dX10_wayOf_46 ?_
    exact ⟨by rw [if_pos h1], hF1, hL⟩
  · have h1 : ¬ dst T f B (tH T f) < 100000 := fun z => hb ((nI_ltI (by omega) (by omega)).mpr z)
    refine q_bipush (v := (-9)) hC dX10_wayOf_27 (by decide) ?_
    refine q_goto hC 46 dX10_wayOf_29 (by decide) ?_
    refine q_iret hC dX10_wayOf_46 ?_
    exact ⟨by rw [if_neg h1], hF1, hL⟩
theorem m_way (θ : Site) (S : St) (L : Nat) (x : Nat → Nat) (T : Tn) (N : Nw) (im : Nat → Option Nw) (tr : Int64) (hA : AOk T N im) (hR : RM S L x T N im tr) (f : Int32) : Cti yX10_way cX10_way 2 (some .int) 20 θ shM [.ref (sA θ 0), .int f] S (fun r S' => r = sWay T N f ∧ RM S' L x T N im tr) := by
  obtain ⟨hok, hNo, hIm⟩ := hA
  have hR' := hR
  obtain ⟨hx, hT, hN, hI, htr⟩ := hR
  have h8 := hok.1
  have hF4 := hok.2.1
  refine Cti.mk (own := RX10) 0 [some (.ref (sA θ 0)), some (.int f)] (fun K hC => ?_)
  refine q_aload_n hC dX10_way_0 ?_
  refine q_iload_n hC dX10_way_1 ?_
  refine q_calliV1 hC (by first | assumption | rfl) cvX10_173 dX10_way_2 (m_isFamily θ _ f T hok hT) (by decide) (fun r S1 hr => ?_)
  obtain ⟨rfl, rfl⟩ := hr
  cases hp : ixN f (tF T) with
  | none =>
    refine q_if_eq hC 25 dX10_way_5 (by decide) (fun hb => ?_) (fun hz => absurd hz (by first | decide | exact (show ¬ nI 1 = 0 by decide)))
    refine q_iconst (v := (-1)) hC dX10_way_25 (by decide) ?_
    refine q_iret hC dX10_way_26 ?_
    exact ⟨by simp [sWay, hp], hR'⟩
  | some g =>
    obtain ⟨hg, rfl⟩ := ixN_some (by omega) hp
    refine q_if_eq hC 25 dX10_way_5 (by decide) (fun hz => absurd hz (by first | decide | exact (show ¬ nI 1 = 0 by decide))) (fun hb => ?_)
    refine q_aload_n hC dX10_way_8 ?_
    refine q_iload_n hC dX10_way_9 ?_
    refine q_aload_n hC dX10_way_10 ?_
    refine q_aload_n hC dX10_way_11 ?_
    refine q_getR hC (by first | assumption | rfl) flX10_31 dX10_way_12 ?_
    refine q_iload_n hC dX10_way_15 ?_
    refine q_calliV2 hC (by first | assumption | rfl) cvX10_178 dX10_way_16 (m_own θ _ g T N hok hNo hT.1 (fun p hp => (hN.1 p hp).1) (by omega)) (by decide) (fun r S1 hr => ?_)
    obtain ⟨rfl, rfl⟩ := hr
    refine q_calliV2 hC (by first | assumption | rfl) cvX10_192 dX10_way_19 (m_wayOf θ _ g _ T hok hT hg (owm_lt N g)) (by decide) (fun r S1 hr => ?_)
    obtain ⟨rfl, hF1, -⟩ := hr
    refine q_goto hC 26 dX10_way_22 (by decide) ?_
    refine q_iret hC dX10_way_26 ?_
    exact ⟨by simp [sWay, hp], hR'.fr (hF1.mono (by decide))⟩
