theorem x_trace (θ : Site) (S : St) (L : Nat) (x : Nat → Nat) (T : Tn) (N : Nw) (im : Nat → Option Nw) (tr : Int64) (hA : AOk T N im) (hR : RX S L x T N im tr) : Ctl yX9_trace cX9_trace 1 (some .long) 20 θ shX [.ref (sA θ 0)] S (fun r S' => r = tr ∧ RX S' L x T N im tr) := by
  obtain ⟨hok, hNo, hIm⟩ := hA
  have hR' := hR
  obtain ⟨hx, hT, hN, hI, hKn, hCh, htr⟩ := hR
  have h8 := hok.1
  have hF4 := hok.2.1
  refine Ctl.mk (own := RX9) 0 [some (.ref (sA θ 0))] (fun K hC => ?_)
  refine q_aload_n hC dX9_trace_0 ?_
  refine q_getL hC (by first | assumption | rfl) flX9_92 dX9_trace_1 ?_
  rw [htr]
  refine q_lret hC dX9_trace_4 ?_
  exact ⟨rfl, hR'⟩
theorem x_clear (θ : Site) (S : St) (L : Nat) (x : Nat → Nat) (T : Tn) (N : Nw) (im : Nat → Option Nw) (tr : Int64) (hA : AOk T N im) (hR : RX S L x T N im tr) : Cti yX9_clear cX9_clear 2 (some .int) 20 θ shX [.ref (sA θ 0)] S (fun r S' => r = nI L ∧ RX S' 0 x T N im tr) := by
  obtain ⟨hok, hNo, hIm⟩ := hA
  have hR' := hR
  obtain ⟨hx, hT, hN, hI, hKn, hCh, htr⟩ := hR
  have h8 := hok.1
  have hF4 := hok.2.1
  refine Cti.mk (own := RX9) 1 [some (.ref (sA θ 0)), none] (fun K hC => ?_)
  refine q_aload_n hC dX9_clear_0 ?_
  refine q_getR hC (by first | assumption | rfl) flX9_10 dX9_clear_1 ?_
  refine q_getI hC (by first | assumption | rfl) flX9_96 dX9_clear_4 ?_
  rw [hx.2.2.1]
  refine q_istore_1 hC dX9_clear_7 ?_
  refine q_aload_n hC dX9_clear_8 ?_
  refine q_getR hC (by first | assumption | rfl) flX9_10 dX9_clear_9 ?_
  refine q_iconst (v := nI 0) hC dX9_clear_12 (by decide) ?_
  refine q_putI hC (by first | assumption | rfl) fpX9_96 dX9_clear_13 ?_
  refine q_iload_n hC dX9_clear_16 ?_
  refine q_iret hC dX9_clear_17 ?_
  refine ⟨rfl, ⟨by omega, hx.2.1, up_s, fun i hi => by omega⟩, hT.fr4 (Fr.u1 (k := 1)) rfl, hN.go (up_oc (by decide)) (up_oc (by decide)) (up_oc (by decide)) (up_oc (by decide)), hI.go (fun a g1 g2 => up_oc (by omega)), fun f hf B hB => by rw [up_oc (by decide)]; exact hKn f hf B hB, hCh.go (up_oc (by decide)) (up_oc (by decide)) (up_oc (by decide)), htr⟩
theorem x_type (θ : Site) (S : St) (L : Nat) (x : Nat → Nat) (T : Tn) (N : Nw) (im : Nat → Option Nw) (tr : Int64) (hA : AOk T N im) (hR : RX S L x T N im tr) (v : Int64) (n : Int32) : Cti yX9_type cX9_type 4 (some .int) 20 θ shX [.ref (sA θ 0), .long v, .int n] S (fun r S' => r = (sType L x v n).1 ∧ RX S' (sType L x v n).2.1 (sType L x v n).2.2 T N im tr) := by
  obtain ⟨hok, hNo, hIm⟩ := hA
  have hR' := hR
  obtain ⟨hx, hT, hN, hI, hKn, hCh, htr⟩ := hR
  have h8 := hok.1
  have hF4 := hok.2.1
  refine Cti.mk (own := RX9) 0 [some (.ref (sA θ 0)), some (.long v), none, some (.int n)] (fun K hC => ?_)
  have hL := hx.1
  have bad : (∀ k, ixN n 9 = some k → k = 0) → K 11 [some (.ref (sA θ 0)), some (.long v), none, some (.int n)] [] S := by
    intro hz
    have e : sType L x v n = (-1, L, x) := by
      unfold sType
      cases hi : ixN n 9 with
      | none => rfl
      | some k =>
        have hz0 := hz k hi
        subst hz0
        rfl
    refine q_iconst (v := (-1)) hC dX9_type_11 (by decide) ?_
    refine q_iret hC dX9_type_12 ?_
    rw [e]
    exact ⟨rfl, hR'⟩
  refine q_iload_n hC dX9_type_0 ?_
  refine q_iconst (v := nI 1) hC dX9_type_1 (by decide) ?_
  refine q_icmp_lt hC 11 dX9_type_2 (by decide) (fun hb => ?_) (fun hb => ?_)
  · exact bad (fun k hk => by
      obtain ⟨h1, rfl⟩ := ixN_some (by decide) hk
      have := (nI_ltI (by omega) (by omega)).mp hb
      omega)
  · refine q_iload_n hC dX9_type_5 ?_
    refine q_bipush (v := nI 8) hC dX9_type_6 (by decide) ?_
    refine q_icmp_le hC 13 dX9_type_8 (by decide) (fun hb2 => ?_) (fun hb2 => ?_)
    · cases hi : ixN n 9 with
      | none =>
        rcases ixN_none (by decide) hi with z | z
        · exact absurd (Int32.lt_trans z (by decide)) hb
        · exact absurd (Int32.le_trans z hb2) (by decide)
      | some k =>
        obtain ⟨h1, rfl⟩ := ixN_some (by decide) hi
        have hk1 : 1 ≤ k := by
          rcases Nat.eq_zero_or_pos k with z | z
          · subst z; exact absurd (by decide) hb
          · exact z
        refine q_aload_n hC dX9_type_13 ?_
        refine q_getR hC (by first | assumption | rfl) flX9_10 dX9_type_14 ?_
        refine q_getI hC (by first | assumption | rfl) flX9_96 dX9_type_17 ?_
        rw [hx.2.2.1]
        refine q_iload_n hC dX9_type_20 ?_
        refine q_iadd hC dX9_type_21 ?_
        rw [nI_add]
        refine q_sipush (v := nI 300) hC dX9_type_22 (by decide) ?_
        refine q_icmp_le hC 31 dX9_type_25 (by decide) (fun hb3 => ?_) (fun hb3 => ?_)
        · have h3 : L + k ≤ 300 := (nI_leI (by omega) (by omega)).mp hb3
          have e : sType L x v (nI k) = (nI (L + k), L + k, txU L x v k) := by
            unfold sType
            rw [hi]
            cases k with
            | zero => omega
            | succ k => simp only [if_pos h3]
          refine q_aload_n hC dX9_type_31 ?_
          refine q_getR hC (by first | assumption | rfl) flX9_10 dX9_type_32 ?_
          refine q_lload_n hC dX9_type_35 ?_
          refine q_iload_n hC dX9_type_36 ?_
          refine q_callvV2 hC (by first | assumption | rfl) cvX9_100 dX9_type_37 (c_append θ _ L k x v hx (by omega) h3) (by decide) (fun S1 hr1 => ?_)
          obtain ⟨hF1, hx1⟩ := hr1
          refine q_aload_n hC dX9_type_40 ?_
          refine q_getR hC (by first | assumption | rfl) flX9_10 dX9_type_41 ?_
          refine q_getI hC (by first | assumption | rfl) flX9_96 dX9_type_44 ?_
          rw [hx1.2.2.1]
          refine q_iret hC dX9_type_47 ?_
          rw [e]
          exact ⟨rfl, hx1, hT.fr4 hF1 rfl, hN.go (hF1.c 18) (hF1.c 19) (hF1.c 20) (hF1.c 21), hI.go (fun a g1 g2 => hF1.1 a (by simp only [List.mem_cons, List.not_mem_nil, or_false, not_or]; omega)), fun f hf B hB => by rw [hF1.c 37]; exact hKn f hf B hB, hCh.go (hF1.c 39) (hF1.c 40) (hF1.c 41), by rw [hF1.2]; exact htr⟩
        · have h3 : ¬ L + k ≤ 300 := fun z => hb3 (nI_le z (by omega))
          have e : sType L x v (nI k) = (-3, L, x) := by
            unfold sType
            rw [hi]
            cases k with
            | zero => omega
            | succ k => simp only [if_neg h3]
          refine q_bipush (v := (-3)) hC dX9_type_28 (by decide) ?_
          refine q_iret hC dX9_type_30 ?_
          rw [e]
          exact ⟨rfl, hR'⟩
    · exact bad (fun k hk => by
        obtain ⟨h1, rfl⟩ := ixN_some (by decide) hk
        exact absurd (nI_le (by omega) (by omega)) hb2)
theorem x_town (θ : Site) (S : St) (L : Nat) (x : Nat → Nat) (T : Tn) (N : Nw) (im : Nat → Option Nw) (tr : Int64) (hA : AOk T N im) (hR : RX S L x T N im tr) : Cti yX9_town cX9_town 3 (some .int) 20 θ shX [.ref (sA θ 0)] S (fun r S' => (∀ s, pAll L x 301 0 T00 N00 0 = .inl s → r = -10 - nI s ∧ RX S' L x T N im tr) ∧ ∀ k T' N', pAll L x 301 0 T00 N00 0 = .inr (k, T', N') → r = nI k ∧ RX S' 0 x T' N' (fun _ => none) tr ∧ TnOk T' ∧ NwOk T' N') := by
  obtain ⟨hok, hNo, hIm⟩ := hA
  have hR' := hR
  obtain ⟨hx, hT, hN, hI, hKn, hCh, htr⟩ := hR
  have h8 := hok.1
  have hF4 := hok.2.1
  refine Cti.mk (own := RX9) 2 [some (.ref (sA θ 0)), none, none] (fun K hC => ?_)
  refine q_aload_n hC dX9_town_0 ?_
  refine q_getR hC (by first | assumption | rfl) flX9_41 dX9_town_1 ?_
  refine q_calliV0 hC (by first | assumption | rfl) cvX9_104 dX9_town_4 (c_readAll θ _ L x hx) (by decide) (fun r1 S1 hr1 => ?_)
  obtain ⟨hF1, p1, p2⟩ := hr1
  cases hp : pAll L x 301 0 T00 N00 0 with
  | inl s =>
    obtain ⟨rfl, hs⟩ := p1 s hp
    have hneg : (-10 : Int32) - nI s < 0 := by
      have : ∀ s, s < 301 → (-10 : Int32) - nI s < 0 := by decide +kernel
      exact this s (by omega)
    refine q_istore_1 hC dX9_town_7 ?_
    refine q_iload_n hC dX9_town_8 ?_
    refine q_if_ge hC 14 dX9_town_9 (by decide) (fun hb => ?_) (fun hb => ?_)
    · exact absurd hneg (Int32.not_lt.mpr hb)
    · refine q_iload_n hC dX9_town_12 ?_
      refine q_iret hC dX9_town_13 ?_
      refine ⟨fun s' e' => ?_, fun k T' N' e' => (by rw [hp] at e'; cases e')⟩
      rw [hp] at e'
      cases e'
      exact ⟨rfl, hR'.cache (hF1.L.mono (by decide)) (fun f hf B hB => by rw [hF1.c 37]; exact hKn f hf B hB) (hCh.go (hF1.c 39) (hF1.c 40) (hF1.c 41))⟩
  | inr z =>
    obtain ⟨k, T', N'⟩ := z
    obtain ⟨rfl, hk, hT1, hN1, hok', hNo'⟩ := p2 k T' N' hp
    refine q_istore_1 hC dX9_town_7 ?_
    refine q_iload_n hC dX9_town_8 ?_
    refine q_if_ge hC 14 dX9_town_9 (by decide) (fun hb => ?_) (fun hb => ?_)
    · refine q_aload_n hC dX9_town_14 ?_
      refine q_getR hC (by first | assumption | rfl) flX9_19 dX9_town_15 ?_
      refine q_aload_n hC dX9_town_18 ?_
      refine q_getR hC (by first | assumption | rfl) flX9_23 dX9_town_19 ?_
      refine q_callvV1 hC (by first | assumption | rfl) cvX9_108 dX9_town_22 (c_Town_become θ _ 4 11 twAt4 twAt11 (by omega) T' hT1 hok'.1 hok'.2.1) (by decide) (fun S2 hr2 => ?_)
      obtain ⟨hF2, hT2⟩ := hr2
      refine q_aload_n hC dX9_town_25 ?_
      refine q_getR hC (by first | assumption | rfl) flX9_29 dX9_town_26 ?_
      refine q_aload_n hC dX9_town_29 ?_
      refine q_getR hC (by first | assumption | rfl) flX9_33 dX9_town_30 ?_
      refine q_callvV1 hC (by first | assumption | rfl) cvX9_111 dX9_town_33 (c_Now_become θ _ 18 22 nowAt18 nowAt22 (by omega) N' (hN1.go (hF2.c 22) (hF2.c 23) (hF2.c 24) (hF2.c 25))) (by decide) (fun S3 hr3 => ?_)
      obtain ⟨hF3, hN3⟩ := hr3
      have loop : ∀ n i S4, i + n = 2 → Fr S3 S4 [35] → (∀ j, j < i → S4.1 35 j = nI 0) → K 38 [some (.ref (sA θ 0)), some (.int (nI k)), some (.int (nI i))] [] S4 := by
        intro n
        induction n with
        | zero =>
          intro i S4 hi hF4' g4
          have e : i = 2 := by omega
          subst e
          refine q_iload_n hC dX9_town_38 ?_
          refine q_iconst (v := nI 2) hC dX9_town_39 (by decide) ?_
          refine q_icmp_ge hC 56 dX9_town_40 (by decide) (fun hb2 => ?_) (fun hb2 => ?_)
          · refine q_aload_n hC dX9_town_56 ?_
            refine q_getR hC (by first | assumption | rfl) flX9_58 dX9_town_57 ?_
            refine q_callvV0 hC (by first | assumption | rfl) cvX9_114 dX9_town_60 (c_startAnew θ _ T' hok'.2.1) (by decide) (fun S5 hr5 => ?_)
            obtain ⟨hF5, hK5⟩ := hr5
            refine q_aload_n hC dX9_town_63 ?_
            refine q_getR hC (by first | assumption | rfl) flX9_67 dX9_town_64 ?_
            refine q_callvV0 hC (by first | assumption | rfl) cvX9_117 dX9_town_67 (c_choiceAnew θ _) (by decide) (fun S6 hr6 => ?_)
            subst hr6
            refine q_aload_n hC dX9_town_70 ?_
            refine q_getR hC (by first | assumption | rfl) flX9_10 dX9_town_71 ?_
            refine q_iconst (v := nI 0) hC dX9_town_74 (by decide) ?_
            refine q_putI hC (by first | assumption | rfl) fpX9_96 dX9_town_75 ?_
            refine q_iload_n hC dX9_town_78 ?_
            refine q_iret hC dX9_town_79 ?_
            refine ⟨fun s' e' => (by rw [hp] at e'; cases e'), fun k2 T2 N2 e' => ?_⟩
            rw [hp] at e'
            cases e'
            refine ⟨rfl, ⟨⟨by omega, hx.2.1, up_s, fun i hi => by omega⟩, ?_, ?_, ?_, ?_, ?_, ?_⟩, hok', hNo'⟩
            · refine hT2.go ?_ ?_ ?_ ?_ ?_ ?_ ?_ <;> rw [up_oc (by decide), up_oc (by decide)]
              · rw [hF5.c 4, hF4'.c 4, hF3.c 4]
              · rw [hF5.c 5, hF4'.c 5, hF3.c 5]
              · rw [hF5.c 6, hF4'.c 6, hF3.c 6]
              · rw [hF5.c 7, hF4'.c 7, hF3.c 7]
              · rw [hF5.c 8, hF4'.c 8, hF3.c 8]
              · rw [hF5.c 9, hF4'.c 9, hF3.c 9]
              · rw [hF5.c 10, hF4'.c 10, hF3.c 10]
            · refine hN3.go ?_ ?_ ?_ ?_ <;> rw [up_oc (by decide), up_oc (by decide)]
              · rw [hF5.c 18, hF4'.c 18]
              · rw [hF5.c 19, hF4'.c 19]
              · rw [hF5.c 20, hF4'.c 20]
              · rw [hF5.c 21, hF4'.c 21]
            · intro i hi
              refine ⟨fun _ => ?_, fun N9 e9 => (by cases e9)⟩
              rw [up_oc (by decide), up_oc (by decide), hF5.c 35]; exact g4 i hi
            · intro f hf B hB
              rw [up_oc (by decide), up_oc (by decide)]; exact hK5 f hf B hB
            · left
              rw [up_oc (by decide), up_s]
            · show S5.2 0 13 = tr
              rw [hF5.2, hF4'.2, hF3.2, hF2.2, hF1.2]; exact htr
          · exact absurd (by decide) hb2
        | succ n ih =>
          intro i S4 hi hF4' g4
          refine q_iload_n hC dX9_town_38 ?_
          refine q_iconst (v := nI 2) hC dX9_town_39 (by decide) ?_
          refine q_icmp_ge hC 56 dX9_town_40 (by decide) (fun hb2 => ?_) (fun hb2 => ?_)
          · exact absurd ((nI_leI (by omega) (by omega)).mp hb2) (by omega)
          · refine q_aload_n hC dX9_town_43 ?_
            refine q_getR hC (by first | assumption | rfl) flX9_49 dX9_town_44 ?_
            refine q_iload_n hC dX9_town_47 ?_
            refine q_iconst (v := nI 0) hC dX9_town_48 (by decide) ?_
            refine q_zastn hC (by first | assumption | rfl) (by first | assumption | omega) dX9_town_49 ?_
            refine q_inc1_2 hC dX9_town_50 ?_
            refine q_goto hC 38 dX9_town_53 (by decide) ?_
            refine ih (i + 1) _ (by omega) (hF4'.trans Fr.u1) (fun j hj => ?_)
            by_cases e : j = i
            · subst e; rw [up_s]; decide
            · rw [up_of e]; exact g4 j (by omega)
      refine q_iconst (v := nI 0) hC dX9_town_36 (by decide) ?_
      refine q_istore_2 hC dX9_town_37 ?_
      exact loop 2 0 S3 rfl Fr.rfl' (fun j hj => by omega)
    · exact absurd (nI_pos' (by omega)) hb
theorem x_piece (θ : Site) (S : St) (L : Nat) (x : Nat → Nat) (T : Tn) (N : Nw) (im : Nat → Option Nw) (tr : Int64) (hA : AOk T N im) (hR : RX S L x T N im tr) (p w : Int32) : Cti yX9_piece cX9_piece 3 (some .int) 20 θ shX [.ref (sA θ 0), .int p, .int w] S (fun r S' => r = sPiece T N p w ∧ RX S' L x T N im tr) := by
  obtain ⟨hok, hNo, hIm⟩ := hA
  have hR' := hR
  obtain ⟨hx, hT, hN, hI, hKn, hCh, htr⟩ := hR
  have h8 := hok.1
  have hF4 := hok.2.1
  refine Cti.mk (own := RX9) 0 [some (.ref (sA θ 0)), some (.int p), some (.int w)] (fun K hC => ?_)
  refine q_aload_n hC dX9_piece_0 ?_
  refine q_iload_n hC dX9_piece_1 ?_
  refine q_calliV1 hC (by first | assumption | rfl) cvX9_118 dX9_piece_2 (c_isPiece θ _ p T hok hT) (by decide) (fun r S1 hr => ?_)
  obtain ⟨rfl, rfl⟩ := hr
  cases hp : ixN p (tP T) with
  | none =>
    refine q_if_ne hC 10 dX9_piece_5 (by decide) (fun hb => ?_) (fun hb => ?_)
    · exact absurd rfl hb
    · refine q_iconst (v := (-1)) hC dX9_piece_8 (by decide) ?_
      refine q_iret hC dX9_piece_9 ?_
      exact ⟨by simp [sPiece, hp], hR'⟩
  | some q =>
    obtain ⟨hq, rfl⟩ := ixN_some (by omega) hp
    have hst := hN.2.2.1
    have hsl := stm_lt N
    have hbit : stm N / 2 ^ q % 2 = if nO N q = 5 then 1 else 0 := by unfold stm; rw [msk_bit]; simp [show q < 8 by omega]
    refine q_if_ne hC 10 dX9_piece_5 (by decide) (fun hb => ?_) (fun hb => ?_)
    · refine q_iload_n hC dX9_piece_10 ?_
      cases hw : ixN w 6 with
      | none =>
        refine q_tabOut hC 110 dX9_piece_11 (by have := ixN_none (by decide) hw; rw [Int32.lt_iff_toInt_lt, Int32.le_iff_toInt_le, nI_toInt (by omega), Int32.toInt_zero] at this; omega) (by decide) ?_
        refine q_iconst (v := (-1)) hC dX9_piece_110 (by decide) ?_
        refine q_iret hC dX9_piece_111 ?_
        exact ⟨by simp [sPiece, hp, hw], hR'⟩
      | some k =>
        obtain ⟨hk, rfl⟩ := ixN_some (by decide) hw
        rcases (show k = 0 ∨ k = 1 ∨ k = 2 ∨ k = 3 ∨ k = 4 ∨ k = 5 by omega) with rfl | rfl | rfl | rfl | rfl | rfl
        · refine q_tabIn hC (off := 37) 48 dX9_piece_11 (by decide) (by decide) (by decide) (by decide) ?_
          refine q_aload_n hC dX9_piece_48 ?_
          refine q_getR hC (by first | assumption | rfl) flX9_19 dX9_piece_49 ?_
          refine q_getR hC (by first | assumption | rfl) flX9_122 dX9_piece_52 ?_
          refine q_iload_n hC dX9_piece_55 ?_
          refine q_ialdn hC (by first | assumption | rfl) (by first | assumption | omega) dX9_piece_56 ?_
          rw [(hT.2.2.1 q hq).1]
          refine q_iret hC dX9_piece_57 ?_
          exact ⟨by simp [sPiece, hp, hw], hR'⟩
        · refine q_tabIn hC (off := 47) 58 dX9_piece_11 (by decide) (by decide) (by decide) (by decide) ?_
          refine q_aload_n hC dX9_piece_58 ?_
          refine q_getR hC (by first | assumption | rfl) flX9_19 dX9_piece_59 ?_
          refine q_getR hC (by first | assumption | rfl) flX9_126 dX9_piece_62 ?_
          refine q_iload_n hC dX9_piece_65 ?_
          refine q_ialdn hC (by first | assumption | rfl) (by first | assumption | omega) dX9_piece_66 ?_
          rw [(hT.2.2.1 q hq).2.1]
          refine q_iret hC dX9_piece_67 ?_
          exact ⟨by simp [sPiece, hp, hw], hR'⟩
        · refine q_tabIn hC (off := 57) 68 dX9_piece_11 (by decide) (by decide) (by decide) (by decide) ?_
          refine q_aload_n hC dX9_piece_68 ?_
          refine q_getR hC (by first | assumption | rfl) flX9_19 dX9_piece_69 ?_
          refine q_getR hC (by first | assumption | rfl) flX9_129 dX9_piece_72 ?_
          refine q_iload_n hC dX9_piece_75 ?_
          refine q_ialdn hC (by first | assumption | rfl) (by first | assumption | omega) dX9_piece_76 ?_
          rw [(hT.2.2.1 q hq).2.2]
          refine q_iret hC dX9_piece_77 ?_
          exact ⟨by simp [sPiece, hp, hw], hR'⟩
        · refine q_tabIn hC (off := 67) 78 dX9_piece_11 (by decide) (by decide) (by decide) (by decide) ?_
          refine q_aload_n hC dX9_piece_78 ?_
          refine q_getR hC (by first | assumption | rfl) flX9_29 dX9_piece_79 ?_
          refine q_getR hC (by first | assumption | rfl) flX9_132 dX9_piece_82 ?_
          refine q_iload_n hC dX9_piece_85 ?_
          refine q_ialdn hC (by first | assumption | rfl) (by first | assumption | omega) dX9_piece_86 ?_
          rw [hN.1 q (by omega)]
          refine q_iret hC dX9_piece_87 ?_
          exact ⟨by simp [sPiece, hp, hw], hR'⟩
        · refine q_tabIn hC (off := 77) 88 dX9_piece_11 (by decide) (by decide) (by decide) (by decide) ?_
          refine q_aload_n hC dX9_piece_88 ?_
          refine q_getR hC (by first | assumption | rfl) flX9_29 dX9_piece_89 ?_
          refine q_getI hC (by first | assumption | rfl) flX9_135 dX9_piece_92 ?_
          rw [hst]
          refine q_iload_n hC dX9_piece_95 ?_
          refine q_ishr hC dX9_piece_96 ?_
          refine q_iconst (v := nI 1) hC dX9_piece_97 (by decide) ?_
          refine q_iand hC dX9_piece_98 ?_
          rw [bit_n (by omega) (by omega), hbit]
          refine q_iret hC dX9_piece_99 ?_
          exact ⟨by simp [sPiece, hp, hw], hR'⟩
        · refine q_tabIn hC (off := 89) 100 dX9_piece_11 (by decide) (by decide) (by decide) (by decide) ?_
          refine q_aload_n hC dX9_piece_100 ?_
          refine q_getR hC (by first | assumption | rfl) flX9_29 dX9_piece_101 ?_
          refine q_getR hC (by first | assumption | rfl) flX9_138 dX9_piece_104 ?_
          refine q_iload_n hC dX9_piece_107 ?_
          refine q_ialdn hC (by first | assumption | rfl) (by first | assumption | omega) dX9_piece_108 ?_
          rw [hN.2.1 q (by omega)]
          refine q_iret hC dX9_piece_109 ?_
          exact ⟨by simp [sPiece, hp, hw], hR'⟩
    · exact absurd hb (show ¬ nI 1 = 0 by decide)
theorem x_family (θ : Site) (S : St) (L : Nat) (x : Nat → Nat) (T : Tn) (N : Nw) (im : Nat → Option Nw) (tr : Int64) (hA : AOk T N im) (hR : RX S L x T N im tr) (f w : Int32) : Cti yX9_family cX9_family 3 (some .int) 20 θ shX [.ref (sA θ 0), .int f, .int w] S (fun r S' => r = sFamily T N f w ∧ RX S' L x T N im tr) := by
  obtain ⟨hok, hNo, hIm⟩ := hA
  have hR' := hR
  obtain ⟨hx, hT, hN, hI, hKn, hCh, htr⟩ := hR
  have h8 := hok.1
  have hF4 := hok.2.1
  refine Cti.mk (own := RX9) 0 [some (.ref (sA θ 0)), some (.int f), some (.int w)] (fun K hC => ?_)
  refine q_aload_n hC dX9_family_0 ?_
  refine q_iload_n hC dX9_family_1 ?_
  refine q_calliV1 hC (by first | assumption | rfl) cvX9_141 dX9_family_2 (c_isFamily θ _ f T hok hT) (by decide) (fun r S1 hr => ?_)
  obtain ⟨rfl, rfl⟩ := hr
  cases hp : ixN f (tF T) with
  | none =>
    refine q_if_ne hC 10 dX9_family_5 (by decide) (fun hb => ?_) (fun hb => ?_)
    · exact absurd rfl hb
    · refine q_iconst (v := (-1)) hC dX9_family_8 (by decide) ?_
      refine q_iret hC dX9_family_9 ?_
      exact ⟨by simp [sFamily, hp], hR'⟩
  | some q =>
    obtain ⟨hq, rfl⟩ := ixN_some (by omega) hp
    refine q_if_ne hC 10 dX9_family_5 (by decide) (fun hb => ?_) (fun hb => ?_)
    · refine q_iload_n hC dX9_family_10 ?_
      cases hw : ixN w 4 with
      | none =>
        refine q_tabOut hC 82 dX9_family_11 (by have := ixN_none (by decide) hw; rw [Int32.lt_iff_toInt_lt, Int32.le_iff_toInt_le, nI_toInt (by omega), Int32.toInt_zero] at this; omega) (by decide) ?_
        refine q_iconst (v := (-1)) hC dX9_family_82 (by decide) ?_
        refine q_iret hC dX9_family_83 ?_
        exact ⟨by simp [sFamily, hp, hw], hR'⟩
      | some k =>
        obtain ⟨hk, rfl⟩ := ixN_some (by decide) hw
        rcases (show k = 0 ∨ k = 1 ∨ k = 2 ∨ k = 3 by omega) with rfl | rfl | rfl | rfl
        · refine q_tabIn hC (off := 29) 40 dX9_family_11 (by decide) (by decide) (by decide) (by decide) ?_
          refine q_aload_n hC dX9_family_40 ?_
          refine q_getR hC (by first | assumption | rfl) flX9_19 dX9_family_41 ?_
          refine q_getR hC (by first | assumption | rfl) flX9_144 dX9_family_44 ?_
          refine q_iload_n hC dX9_family_47 ?_
          refine q_ialdn hC (by first | assumption | rfl) (by first | assumption | omega) dX9_family_48 ?_
          rw [(hT.2.2.2 q hq).1]
          refine q_iret hC dX9_family_49 ?_
          exact ⟨by simp [sFamily, hp, hw], hR'⟩
        · refine q_tabIn hC (off := 39) 50 dX9_family_11 (by decide) (by decide) (by decide) (by decide) ?_
          refine q_aload_n hC dX9_family_50 ?_
          refine q_getR hC (by first | assumption | rfl) flX9_19 dX9_family_51 ?_
          refine q_getR hC (by first | assumption | rfl) flX9_147 dX9_family_54 ?_
          refine q_iload_n hC dX9_family_57 ?_
          refine q_ialdn hC (by first | assumption | rfl) (by first | assumption | omega) dX9_family_58 ?_
          rw [(hT.2.2.2 q hq).2.1]
          refine q_iret hC dX9_family_59 ?_
          exact ⟨by simp [sFamily, hp, hw], hR'⟩
        · refine q_tabIn hC (off := 49) 60 dX9_family_11 (by decide) (by decide) (by decide) (by decide) ?_
          refine q_aload_n hC dX9_family_60 ?_
          refine q_getR hC (by first | assumption | rfl) flX9_19 dX9_family_61 ?_
          refine q_getR hC (by first | assumption | rfl) flX9_150 dX9_family_64 ?_
          refine q_iload_n hC dX9_family_67 ?_
          refine q_ialdn hC (by first | assumption | rfl) (by first | assumption | omega) dX9_family_68 ?_
          rw [(hT.2.2.2 q hq).2.2]
          refine q_iret hC dX9_family_69 ?_
          exact ⟨by simp [sFamily, hp, hw], hR'⟩
        · refine q_tabIn hC (off := 59) 70 dX9_family_11 (by decide) (by decide) (by decide) (by decide) ?_
          refine q_aload_n hC dX9_family_70 ?_
          refine q_getR hC (by first | assumption | rfl) flX9_29 dX9_family_71 ?_
          refine q_iload_n hC dX9_family_74 ?_
          refine q_calliV1 hC (by first | assumption | rfl) cvX9_153 dX9_family_75 (c_ownedBy θ _ 18 q N nowAt18 hN (by omega)) (by decide) (fun r S1 hr => ?_)
          obtain ⟨rfl, rfl⟩ := hr
          refine q_calliS1 hC csX9_157 dX9_family_78 (c_bitCount θ shX _ _ (owm_lt N q)) (by decide) (fun r S1 hr => ?_)
          obtain ⟨rfl, rfl⟩ := hr
          refine q_iret hC dX9_family_81 ?_
          exact ⟨by simp [sFamily, hp, hw], hR'⟩
    · exact absurd hb (show ¬ nI 1 = 0 by decide)
