theorem OwR.of {S : St} {N : Nw} (h : NwR S 18 N) : OwR S 19 (nO N) := fun p hp => h.1 p hp
theorem OwOk.of {T : Tn} {N : Nw} (h : NwOk T N) : OwOk T (nO N) := fun p hp => (h.1 p).2.2 hp
theorem ChOk.of {S : St} {T : Tn} {w st : Nat} {s : S3} (hw : w ≤ 2) (hst : st < 256) (hc : ChR S s) (hr : CRes T w st s) (h2 : S.1 39 2 = nI w) (h3 : S.1 39 3 = nI st) : ChOk S T := Or.inr ⟨w, st, s, hw, hst, h2, h3, hc, hr⟩
theorem chA_ix {f : Int32} {n : Nat} (hn : n ≤ 8) (h : f = -1 ∨ (ixN f n).isSome = true) : f = -1 ∨ ∃ j, j < 8 ∧ f = nI j := by
  rcases h with h | h
  · exact Or.inl h
  · cases hi : ixN f n with
    | none => rw [hi] at h; cases h
    | some j =>
      obtain ⟨h1, h2⟩ := ixN_some (by omega) hi
      exact Or.inr ⟨j, by omega, h2⟩
theorem or_le256 (a : Nat) (g : Nat → Bool) {n : Nat} (ha : a < 256) (hn : n ≤ 8) : a ||| msk g n < 256 := or_lt256 ha (Nat.lt_of_lt_of_le (msk_lt g n) (Nat.pow_le_pow_right (n := 2) (by omega) hn))
theorem x_one (θ : Site) (S : St) (L : Nat) (x : Nat → Nat) (T : Tn) (N : Nw) (im : Nat → Option Nw) (tr : Int64) (hA : AOk T N im) (hR : RX S L x T N im tr) (z : Int32) (f : Int32) : Cti yX9_one cX9_one 3 (some .int) 20 θ shX [.ref (sA θ 0), .int z, .int f] S (fun r S' => oAns T N z f r ∧ RX S' L x T N im tr) := by
  obtain ⟨hok, hNo, hIm⟩ := hA
  have hR' := hR
  obtain ⟨hx, hT, hN, hI, hKn, hCh, htr⟩ := hR
  have h8 := hok.1
  have hF4 := hok.2.1
  refine Cti.mk (own := RX9) 0 [some (.ref (sA θ 0)), some (.int z), some (.int f)] (fun K hC => ?_)
  have bad : oAns T N z f (-1) → K 22 [some (.ref (sA θ 0)), some (.int z), some (.int f)] [] S := by
    intro e
    refine q_iconst (v := (-1)) hC dX9_one_22 (by decide) ?_
    refine q_iret hC dX9_one_23 ?_
    exact ⟨e, hR'⟩
  have good : ∀ k, k < 2 → ixN z 2 = some k → z = nI k → (f = -1 ∨ (ixN f (tF T)).isSome = true) → K 24 [some (.ref (sA θ 0)), some (.int z), some (.int f)] [] S := by
    intro k hk hz hzk hf
    have tail : K 37 [some (.ref (sA θ 0)), some (.int z), some (.int f)] [.int (nI k), .ref (sA θ 39)] S := by
      refine q_aload_n hC dX9_one_37 ?_
      refine q_getR hC (by first | assumption | rfl) flX9_29 dX9_one_38 ?_
      refine q_getI hC (by first | assumption | rfl) flX9_135 dX9_one_41 ?_
      rw [hN.2.2.1]
      refine q_callvV2 hC (by first | assumption | rfl) cvX9_197 dX9_one_44 (c_seek θ _ k (stm N) T hok hT hKn hCh (by omega) (stm_lt N)) (by decide) (fun S1 hr1 => ?_)
      obtain ⟨hF1, hK1, s, hc1, hcr, q2, q3⟩ := hr1
      have hle := CRes_le hcr
      refine q_aload_n hC dX9_one_47 ?_
      refine q_iload_n hC dX9_one_48 ?_
      refine q_calliV1 hC (by first | assumption | rfl) cvX9_201 dX9_one_49 (c_chosen θ _ f 0 s hc1 hle (chA_ix (by omega) hf)) (by decide) (fun r2 S2 hr2 => ?_)
      obtain ⟨rfl, rfl⟩ := hr2
      refine q_iret hC dX9_one_52 ?_
      refine ⟨?_, hR'.cache (hF1.L.mono (by decide)) hK1 (ChOk.of (by omega) (stm_lt N) hc1 hcr q2 q3)⟩
      unfold oAns
      rw [hz]
      show cAns T k (stm N) (tF T) f _
      unfold cAns
      rw [if_pos hf]
      exact ⟨s, hcr, rfl⟩
    subst hzk
    rcases (show k = 0 ∨ k = 1 by omega) with rfl | rfl
    · refine q_aload_n hC dX9_one_24 ?_
      refine q_getR hC (by first | assumption | rfl) flX9_67 dX9_one_25 ?_
      refine q_iload_n hC dX9_one_28 ?_
      refine q_if_ne hC 36 dX9_one_29 (by decide) (fun hb => ?_) (fun hb => ?_)
      · exact absurd rfl hb
      · refine q_iconst (v := nI 0) hC dX9_one_32 (by decide) ?_
        refine q_goto hC 37 dX9_one_33 (by decide) ?_
        exact tail
    · refine q_aload_n hC dX9_one_24 ?_
      refine q_getR hC (by first | assumption | rfl) flX9_67 dX9_one_25 ?_
      refine q_iload_n hC dX9_one_28 ?_
      refine q_if_ne hC 36 dX9_one_29 (by decide) (fun hb => ?_) (fun hb => ?_)
      · refine q_iconst (v := nI 1) hC dX9_one_36 (by decide) ?_
        exact tail
      · exact absurd hb (by decide)
  cases hz : ixN z 2 with
  | none =>
    have hbz : oAns T N z f (-1) := by unfold oAns; rw [hz]
    have hzz := ixN_none (by decide) hz
    refine q_iload_n hC dX9_one_0 ?_
    refine q_if_lt hC 22 dX9_one_1 (by decide) (fun hb => ?_) (fun hb => ?_)
    · exact bad hbz
    · refine q_iload_n hC dX9_one_4 ?_
      refine q_iconst (v := nI 1) hC dX9_one_5 (by decide) ?_
      refine q_icmp_gt hC 22 dX9_one_6 (by decide) (fun hb2 => ?_) (fun hb2 => ?_)
      · exact bad hbz
      · rcases hzz with q1 | q1
        · exact absurd q1 hb
        · exact absurd (Int32.lt_of_lt_of_le (show nI 1 < nI 2 by decide) q1) hb2
  | some k =>
    obtain ⟨hk, hzk⟩ := ixN_some (by decide) hz
    subst hzk
    refine q_iload_n hC dX9_one_0 ?_
    refine q_if_lt hC 22 dX9_one_1 (by decide) (fun hb => ?_) (fun hb => ?_)
    · exact absurd hb (nI_pos (by omega))
    · refine q_iload_n hC dX9_one_4 ?_
      refine q_iconst (v := nI 1) hC dX9_one_5 (by decide) ?_
      refine q_icmp_gt hC 22 dX9_one_6 (by decide) (fun hb2 => ?_) (fun hb2 => ?_)
      · exact absurd ((nI_ltI (by omega) (by omega)).mp hb2) (by omega)
      · refine q_iload_n hC dX9_one_9 ?_
        refine q_iconst (v := (-1)) hC dX9_one_10 (by decide) ?_
        refine q_icmp_eq hC 24 dX9_one_11 (by decide) (fun hb3 => ?_) (fun hb3 => ?_)
        · exact good k hk hz rfl (Or.inl hb3)
        · refine q_aload_n hC dX9_one_14 ?_
          refine q_iload_n hC dX9_one_15 ?_
          refine q_calliV1 hC (by first | assumption | rfl) cvX9_141 dX9_one_16 (c_isFamily θ _ f T hok hT) (by decide) (fun r S1 hr => ?_)
          obtain ⟨rfl, rfl⟩ := hr
          by_cases hf : (ixN f (tF T)).isSome = true
          · rw [if_pos hf]
            refine q_if_ne hC 24 dX9_one_19 (by decide) (fun hb4 => ?_) (fun hb4 => ?_)
            · exact good k hk hz rfl (Or.inr hf)
            · exact absurd hb4 (by decide)
          · rw [if_neg hf]
            refine q_if_ne hC 24 dX9_one_19 (by decide) (fun hb4 => ?_) (fun hb4 => ?_)
            · exact absurd rfl hb4
            · refine bad ?_
              unfold oAns
              rw [hz]
              show cAns T k (stm N) (tF T) f (-1)
              unfold cAns
              rw [if_neg (fun q => q.elim hb3 hf)]
theorem x_all (θ : Site) (S : St) (L : Nat) (x : Nat → Nat) (T : Tn) (N : Nw) (im : Nat → Option Nw) (tr : Int64) (hA : AOk T N im) (hR : RX S L x T N im tr) (f : Int32) : Cti yX9_all cX9_all 2 (some .int) 20 θ shX [.ref (sA θ 0), .int f] S (fun r S' => cAns T 2 (stm N) (tP T) f r ∧ RX S' L x T N im tr) := by
  obtain ⟨hok, hNo, hIm⟩ := hA
  have hR' := hR
  obtain ⟨hx, hT, hN, hI, hKn, hCh, htr⟩ := hR
  have h8 := hok.1
  have hF4 := hok.2.1
  refine Cti.mk (own := RX9) 0 [some (.ref (sA θ 0)), some (.int f)] (fun K hC => ?_)
  have good : (f = -1 ∨ (ixN f (tP T)).isSome = true) → K 15 [some (.ref (sA θ 0)), some (.int f)] [] S := by
    intro hf
    refine q_aload_n hC dX9_all_15 ?_
    refine q_getR hC (by first | assumption | rfl) flX9_67 dX9_all_16 ?_
    refine q_iconst (v := nI 2) hC dX9_all_19 (by decide) ?_
    refine q_aload_n hC dX9_all_20 ?_
    refine q_getR hC (by first | assumption | rfl) flX9_29 dX9_all_21 ?_
    refine q_getI hC (by first | assumption | rfl) flX9_135 dX9_all_24 ?_
    rw [hN.2.2.1]
    refine q_callvV2 hC (by first | assumption | rfl) cvX9_197 dX9_all_27 (c_seek θ _ 2 (stm N) T hok hT hKn hCh (by omega) (stm_lt N)) (by decide) (fun S1 hr1 => ?_)
    obtain ⟨hF1, hK1, s, hc1, hcr, q2, q3⟩ := hr1
    have hle := CRes_le hcr
    refine q_aload_n hC dX9_all_30 ?_
    refine q_iload_n hC dX9_all_31 ?_
    refine q_calliV1 hC (by first | assumption | rfl) cvX9_201 dX9_all_32 (c_chosen θ _ f 0 s hc1 hle (chA_ix h8 hf)) (by decide) (fun r2 S2 hr2 => ?_)
    obtain ⟨rfl, rfl⟩ := hr2
    refine q_iret hC dX9_all_35 ?_
    refine ⟨?_, hR'.cache (hF1.L.mono (by decide)) hK1 (ChOk.of (by omega) (stm_lt N) hc1 hcr q2 q3)⟩
    unfold cAns
    rw [if_pos hf]
    exact ⟨s, hcr, rfl⟩
  refine q_iload_n hC dX9_all_0 ?_
  refine q_iconst (v := (-1)) hC dX9_all_1 (by decide) ?_
  refine q_icmp_eq hC 15 dX9_all_2 (by decide) (fun hb => ?_) (fun hb => ?_)
  · exact good (Or.inl hb)
  · refine q_aload_n hC dX9_all_5 ?_
    refine q_iload_n hC dX9_all_6 ?_
    refine q_calliV1 hC (by first | assumption | rfl) cvX9_118 dX9_all_7 (c_isPiece θ _ f T hok hT) (by decide) (fun r S1 hr => ?_)
    obtain ⟨rfl, rfl⟩ := hr
    by_cases hf : (ixN f (tP T)).isSome = true
    · rw [if_pos hf]
      refine q_if_ne hC 15 dX9_all_10 (by decide) (fun hb4 => ?_) (fun hb4 => ?_)
      · exact good (Or.inr hf)
      · exact absurd hb4 (by decide)
    · rw [if_neg hf]
      refine q_if_ne hC 15 dX9_all_10 (by decide) (fun hb4 => ?_) (fun hb4 => ?_)
      · exact absurd rfl hb4
      · refine q_iconst (v := (-1)) hC dX9_all_13 (by decide) ?_
        refine q_iret hC dX9_all_14 ?_
        refine ⟨?_, hR'⟩
        unfold cAns
        rw [if_neg (fun q => q.elim hb hf)]
theorem x_change (θ : Site) (S : St) (L : Nat) (x : Nat → Nat) (T : Tn) (N : Nw) (im : Nat → Option Nw) (tr : Int64) (hA : AOk T N im) (hR : RX S L x T N im tr)  : Cti yX9_change cX9_change 1 (some .int) 20 θ shX [.ref (sA θ 0)] S (fun r S' => r = oNone (chg T (nO N)) ∧ RX S' L x T N im tr) := by
  obtain ⟨hok, hNo, hIm⟩ := hA
  have hR' := hR
  obtain ⟨hx, hT, hN, hI, hKn, hCh, htr⟩ := hR
  have h8 := hok.1
  have hF4 := hok.2.1
  refine Cti.mk (own := RX9) 0 [some (.ref (sA θ 0))] (fun K hC => ?_)
  refine q_aload_n hC dX9_change_0 ?_
  refine q_getR hC (by first | assumption | rfl) flX9_74 dX9_change_1 ?_
  refine q_aload_n hC dX9_change_4 ?_
  refine q_getR hC (by first | assumption | rfl) flX9_29 dX9_change_5 ?_
  refine q_getR hC (by first | assumption | rfl) flX9_132 dX9_change_8 ?_
  refine q_calliV1 hC (by first | assumption | rfl) cvX9_204 dX9_change_11 (c_firstOf θ _ 19 (nO N) T rfl (by decide) hok hT hKn (OwR.of hN) (OwOk.of hNo)) (by decide) (fun r1 S1 hr1 => ?_)
  obtain ⟨rfl, hF1, hK1⟩ := hr1
  refine q_iret hC dX9_change_14 ?_
  exact ⟨rfl, hR'.ways hF1 hK1⟩
theorem x_rest (θ : Site) (S : St) (L : Nat) (x : Nat → Nat) (T : Tn) (N : Nw) (im : Nat → Option Nw) (tr : Int64) (hA : AOk T N im) (hR : RX S L x T N im tr)  : Cti yX9_rest cX9_rest 1 (some .int) 20 θ shX [.ref (sA θ 0)] S (fun r S' => r = nI (rs T (nO N)) ∧ RX S' L x T N im tr) := by
  obtain ⟨hok, hNo, hIm⟩ := hA
  have hR' := hR
  obtain ⟨hx, hT, hN, hI, hKn, hCh, htr⟩ := hR
  have h8 := hok.1
  have hF4 := hok.2.1
  refine Cti.mk (own := RX9) 0 [some (.ref (sA θ 0))] (fun K hC => ?_)
  refine q_aload_n hC dX9_rest_0 ?_
  refine q_getR hC (by first | assumption | rfl) flX9_74 dX9_rest_1 ?_
  refine q_aload_n hC dX9_rest_4 ?_
  refine q_getR hC (by first | assumption | rfl) flX9_29 dX9_rest_5 ?_
  refine q_getR hC (by first | assumption | rfl) flX9_132 dX9_rest_8 ?_
  refine q_calliV1 hC (by first | assumption | rfl) cvX9_208 dX9_rest_11 (c_numberOf θ _ 19 (nO N) T rfl hok hT hKn (OwR.of hN) (OwOk.of hNo)) (by decide) (fun r1 S1 hr1 => ?_)
  obtain ⟨rfl, hF1, hK1⟩ := hr1
  refine q_iret hC dX9_rest_14 ?_
  exact ⟨rfl, hR'.cache (hF1.L.mono (by decide)) hK1 (hCh.go (hF1.c 39) (hF1.c 40) (hF1.c 41))⟩
theorem x_match (θ : Site) (S : St) (L : Nat) (x : Nat → Nat) (T : Tn) (N : Nw) (im : Nat → Option Nw) (tr : Int64) (hA : AOk T N im) (hR : RX S L x T N im tr) (f : Int32) (g : Int32) : Cti yX9_match cX9_match 6 (some .int) 20 θ shX [.ref (sA θ 0), .int f, .int g] S (fun r S' => r = sMatch T N f g ∧ RX S' L x T N im tr) := by
  obtain ⟨hok, hNo, hIm⟩ := hA
  have hR' := hR
  obtain ⟨hx, hT, hN, hI, hKn, hCh, htr⟩ := hR
  have h8 := hok.1
  have hF4 := hok.2.1
  refine Cti.mk (own := RX9) 3 [some (.ref (sA θ 0)), some (.int f), some (.int g), none, none, none] (fun K hC => ?_)
  have bad : sMatch T N f g = -1 → K 21 [some (.ref (sA θ 0)), some (.int f), some (.int g), none, none, none] [] S := by
    intro e
    refine q_iconst (v := (-1)) hC dX9_match_21 (by decide) ?_
    refine q_iret hC dX9_match_22 ?_
    exact ⟨by rw [e], hR'⟩
  refine q_aload_n hC dX9_match_0 ?_
  refine q_iload_n hC dX9_match_1 ?_
  refine q_calliV1 hC (by first | assumption | rfl) cvX9_141 dX9_match_2 (c_isFamily θ _ f T hok hT) (by decide) (fun r S1 hr => ?_)
  obtain ⟨rfl, rfl⟩ := hr
  cases hf : ixN f (tF T) with
  | none =>
    refine q_if_eq hC 21 dX9_match_5 (by decide) (fun hb => ?_) (fun hb => ?_)
    · exact bad (by simp [sMatch, hf])
    · exact absurd rfl hb
  | some a =>
    obtain ⟨ha, rfl⟩ := ixN_some (by omega) hf
    refine q_if_eq hC 21 dX9_match_5 (by decide) (fun hb => ?_) (fun hb => ?_)
    · exact absurd hb (show ¬ nI 1 = 0 by decide)
    · refine q_aload_n hC dX9_match_8 ?_
      refine q_iload_n hC dX9_match_9 ?_
      refine q_calliV1 hC (by first | assumption | rfl) cvX9_141 dX9_match_10 (c_isFamily θ _ g T hok hT) (by decide) (fun r S1 hr => ?_)
      obtain ⟨rfl, rfl⟩ := hr
      cases hg : ixN g (tF T) with
      | none =>
        refine q_if_eq hC 21 dX9_match_13 (by decide) (fun hb2 => ?_) (fun hb2 => ?_)
        · exact bad (by simp [sMatch, hg])
        · exact absurd rfl hb2
      | some b =>
        obtain ⟨hbF, rfl⟩ := ixN_some (by omega) hg
        refine q_if_eq hC 21 dX9_match_13 (by decide) (fun hb2 => ?_) (fun hb2 => ?_)
        · exact absurd hb2 (show ¬ nI 1 = 0 by decide)
        · refine q_iload_n hC dX9_match_16 ?_
          refine q_iload_n hC dX9_match_17 ?_
          refine q_icmp_ne hC 23 dX9_match_18 (by decide) (fun hb3 => ?_) (fun hb3 => ?_)
          · have hne : ¬ a = b := fun q => hb3 (by rw [q])
            have o1 := owm_lt N a
            have o2 := owm_lt N b
            have oo := or_lt256 o1 o2
            have y1 : yc T a (owm N a ||| owm N b) ≤ 900000 := yN_le hok ha _
            have y2 : yc T b (owm N a ||| owm N b) ≤ 900000 := yN_le hok hbF _
            refine q_aload_n hC dX9_match_23 ?_
            refine q_getR hC (by first | assumption | rfl) flX9_29 dX9_match_24 ?_
            refine q_iload_n hC dX9_match_27 ?_
            refine q_calliV1 hC (by first | assumption | rfl) cvX9_153 dX9_match_28 (c_ownedBy θ _ 18 a N nowAt18 hN (by omega)) (by decide) (fun r S1 hr => ?_)
            obtain ⟨rfl, rfl⟩ := hr
            refine q_istore_3 hC dX9_match_31 ?_
            refine q_aload_n hC dX9_match_32 ?_
            refine q_getR hC (by first | assumption | rfl) flX9_29 dX9_match_33 ?_
            refine q_iload_n hC dX9_match_36 ?_
            refine q_calliV1 hC (by first | assumption | rfl) cvX9_153 dX9_match_37 (c_ownedBy θ _ 18 b N nowAt18 hN (by omega)) (by decide) (fun r S1 hr => ?_)
            obtain ⟨rfl, rfl⟩ := hr
            refine q_istore_4 hC dX9_match_40 ?_
            refine q_aload_n hC dX9_match_42 ?_
            refine q_getR hC (by first | assumption | rfl) flX9_58 dX9_match_43 ?_
            refine q_iload_n hC dX9_match_46 ?_
            refine q_iload_n hC dX9_match_47 ?_
            refine q_iload hC dX9_match_48 ?_
            refine q_ior hC dX9_match_50 ?_
            rw [or_n]
            refine q_calliV2 hC (by first | assumption | rfl) cvX9_211 dX9_match_51 (c_cost θ _ a _ T hok hT hKn ha oo) (by decide) (fun r1 S1 hr1 => ?_)
            obtain ⟨rfl, hF1, hK1⟩ := hr1
            have hT1 := hT.fr4 hF1 rfl
            refine q_aload_n hC dX9_match_54 ?_
            refine q_getR hC (by first | assumption | rfl) flX9_58 dX9_match_55 ?_
            refine q_iload_n hC dX9_match_58 ?_
            refine q_iload_n hC dX9_match_59 ?_
            refine q_iload hC dX9_match_60 ?_
            refine q_ior hC dX9_match_62 ?_
            rw [or_n]
            refine q_calliV2 hC (by first | assumption | rfl) cvX9_211 dX9_match_63 (c_cost θ _ b _ T hok hT1 hK1 hbF oo) (by decide) (fun r2 S2 hr2 => ?_)
            obtain ⟨rfl, hF2, hK2⟩ := hr2
            have hF12 := hF1.trans hF2
            have hT2 := hT.fr4 hF12 rfl
            refine q_iadd hC dX9_match_66 ?_
            rw [nI_add]
            refine q_istore_5 hC dX9_match_67 ?_
            refine q_iload hC dX9_match_69 ?_
            refine q_ldc hC kcX9_196 dX9_match_71 ?_
            refine q_icmp_lt hC 79 dX9_match_73 (by decide) (fun hb4 => ?_) (fun hb4 => ?_)
            · have h9 : yc T a (owm N a ||| owm N b) + yc T b (owm N a ||| owm N b) < 100000 := (nI_ltI (by unfold yc at *; omega) (by omega)).mp hb4
              refine q_iload hC dX9_match_79 ?_
              refine q_aload_n hC dX9_match_81 ?_
              refine q_getR hC (by first | assumption | rfl) flX9_58 dX9_match_82 ?_
              refine q_iload_n hC dX9_match_85 ?_
              refine q_iload_n hC dX9_match_86 ?_
              refine q_calliV2 hC (by first | assumption | rfl) cvX9_211 dX9_match_87 (c_cost θ _ a _ T hok hT2 hK2 ha o1) (by decide) (fun r3 S3 hr3 => ?_)
              obtain ⟨rfl, hF3, hK3⟩ := hr3
              have hF13 := hF12.trans hF3
              have hT3 := hT.fr4 hF13 rfl
              refine q_isub hC dX9_match_90 ?_
              refine q_aload_n hC dX9_match_91 ?_
              refine q_getR hC (by first | assumption | rfl) flX9_58 dX9_match_92 ?_
              refine q_iload_n hC dX9_match_95 ?_
              refine q_iload hC dX9_match_96 ?_
              refine q_calliV2 hC (by first | assumption | rfl) cvX9_211 dX9_match_98 (c_cost θ _ b _ T hok hT3 hK3 hbF o2) (by decide) (fun r4 S4 hr4 => ?_)
              obtain ⟨rfl, hF4', hK4⟩ := hr4
              refine q_isub hC dX9_match_101 ?_
              refine q_iret hC dX9_match_102 ?_
              exact ⟨by simp [sMatch, hf, hg, hne, h9]; rfl, hR'.ways (hF13.trans hF4') hK4⟩
            · have h9 : ¬ yc T a (owm N a ||| owm N b) + yc T b (owm N a ||| owm N b) < 100000 := fun q => hb4 (nI_lt q (by omega))
              refine q_bipush (v := (-9)) hC dX9_match_76 (by decide) ?_
              refine q_iret hC dX9_match_78 ?_
              exact ⟨by simp [sMatch, hf, hg, hne, h9], hR'.ways hF12 hK2⟩
          · have hne : a = b := nI_small (by omega) (by omega) hb3
            exact bad (by simp [sMatch, hf, hg, hne])
theorem x_always (θ : Site) (S : St) (L : Nat) (x : Nat → Nat) (T : Tn) (N : Nw) (im : Nat → Option Nw) (tr : Int64) (hA : AOk T N im) (hR : RX S L x T N im tr)  : Cti yX9_always cX9_always 3 (some .int) 20 θ shX [.ref (sA θ 0)] S (fun r S' => r = sAlways T N ∧ RX S' L x T N im tr) := by
  obtain ⟨hok, hNo, hIm⟩ := hA
  have hR' := hR
  obtain ⟨hx, hT, hN, hI, hKn, hCh, htr⟩ := hR
  have h8 := hok.1
  have hF4 := hok.2.1
  refine Cti.mk (own := RX9) 2 [some (.ref (sA θ 0)), none, none] (fun K hC => ?_)
  have loop : ∀ n f m S1, f + n = tF T → m < 256 → Fr S S1 [37, 38] → KnR S1 T → alS T (stm N) f = some m → K 10 [some (.ref (sA θ 0)), some (.int (nI m)), some (.int (nI f))] [] S1 := by
    intro n
    induction n with
    | zero =>
      intro f m S1 hf hm hF1 hK1 ha
      have e : f = tF T := by omega
      subst e
      have hT1 := hT.fr4 hF1 rfl
      refine q_iload_n hC dX9_always_10 ?_
      refine q_aload_n hC dX9_always_11 ?_
      refine q_getR hC (by first | assumption | rfl) flX9_19 dX9_always_12 ?_
      refine q_getI hC (by first | assumption | rfl) flX9_188 dX9_always_15 ?_
      rw [hT1.2.1]
      refine q_icmp_ge hC 55 dX9_always_18 (by decide) (fun hb => ?_) (fun hb => ?_)
      · refine q_iload_n hC dX9_always_55 ?_
        refine q_iret hC dX9_always_56 ?_
        exact ⟨by unfold sAlways; rw [ha]; rfl, hR'.ways hF1 hK1⟩
      · exact absurd (nI_le (Nat.le_refl _) (by omega)) hb
    | succ n ih =>
      intro f m S1 hf hm hF1 hK1 ha
      have hT1 := hT.fr4 hF1 rfl
      have hyb := yd_bd hok f 0
      have hs := alS_s ha
      refine q_iload_n hC dX9_always_10 ?_
      refine q_aload_n hC dX9_always_11 ?_
      refine q_getR hC (by first | assumption | rfl) flX9_19 dX9_always_12 ?_
      refine q_getI hC (by first | assumption | rfl) flX9_188 dX9_always_15 ?_
      rw [hT1.2.1]
      refine q_icmp_ge hC 55 dX9_always_18 (by decide) (fun hb => ?_) (fun hb => ?_)
      · exact absurd ((nI_leI (by omega) (by omega)).mp hb) (by omega)
      · refine q_aload_n hC dX9_always_21 ?_
        refine q_getR hC (by first | assumption | rfl) flX9_58 dX9_always_22 ?_
        refine q_iload_n hC dX9_always_25 ?_
        refine q_iconst (v := nI 0) hC dX9_always_26 (by decide) ?_
        refine q_calliV2 hC (by first | assumption | rfl) cvX9_185 dX9_always_27 (c_yards θ _ f 0 T hok hT1 hK1 (by omega) (by omega)) (by decide) (fun r2 S2 hr2 => ?_)
        obtain ⟨rfl, hF2, hK2⟩ := hr2
        have hF12 := hF1.trans hF2
        have hT2 := hT.fr4 hF12 rfl
        refine q_ldc hC kcX9_196 dX9_always_30 ?_
        refine q_icmp_lt hC 38 dX9_always_32 (by decide) (fun hb2 => ?_) (fun hb2 => ?_)
        · have h9 : ¬ 100000 ≤ yd T f 0 := by have := (nI_ltI (by omega) (by omega)).mp hb2; omega
          rw [if_neg h9] at hs
          refine q_iload_n hC dX9_always_38 ?_
          refine q_aload_n hC dX9_always_39 ?_
          refine q_getR hC (by first | assumption | rfl) flX9_58 dX9_always_40 ?_
          refine q_iload_n hC dX9_always_43 ?_
          refine q_calliV1 hC (by first | assumption | rfl) cvX9_214 dX9_always_44 (c_neededBy θ _ f T hok hT2 hK2 (by omega)) (by decide) (fun r3 S3 hr3 => ?_)
          obtain ⟨rfl, hF3, hK3⟩ := hr3
          refine q_ior hC dX9_always_47 ?_
          rw [or_n]
          refine q_istore_1 hC dX9_always_48 ?_
          refine q_inc1_2 hC dX9_always_49 ?_
          refine q_goto hC 10 dX9_always_52 (by decide) ?_
          exact ih (f + 1) _ S3 (by omega) (or_le256 _ _ hm h8) (hF12.trans hF3) hK3 hs
        · have h9 : 100000 ≤ yd T f 0 := by
            rcases Nat.lt_or_ge (yd T f 0) 100000 with h | h
            · exact absurd (nI_lt h (by omega)) hb2
            · exact h
          rw [if_pos h9] at hs
          refine q_bipush (v := (-9)) hC dX9_always_35 (by decide) ?_
          refine q_iret hC dX9_always_37 ?_
          have := alS_none hs n
          rw [show f + 1 + n = tF T by omega] at this
          exact ⟨by unfold sAlways; rw [this]; rfl, hR'.ways hF12 hK2⟩
  refine q_aload_n hC dX9_always_0 ?_
  refine q_getR hC (by first | assumption | rfl) flX9_29 dX9_always_1 ?_
  refine q_getI hC (by first | assumption | rfl) flX9_135 dX9_always_4 ?_
  rw [hN.2.2.1]
  refine q_istore_1 hC dX9_always_7 ?_
  refine q_iconst (v := nI 0) hC dX9_always_8 (by decide) ?_
  refine q_istore_2 hC dX9_always_9 ?_
  exact loop (tF T) 0 (stm N) S (by omega) (stm_lt N) Fr.rfl' hKn rfl
theorem x_shut (θ : Site) (S : St) (L : Nat) (x : Nat → Nat) (T : Tn) (N : Nw) (im : Nat → Option Nw) (tr : Int64) (hA : AOk T N im) (hR : RX S L x T N im tr) (f : Int32) (z : Int32) : Ctl yX9_shut cX9_shut 3 (some .long) 20 θ shX [.ref (sA θ 0), .int f, .int z] S (fun r S' => r = sShut T N f z ∧ RX S' L x T N im tr) := by
  obtain ⟨hok, hNo, hIm⟩ := hA
  have hR' := hR
  obtain ⟨hx, hT, hN, hI, hKn, hCh, htr⟩ := hR
  have h8 := hok.1
  have hF4 := hok.2.1
  refine Ctl.mk (own := RX9) 0 [some (.ref (sA θ 0)), some (.int f), some (.int z)] (fun K hC => ?_)
  have bad : sShut T N f z = -1 → K 17 [some (.ref (sA θ 0)), some (.int f), some (.int z)] [] S := by
    intro e
    refine q_ldc2 hC klX9_217 dX9_shut_17 ?_
    refine q_lret hC dX9_shut_20 ?_
    exact ⟨by rw [e], hR'⟩
  refine q_aload_n hC dX9_shut_0 ?_
  refine q_iload_n hC dX9_shut_1 ?_
  refine q_calliV1 hC (by first | assumption | rfl) cvX9_141 dX9_shut_2 (c_isFamily θ _ f T hok hT) (by decide) (fun r S1 hr => ?_)
  obtain ⟨rfl, rfl⟩ := hr
  cases hp : ixN f (tF T) with
  | none =>
    refine q_if_eq hC 17 dX9_shut_5 (by decide) (fun hb => ?_) (fun hb => ?_)
    · exact bad (by simp [sShut, hp])
    · exact absurd rfl hb
  | some q =>
    obtain ⟨hq, rfl⟩ := ixN_some (by omega) hp
    refine q_if_eq hC 17 dX9_shut_5 (by decide) (fun hb => ?_) (fun hb => ?_)
    · exact absurd hb (show ¬ nI 1 = 0 by decide)
    · cases hz : ixN z 2 with
      | none =>
        have hzz := ixN_none (by decide) hz
        refine q_iload_n hC dX9_shut_8 ?_
        refine q_if_lt hC 17 dX9_shut_9 (by decide) (fun hb2 => ?_) (fun hb2 => ?_)
        · exact bad (by simp [sShut, hz])
        · refine q_iload_n hC dX9_shut_12 ?_
          refine q_iconst (v := nI 1) hC dX9_shut_13 (by decide) ?_
          refine q_icmp_le hC 21 dX9_shut_14 (by decide) (fun hb3 => ?_) (fun hb3 => ?_)
          · rcases hzz with q1 | q1
            · exact absurd q1 hb2
            · exact absurd (Int32.le_trans q1 hb3) (by decide)
          · exact bad (by simp [sShut, hz])
      | some k =>
        obtain ⟨hk, rfl⟩ := ixN_some (by decide) hz
        refine q_iload_n hC dX9_shut_8 ?_
        refine q_if_lt hC 17 dX9_shut_9 (by decide) (fun hb2 => ?_) (fun hb2 => ?_)
        · exact absurd hb2 (nI_pos (by omega))
        · refine q_iload_n hC dX9_shut_12 ?_
          refine q_iconst (v := nI 1) hC dX9_shut_13 (by decide) ?_
          refine q_icmp_le hC 21 dX9_shut_14 (by decide) (fun hb3 => ?_) (fun hb3 => ?_)
          · refine q_aload_n hC dX9_shut_21 ?_
            refine q_getR hC (by first | assumption | rfl) flX9_81 dX9_shut_22 ?_
            refine q_iload_n hC dX9_shut_25 ?_
            refine q_aload_n hC dX9_shut_26 ?_
            refine q_getR hC (by first | assumption | rfl) flX9_29 dX9_shut_27 ?_
            refine q_callvV2 hC (by first | assumption | rfl) cvX9_219 dX9_shut_30 (c_reckon θ _ 18 q N T nowAt18 (fun a g1 g2 => by simp only [List.mem_cons, List.not_mem_nil, or_false, not_or]; omega) hok hT hKn hN hNo hq) (by decide) (fun S1 hr1 => ?_)
            obtain ⟨hF1, hK1, g1, g2⟩ := hr1
            have hR1 := hR'.cache (hF1.mono (by decide)) hK1 (hCh.go (hF1.c 39) (hF1.c 40) (hF1.c 41))
            rcases (show k = 0 ∨ k = 1 by omega) with rfl | rfl
            · refine q_iload_n hC dX9_shut_33 ?_
              refine q_if_ne hC 47 dX9_shut_34 (by decide) (fun hb4 => ?_) (fun hb4 => ?_)
              · exact absurd rfl hb4
              · refine q_aload_n hC dX9_shut_37 ?_
                refine q_getR hC (by first | assumption | rfl) flX9_81 dX9_shut_38 ?_
                refine q_getL hC (by first | assumption | rfl) flX9_223 dX9_shut_41 ?_
                rw [g1]
                refine q_goto hC 54 dX9_shut_44 (by decide) ?_
                refine q_lret hC dX9_shut_54 ?_
                exact ⟨by simp [sShut, hp, hz], hR1⟩
            · refine q_iload_n hC dX9_shut_33 ?_
              refine q_if_ne hC 47 dX9_shut_34 (by decide) (fun hb4 => ?_) (fun hb4 => ?_)
              · refine q_aload_n hC dX9_shut_47 ?_
                refine q_getR hC (by first | assumption | rfl) flX9_81 dX9_shut_48 ?_
                refine q_getL hC (by first | assumption | rfl) flX9_226 dX9_shut_51 ?_
                rw [g2]
                refine q_lret hC dX9_shut_54 ?_
                exact ⟨by simp [sShut, hp, hz], hR1⟩
              · exact absurd hb4 (by decide)
          · exact absurd (nI_le (by omega) (by omega)) hb3
theorem x_saw (θ : Site) (S : St) (L : Nat) (x : Nat → Nat) (T : Tn) (N : Nw) (im : Nat → Option Nw) (tr : Int64) (hA : AOk T N im) (hR : RX S L x T N im tr) (f : Int32) (z : Int32) : Cti yX9_saw cX9_saw 3 (some .int) 20 θ shX [.ref (sA θ 0), .int f, .int z] S (fun r S' => r = (sSaw T N f z).1 ∧ RX S' L x T (sSaw T N f z).2 im tr) := by
  obtain ⟨hok, hNo, hIm⟩ := hA
  have hR' := hR
  obtain ⟨hx, hT, hN, hI, hKn, hCh, htr⟩ := hR
  have h8 := hok.1
  have hF4 := hok.2.1
  refine Cti.mk (own := RX9) 0 [some (.ref (sA θ 0)), some (.int f), some (.int z)] (fun K hC => ?_)
  have h2P : 2 ^ tP T ≤ 256 := Nat.pow_le_pow_right (n := 2) (by omega) h8
  have bad : sSaw T N f z = (-1, N) → K 25 [some (.ref (sA θ 0)), some (.int f), some (.int z)] [] S := by
    intro e
    refine q_iconst (v := (-1)) hC dX9_saw_25 (by decide) ?_
    refine q_iret hC dX9_saw_26 ?_
    rw [e]
    exact ⟨rfl, hR'⟩
  refine q_aload_n hC dX9_saw_0 ?_
  refine q_iload_n hC dX9_saw_1 ?_
  refine q_calliV1 hC (by first | assumption | rfl) cvX9_141 dX9_saw_2 (c_isFamily θ _ f T hok hT) (by decide) (fun r S1 hr => ?_)
  obtain ⟨rfl, rfl⟩ := hr
  cases hp : ixN f (tF T) with
  | none =>
    refine q_if_eq hC 25 dX9_saw_5 (by decide) (fun hb => ?_) (fun hb => ?_)
    · exact bad (by simp [sSaw, hp])
    · exact absurd rfl hb
  | some q =>
    obtain ⟨hq, rfl⟩ := ixN_some (by omega) hp
    refine q_if_eq hC 25 dX9_saw_5 (by decide) (fun hb => ?_) (fun hb => ?_)
    · exact absurd hb (show ¬ nI 1 = 0 by decide)
    · cases hz : ixN z (2 ^ tP T) with
      | none =>
        have hzz := ixN_none (by omega) hz
        refine q_iload_n hC dX9_saw_8 ?_
        refine q_if_lt hC 25 dX9_saw_9 (by decide) (fun hb2 => ?_) (fun hb2 => ?_)
        · exact bad (by simp [sSaw, hz])
        · refine q_iload_n hC dX9_saw_12 ?_
          refine q_iconst (v := nI 1) hC dX9_saw_13 (by decide) ?_
          refine q_aload_n hC dX9_saw_14 ?_
          refine q_getR hC (by first | assumption | rfl) flX9_19 dX9_saw_15 ?_
          refine q_getI hC (by first | assumption | rfl) flX9_229 dX9_saw_18 ?_
          rw [hT.1]
          refine q_ishl hC dX9_saw_21 ?_
          rw [sh1 (by omega)]
          refine q_icmp_lt hC 27 dX9_saw_22 (by decide) (fun hb3 => ?_) (fun hb3 => ?_)
          · rcases hzz with q1 | q1
            · exact absurd q1 hb2
            · exact absurd hb3 (Int32.not_lt.mpr q1)
          · exact bad (by simp [sSaw, hz])
      | some k =>
        obtain ⟨hk, rfl⟩ := ixN_some (by omega) hz
        have hsn := hNo.2.2.1
        refine q_iload_n hC dX9_saw_8 ?_
        refine q_if_lt hC 25 dX9_saw_9 (by decide) (fun hb2 => ?_) (fun hb2 => ?_)
        · exact absurd hb2 (nI_pos (by omega))
        · refine q_iload_n hC dX9_saw_12 ?_
          refine q_iconst (v := nI 1) hC dX9_saw_13 (by decide) ?_
          refine q_aload_n hC dX9_saw_14 ?_
          refine q_getR hC (by first | assumption | rfl) flX9_19 dX9_saw_15 ?_
          refine q_getI hC (by first | assumption | rfl) flX9_229 dX9_saw_18 ?_
          rw [hT.1]
          refine q_ishl hC dX9_saw_21 ?_
          rw [sh1 (by omega)]
          refine q_icmp_lt hC 27 dX9_saw_22 (by decide) (fun hb3 => ?_) (fun hb3 => ?_)
          · refine q_aload_n hC dX9_saw_27 ?_
            refine q_getR hC (by first | assumption | rfl) flX9_29 dX9_saw_28 ?_
            refine q_getI hC (by first | assumption | rfl) flX9_232 dX9_saw_31 ?_
            rw [hN.2.2.2.1]
            refine q_bipush (v := nI 10) hC dX9_saw_34 (by decide) ?_
            refine q_icmp_lt hC 42 dX9_saw_36 (by decide) (fun hb4 => ?_) (fun hb4 => ?_)
            · have h10 : nS N < 10 := (nI_ltI (by omega) (by omega)).mp hb4
              refine q_aload_n hC dX9_saw_42 ?_
              refine q_getR hC (by first | assumption | rfl) flX9_29 dX9_saw_43 ?_
              refine q_getR hC (by first | assumption | rfl) flX9_235 dX9_saw_46 ?_
              refine q_iload_n hC dX9_saw_49 ?_
              refine q_dup2 hC dX9_saw_50 rfl rfl ?_
              refine q_ialdn hC (by first | assumption | rfl) (by first | assumption | omega) dX9_saw_51 ?_
              rw [hN.2.2.2.2 q (by omega)]
              refine q_iload_n hC dX9_saw_52 ?_
              refine q_ior hC dX9_saw_53 ?_
              rw [or_n]
              refine q_iastn hC (by first | assumption | rfl) (by first | assumption | omega) dX9_saw_54 ?_
              refine q_aload_n hC dX9_saw_55 ?_
              refine q_getR hC (by first | assumption | rfl) flX9_29 dX9_saw_56 ?_
              refine q_dup hC dX9_saw_59 rfl ?_
              refine q_getI hC (by first | assumption | rfl) flX9_232 dX9_saw_60 ?_
              rw [up_oc (by decide), hN.2.2.2.1]
              refine q_iconst (v := nI 1) hC dX9_saw_63 (by decide) ?_
              refine q_iadd hC dX9_saw_64 ?_
              rw [nI_add]
              refine q_putI hC (by first | assumption | rfl) fpX9_232 dX9_saw_65 ?_
              refine q_aload_n hC dX9_saw_68 ?_
              refine q_getR hC (by first | assumption | rfl) flX9_29 dX9_saw_69 ?_
              refine q_getI hC (by first | assumption | rfl) flX9_232 dX9_saw_72 ?_
              rw [up_s]
              refine q_iret hC dX9_saw_75 ?_
              refine ⟨by simp [sSaw, hp, hz, h10], ?_⟩
              have e : (sSaw T N (nI q) (nI k)).2 = nSee N q k := by simp [sSaw, hp, hz, h10]
              rw [e]
              refine hR'.now (Fr.trans (Fr.u1.mono (by decide)) (Fr.u1.mono (by decide))) ?_
              obtain ⟨n1, n2, n3, n4, n5⟩ := hN
              refine ⟨fun p hp => ?_, fun p hp => ?_, ?_, up_s, fun g hg => ?_⟩
              · rw [up_oc (by decide), up_oc (by decide)]; exact n1 p hp
              · rw [up_oc (by decide), up_oc (by decide)]; exact n2 p hp
              · rw [up_of (by decide), up_oc (by decide)]; exact n3
              · rw [up_oc (by decide)]
                show _ = nI (upN (nW N) q (nW N q ||| k) g)
                by_cases e : g = q
                · subst e; rw [up_s, upN_s]
                · rw [up_of e, upN_o e]; exact n5 g hg
            · have h10 : ¬ nS N < 10 := fun q => hb4 (nI_lt q (by omega))
              refine q_bipush (v := (-3)) hC dX9_saw_39 (by decide) ?_
              refine q_iret hC dX9_saw_41 ?_
              exact ⟨by simp [sSaw, hp, hz, h10], by simpa [sSaw, hp, hz, h10] using hR'⟩
          · exact absurd (nI_lt hk (by omega)) hb3
theorem x_forget (θ : Site) (S : St) (L : Nat) (x : Nat → Nat) (T : Tn) (N : Nw) (im : Nat → Option Nw) (tr : Int64) (hA : AOk T N im) (hR : RX S L x T N im tr)  : Cti yX9_forget cX9_forget 2 (some .int) 20 θ shX [.ref (sA θ 0)] S (fun r S' => r = nI (nS N) ∧ RX S' L x T (nFor N) im tr) := by
  obtain ⟨hok, hNo, hIm⟩ := hA
  have hR' := hR
  obtain ⟨hx, hT, hN, hI, hKn, hCh, htr⟩ := hR
  have h8 := hok.1
  have hF4 := hok.2.1
  refine Cti.mk (own := RX9) 1 [some (.ref (sA θ 0)), none] (fun K hC => ?_)
  refine q_aload_n hC dX9_forget_0 ?_
  refine q_getR hC (by first | assumption | rfl) flX9_29 dX9_forget_1 ?_
  refine q_getI hC (by first | assumption | rfl) flX9_232 dX9_forget_4 ?_
  rw [hN.2.2.2.1]
  refine q_istore_1 hC dX9_forget_7 ?_
  refine q_aload_n hC dX9_forget_8 ?_
  refine q_getR hC (by first | assumption | rfl) flX9_29 dX9_forget_9 ?_
  refine q_callvV0 hC (by first | assumption | rfl) cvX9_238 dX9_forget_12 (c_unsee θ _ 18 nowAt18) (by decide) (fun S1 hr1 => ?_)
  obtain ⟨hF1, g1, g2, g3⟩ := hr1
  refine q_iload_n hC dX9_forget_15 ?_
  refine q_iret hC dX9_forget_16 ?_
  obtain ⟨n1, n2, n3, n4, n5⟩ := hN
  exact ⟨rfl, hR'.now (hF1.mono (by decide)) ⟨fun p hp => by rw [hF1.c 19]; exact n1 p hp, fun p hp => by rw [hF1.c 20]; exact n2 p hp, by rw [g1]; exact n3, g2, g3⟩⟩
theorem x_fits (θ : Site) (S : St) (L : Nat) (x : Nat → Nat) (T : Tn) (N : Nw) (im : Nat → Option Nw) (tr : Int64) (hA : AOk T N im) (hR : RX S L x T N im tr)  : Cti yX9_fits cX9_fits 1 (some .int) 20 θ shX [.ref (sA θ 0)] S (fun r S' => r = nI (fitN T N none) ∧ RX S' L x T N im tr) := by
  obtain ⟨hok, hNo, hIm⟩ := hA
  have hR' := hR
  obtain ⟨hx, hT, hN, hI, hKn, hCh, htr⟩ := hR
  have h8 := hok.1
  have hF4 := hok.2.1
  refine Cti.mk (own := RX9) 0 [some (.ref (sA θ 0))] (fun K hC => ?_)
  refine q_aload_n hC dX9_fits_0 ?_
  refine q_getR hC (by first | assumption | rfl) flX9_88 dX9_fits_1 ?_
  refine q_aload_n hC dX9_fits_4 ?_
  refine q_getR hC (by first | assumption | rfl) flX9_29 dX9_fits_5 ?_
  refine q_iconst (v := (-1)) hC dX9_fits_8 (by decide) ?_
  refine q_iconst (v := (-1)) hC dX9_fits_9 (by decide) ?_
  refine q_calliV3 hC (by first | assumption | rfl) cvX9_241 dX9_fits_10 (c_waysOf θ _ 18 none N T nowAt18 (fun a g1 g2 => by simp only [List.mem_cons, List.not_mem_nil, or_false, not_or]; omega) hok hT hN hNo (fun q f e => by cases e)) (by decide) (fun r1 S1 hr1 => ?_)
  obtain ⟨rfl, hF1⟩ := hr1
  refine q_iret hC dX9_fits_13 ?_
  exact ⟨rfl, hR'.cache (hF1.L.mono (by decide)) (fun f hf B hB => by rw [hF1.c 37]; exact hKn f hf B hB) (hCh.go (hF1.c 39) (hF1.c 40) (hF1.c 41))⟩
theorem x_who (θ : Site) (S : St) (L : Nat) (x : Nat → Nat) (T : Tn) (N : Nw) (im : Nat → Option Nw) (tr : Int64) (hA : AOk T N im) (hR : RX S L x T N im tr) (p : Int32) : Cti yX9_who cX9_who 2 (some .int) 20 θ shX [.ref (sA θ 0), .int p] S (fun r S' => r = sWho T N p ∧ RX S' L x T N im tr) := by
  obtain ⟨hok, hNo, hIm⟩ := hA
  have hR' := hR
  obtain ⟨hx, hT, hN, hI, hKn, hCh, htr⟩ := hR
  have h8 := hok.1
  have hF4 := hok.2.1
  refine Cti.mk (own := RX9) 0 [some (.ref (sA θ 0)), some (.int p)] (fun K hC => ?_)
  refine q_aload_n hC dX9_who_0 ?_
  refine q_iload_n hC dX9_who_1 ?_
  refine q_calliV1 hC (by first | assumption | rfl) cvX9_118 dX9_who_2 (c_isPiece θ _ p T hok hT) (by decide) (fun r S1 hr => ?_)
  obtain ⟨rfl, rfl⟩ := hr
  cases hp : ixN p (tP T) with
  | none =>
    refine q_if_ne hC 10 dX9_who_5 (by decide) (fun hb => ?_) (fun hb => ?_)
    · exact absurd rfl hb
    · refine q_iconst (v := (-1)) hC dX9_who_8 (by decide) ?_
      refine q_iret hC dX9_who_9 ?_
      exact ⟨by simp [sWho, hp], hR'⟩
  | some q =>
    obtain ⟨hq, rfl⟩ := ixN_some (by omega) hp
    refine q_if_ne hC 10 dX9_who_5 (by decide) (fun hb => ?_) (fun hb => ?_)
    · refine q_aload_n hC dX9_who_10 ?_
      refine q_getR hC (by first | assumption | rfl) flX9_29 dX9_who_11 ?_
      refine q_iload_n hC dX9_who_14 ?_
      refine q_calliV1 hC (by first | assumption | rfl) cvX9_162 dX9_who_15 (c_isStone θ _ 18 q _ nowAt18 (by omega) (stm_lt N) hN.2.2.1) (by decide) (fun r S1 hr => ?_)
      obtain ⟨rfl, rfl⟩ := hr
      rw [bitS N (show q < 8 by omega)]
      by_cases h5 : nO N q = 5
      · rw [if_pos h5]
        refine q_if_eq hC 24 dX9_who_18 (by decide) (fun hb3 => ?_) (fun hb3 => ?_)
        · exact absurd hb3 (by decide)
        · refine q_bipush (v := (-2)) hC dX9_who_21 (by decide) ?_
          refine q_iret hC dX9_who_23 ?_
          exact ⟨by simp [sWho, hp, h5], hR'⟩
      · rw [if_neg h5]
        refine q_if_eq hC 24 dX9_who_18 (by decide) (fun hb3 => ?_) (fun hb3 => ?_)
        · refine q_aload_n hC dX9_who_24 ?_
          refine q_getR hC (by first | assumption | rfl) flX9_88 dX9_who_25 ?_
          refine q_aload_n hC dX9_who_28 ?_
          refine q_getR hC (by first | assumption | rfl) flX9_29 dX9_who_29 ?_
          refine q_iload_n hC dX9_who_32 ?_
          refine q_calliV2 hC (by first | assumption | rfl) cvX9_245 dX9_who_33 (c_onlyOwner θ _ 18 q N T nowAt18 (fun a g1 g2 => by simp only [List.mem_cons, List.not_mem_nil, or_false, not_or]; omega) hok hT hN hNo hq) (by decide) (fun r1 S1 hr1 => ?_)
          obtain ⟨rfl, hF1⟩ := hr1
          refine q_iret hC dX9_who_36 ?_
          exact ⟨by simp [sWho, hp, h5], hR'.cache (hF1.L.mono (by decide)) (fun f hf B hB => by rw [hF1.c 37]; exact hKn f hf B hB) (hCh.go (hF1.c 39) (hF1.c 40) (hF1.c 41))⟩
        · exact absurd rfl hb3
    · exact absurd hb (show ¬ nI 1 = 0 by decide)
theorem x_count (θ : Site) (S : St) (L : Nat) (x : Nat → Nat) (T : Tn) (N : Nw) (im : Nat → Option Nw) (tr : Int64) (hA : AOk T N im) (hR : RX S L x T N im tr) (z : Int32) : Cti yX9_count cX9_count 2 (some .int) 20 θ shX [.ref (sA θ 0), .int z] S (fun r S' => r = sCount L T N z ∧ RX S' L x T N im tr) := by
  obtain ⟨hok, hNo, hIm⟩ := hA
  have hR' := hR
  obtain ⟨hx, hT, hN, hI, hKn, hCh, htr⟩ := hR
  have h8 := hok.1
  have hF4 := hok.2.1
  refine Cti.mk (own := RX9) 0 [some (.ref (sA θ 0)), some (.int z)] (fun K hC => ?_)
  refine q_iload_n hC dX9_count_0 ?_
  cases hw : ixN z 6 with
  | none =>
    refine q_tabOut hC 91 dX9_count_1 (by have := ixN_none (by decide) hw; rw [Int32.lt_iff_toInt_lt, Int32.le_iff_toInt_le, nI_toInt (by omega), Int32.toInt_zero] at this; omega) (by decide) ?_
    refine q_iconst (v := (-1)) hC dX9_count_91 (by decide) ?_
    refine q_iret hC dX9_count_92 ?_
    exact ⟨by simp [sCount, hw], hR'⟩
  | some k =>
    obtain ⟨hk, rfl⟩ := ixN_some (by decide) hw
    rcases (show k = 0 ∨ k = 1 ∨ k = 2 ∨ k = 3 ∨ k = 4 ∨ k = 5 by omega) with rfl | rfl | rfl | rfl | rfl | rfl
    · refine q_tabIn hC (off := 39) 40 dX9_count_1 (by decide) (by decide) (by decide) (by decide) ?_
      refine q_aload_n hC dX9_count_40 ?_
      refine q_getR hC (by first | assumption | rfl) flX9_19 dX9_count_41 ?_
      refine q_getI hC (by first | assumption | rfl) flX9_229 dX9_count_44 ?_
      rw [hT.1]
      refine q_iret hC dX9_count_47 ?_
      exact ⟨by simp [sCount, hw], hR'⟩
    · refine q_tabIn hC (off := 47) 48 dX9_count_1 (by decide) (by decide) (by decide) (by decide) ?_
      refine q_aload_n hC dX9_count_48 ?_
      refine q_getR hC (by first | assumption | rfl) flX9_19 dX9_count_49 ?_
      refine q_getI hC (by first | assumption | rfl) flX9_188 dX9_count_52 ?_
      rw [hT.2.1]
      refine q_iret hC dX9_count_55 ?_
      exact ⟨by simp [sCount, hw], hR'⟩
    · refine q_tabIn hC (off := 55) 56 dX9_count_1 (by decide) (by decide) (by decide) (by decide) ?_
      refine q_aload_n hC dX9_count_56 ?_
      refine q_getR hC (by first | assumption | rfl) flX9_29 dX9_count_57 ?_
      refine q_calliV0 hC (by first | assumption | rfl) cvX9_268 dX9_count_60 (c_ownedPieces θ _ 18 N nowAt18 hN) (by decide) (fun r S1 hr => ?_)
      obtain ⟨rfl, rfl⟩ := hr
      refine q_iret hC dX9_count_63 ?_
      exact ⟨by simp [sCount, hw, ownd], hR'⟩
    · refine q_tabIn hC (off := 63) 64 dX9_count_1 (by decide) (by decide) (by decide) (by decide) ?_
      refine q_aload_n hC dX9_count_64 ?_
      refine q_getR hC (by first | assumption | rfl) flX9_29 dX9_count_65 ?_
      refine q_getI hC (by first | assumption | rfl) flX9_135 dX9_count_68 ?_
      rw [hN.2.2.1]
      refine q_calliS1 hC csX9_157 dX9_count_71 (c_bitCount θ shX _ _ (stm_lt N)) (by decide) (fun r S1 hr => ?_)
      obtain ⟨rfl, rfl⟩ := hr
      refine q_iret hC dX9_count_74 ?_
      exact ⟨by simp [sCount, hw], hR'⟩
    · refine q_tabIn hC (off := 74) 75 dX9_count_1 (by decide) (by decide) (by decide) (by decide) ?_
      refine q_aload_n hC dX9_count_75 ?_
      refine q_getR hC (by first | assumption | rfl) flX9_29 dX9_count_76 ?_
      refine q_getI hC (by first | assumption | rfl) flX9_232 dX9_count_79 ?_
      rw [hN.2.2.2.1]
      refine q_iret hC dX9_count_82 ?_
      exact ⟨by simp [sCount, hw], hR'⟩
    · refine q_tabIn hC (off := 82) 83 dX9_count_1 (by decide) (by decide) (by decide) (by decide) ?_
      refine q_aload_n hC dX9_count_83 ?_
      refine q_getR hC (by first | assumption | rfl) flX9_10 dX9_count_84 ?_
      refine q_getI hC (by first | assumption | rfl) flX9_96 dX9_count_87 ?_
      rw [hx.2.2.1]
      refine q_iret hC dX9_count_90 ?_
      exact ⟨by simp [sCount, hw], hR'⟩
theorem x_keep (θ : Site) (S : St) (L : Nat) (x : Nat → Nat) (T : Tn) (N : Nw) (im : Nat → Option Nw) (tr : Int64) (hA : AOk T N im) (hR : RX S L x T N im tr) (z : Int32) : Cti yX9_keep cX9_keep 2 (some .int) 20 θ shX [.ref (sA θ 0), .int z] S (fun r S' => r = (sKeep N im z).1 ∧ RX S' L x T N (sKeep N im z).2 tr) := by
  obtain ⟨hok, hNo, hIm⟩ := hA
  have hR' := hR
  obtain ⟨hx, hT, hN, hI, hKn, hCh, htr⟩ := hR
  have h8 := hok.1
  have hF4 := hok.2.1
  refine Cti.mk (own := RX9) 0 [some (.ref (sA θ 0)), some (.int z)] (fun K hC => ?_)
  have bad : sKeep N im z = (-1, im) → K 9 [some (.ref (sA θ 0)), some (.int z)] [] S := by
    intro e
    refine q_iconst (v := (-1)) hC dX9_keep_9 (by decide) ?_
    refine q_iret hC dX9_keep_10 ?_
    rw [e]
    exact ⟨rfl, hR'⟩
  cases hz : ixN z 2 with
  | none =>
    have hzz := ixN_none (by decide) hz
    refine q_iload_n hC dX9_keep_0 ?_
    refine q_if_lt hC 9 dX9_keep_1 (by decide) (fun hb2 => ?_) (fun hb2 => ?_)
    · exact bad (by simp [sKeep, hz])
    · refine q_iload_n hC dX9_keep_4 ?_
      refine q_iconst (v := nI 2) hC dX9_keep_5 (by decide) ?_
      refine q_icmp_lt hC 11 dX9_keep_6 (by decide) (fun hb3 => ?_) (fun hb3 => ?_)
      · rcases hzz with q1 | q1
        · exact absurd q1 hb2
        · exact absurd hb3 (Int32.not_lt.mpr q1)
      · exact bad (by simp [sKeep, hz])
  | some k =>
    obtain ⟨hk, rfl⟩ := ixN_some (by decide) hz
    have fin : ∀ S1, Fr S S1 [26 + 4 * k, 26 + 4 * k + 1, 26 + 4 * k + 2, 26 + 4 * k + 3] → NwR S1 (26 + 4 * k) N → K 24 [some (.ref (sA θ 0)), some (.int (nI k))] [] S1 := by
      intro S1 hF1 hN1
      have c1 : ∀ a, a ≤ 25 ∨ 34 ≤ a → S1.1 a = S.1 a := fun a ha => hF1.1 a (by simp only [List.mem_cons, List.not_mem_nil, or_false, not_or]; omega)
      have hN18 : NwR S1 18 N := hN.go (c1 18 (by omega)) (c1 19 (by omega)) (c1 20 (by omega)) (c1 21 (by omega))
      refine q_aload_n hC dX9_keep_24 ?_
      refine q_getR hC (by first | assumption | rfl) flX9_49 dX9_keep_25 ?_
      refine q_iload_n hC dX9_keep_28 ?_
      refine q_iconst (v := nI 1) hC dX9_keep_29 (by decide) ?_
      refine q_zastn hC (by first | assumption | rfl) (by first | assumption | omega) dX9_keep_30 ?_
      have hv : vp_nar .boolean (nI 1) = nI 1 := by decide
      rw [hv]
      have u1 : ∀ a, a ≠ 35 → (up S1 35 k (nI 1)).1 a = S1.1 a := fun a ha => up_oc ha
      have hN19 : NwR (up S1 35 k (nI 1)) 18 N := hN18.go (u1 _ (by omega)) (u1 _ (by omega)) (u1 _ (by omega)) (u1 _ (by omega))
      refine q_aload_n hC dX9_keep_31 ?_
      refine q_getR hC (by first | assumption | rfl) flX9_29 dX9_keep_32 ?_
      refine q_calliV0 hC (by first | assumption | rfl) cvX9_268 dX9_keep_35 (c_ownedPieces θ _ 18 N nowAt18 hN19) (by decide) (fun r S1 hr => ?_)
      obtain ⟨rfl, rfl⟩ := hr
      refine q_iret hC dX9_keep_38 ?_
      have e : sKeep N im (nI k) = (nI (ownd N), upI im k N) := by simp [sKeep, hz]
      rw [e]
      have c2 : ∀ a, a ≤ 25 ∨ 36 ≤ a → (up S1 35 k (nI 1)).1 a = S.1 a := fun a ha => (u1 a (by omega)).trans (c1 a (by omega))
      refine ⟨rfl, hx.go (c2 1 (by omega)) (c2 2 (by omega)), hT.go (c2 _ (by omega)) (c2 _ (by omega)) (c2 _ (by omega)) (c2 _ (by omega)) (c2 _ (by omega)) (c2 _ (by omega)) (c2 _ (by omega)), hN19, fun i hi => ?_, fun f hf B hB => by rw [c2 37 (by omega)]; exact hKn f hf B hB, hCh.go (c2 _ (by omega)) (c2 _ (by omega)) (c2 _ (by omega)), ?_⟩
      · by_cases ei : i = k
        · subst ei
          refine ⟨fun q => (by simp [upI] at q), fun N' q => ?_⟩
          have q2 : N = N' := by simpa [upI] using q
          subst q2
          exact ⟨up_s, hN1.go (u1 _ (by omega)) (u1 _ (by omega)) (u1 _ (by omega)) (u1 _ (by omega))⟩
        · have ei2 : upI im k N i = im i := by simp [upI, ei]
          show (upI im k N i = none → _) ∧ ∀ N', upI im k N i = some N' → _
          rw [ei2, up_of ei, c1 35 (by omega)]
          refine ⟨(hI i hi).1, fun N' q => ⟨((hI i hi).2 N' q).1, ((hI i hi).2 N' q).2.go ?_ ?_ ?_ ?_⟩⟩ <;> rw [u1 _ (by omega)] <;> exact hF1.1 _ (by simp only [List.mem_cons, List.not_mem_nil, or_false, not_or]; omega)
      · show S1.2 0 13 = tr
        rw [hF1.2]; exact htr
    refine q_iload_n hC dX9_keep_0 ?_
    refine q_if_lt hC 9 dX9_keep_1 (by decide) (fun hb2 => ?_) (fun hb2 => ?_)
    · exact absurd hb2 (nI_pos (by omega))
    · refine q_iload_n hC dX9_keep_4 ?_
      refine q_iconst (v := nI 2) hC dX9_keep_5 (by decide) ?_
      refine q_icmp_lt hC 11 dX9_keep_6 (by decide) (fun hb3 => ?_) (fun hb3 => ?_)
      · rcases (show k = 0 ∨ k = 1 by omega) with rfl | rfl
        · refine q_aload_n hC dX9_keep_11 ?_
          refine q_getR hC (by first | assumption | rfl) flX9_45 dX9_keep_12 ?_
          refine q_iload_n hC dX9_keep_15 ?_
          refine q_aald (r := 26) hC (by first | assumption | rfl) (vp_in_nI (by decide) (by decide)) rfl dX9_keep_16 ?_
          refine q_aload_n hC dX9_keep_17 ?_
          refine q_getR hC (by first | assumption | rfl) flX9_29 dX9_keep_18 ?_
          refine q_callvV1 hC (by first | assumption | rfl) cvX9_111 dX9_keep_21 (c_Now_become θ _ 26 18 nowAt26 nowAt18 (by omega) N hN) (by decide) (fun S1 hr1 => ?_)
          exact fin S1 hr1.1 hr1.2
        · refine q_aload_n hC dX9_keep_11 ?_
          refine q_getR hC (by first | assumption | rfl) flX9_45 dX9_keep_12 ?_
          refine q_iload_n hC dX9_keep_15 ?_
          refine q_aald (r := 30) hC (by first | assumption | rfl) (vp_in_nI (by decide) (by decide)) rfl dX9_keep_16 ?_
          refine q_aload_n hC dX9_keep_17 ?_
          refine q_getR hC (by first | assumption | rfl) flX9_29 dX9_keep_18 ?_
          refine q_callvV1 hC (by first | assumption | rfl) cvX9_111 dX9_keep_21 (c_Now_become θ _ 30 18 nowAt30 nowAt18 (by omega) N hN) (by decide) (fun S1 hr1 => ?_)
          exact fin S1 hr1.1 hr1.2
      · exact absurd (nI_lt hk (by omega)) hb3
theorem x_back (θ : Site) (S : St) (L : Nat) (x : Nat → Nat) (T : Tn) (N : Nw) (im : Nat → Option Nw) (tr : Int64) (hA : AOk T N im) (hR : RX S L x T N im tr) (z : Int32) : Cti yX9_back cX9_back 2 (some .int) 20 θ shX [.ref (sA θ 0), .int z] S (fun r S' => r = (sBack N im z).1 ∧ RX S' L x T (sBack N im z).2 im tr) := by
  obtain ⟨hok, hNo, hIm⟩ := hA
  have hR' := hR
  obtain ⟨hx, hT, hN, hI, hKn, hCh, htr⟩ := hR
  have h8 := hok.1
  have hF4 := hok.2.1
  refine Cti.mk (own := RX9) 0 [some (.ref (sA θ 0)), some (.int z)] (fun K hC => ?_)
  have bad : sBack N im z = (-1, N) → K 9 [some (.ref (sA θ 0)), some (.int z)] [] S := by
    intro e
    refine q_iconst (v := (-1)) hC dX9_back_9 (by decide) ?_
    refine q_iret hC dX9_back_10 ?_
    rw [e]
    exact ⟨rfl, hR'⟩
  cases hz : ixN z 2 with
  | none =>
    have hzz := ixN_none (by decide) hz
    refine q_iload_n hC dX9_back_0 ?_
    refine q_if_lt hC 9 dX9_back_1 (by decide) (fun hb2 => ?_) (fun hb2 => ?_)
    · exact bad (by simp [sBack, hz])
    · refine q_iload_n hC dX9_back_4 ?_
      refine q_iconst (v := nI 2) hC dX9_back_5 (by decide) ?_
      refine q_icmp_lt hC 11 dX9_back_6 (by decide) (fun hb3 => ?_) (fun hb3 => ?_)
      · rcases hzz with q1 | q1
        · exact absurd q1 hb2
        · exact absurd hb3 (Int32.not_lt.mpr q1)
      · exact bad (by simp [sBack, hz])
  | some k =>
    obtain ⟨hk, rfl⟩ := ixN_some (by decide) hz
    refine q_iload_n hC dX9_back_0 ?_
    refine q_if_lt hC 9 dX9_back_1 (by decide) (fun hb2 => ?_) (fun hb2 => ?_)
    · exact absurd hb2 (nI_pos (by omega))
    · refine q_iload_n hC dX9_back_4 ?_
      refine q_iconst (v := nI 2) hC dX9_back_5 (by decide) ?_
      refine q_icmp_lt hC 11 dX9_back_6 (by decide) (fun hb3 => ?_) (fun hb3 => ?_)
      · refine q_aload_n hC dX9_back_11 ?_
        refine q_getR hC (by first | assumption | rfl) flX9_49 dX9_back_12 ?_
        refine q_iload_n hC dX9_back_15 ?_
        refine q_zaldn hC (by first | assumption | rfl) (by first | assumption | omega) dX9_back_16 ?_
        cases hi : im k with
        | none =>
          rw [(hI k hk).1 hi]
          refine q_if_ne hC 23 dX9_back_17 (by decide) (fun hb4 => ?_) (fun hb4 => ?_)
          · exact absurd rfl hb4
          · refine q_bipush (v := (-2)) hC dX9_back_20 (by decide) ?_
            refine q_iret hC dX9_back_22 ?_
            exact ⟨by simp [sBack, hz, hi], by simpa [sBack, hz, hi] using hR'⟩
        | some N' =>
          obtain ⟨i1, i2⟩ := (hI k hk).2 N' hi
          rw [i1]
          have e : sBack N im (nI k) = (nI (ownd N'), N') := by simp [sBack, hz, hi]
          refine q_if_ne hC 23 dX9_back_17 (by decide) (fun hb4 => ?_) (fun hb4 => ?_)
          · have fin : ∀ S1, Fr S S1 [18, 19, 20, 21] → NwR S1 18 N' → K 36 [some (.ref (sA θ 0)), some (.int (nI k))] [] S1 := by
              intro S1 hF1 hN1
              refine q_aload_n hC dX9_back_36 ?_
              refine q_getR hC (by first | assumption | rfl) flX9_29 dX9_back_37 ?_
              refine q_calliV0 hC (by first | assumption | rfl) cvX9_268 dX9_back_40 (c_ownedPieces θ _ 18 N' nowAt18 hN1) (by decide) (fun r S1 hr => ?_)
              obtain ⟨rfl, rfl⟩ := hr
              refine q_iret hC dX9_back_43 ?_
              rw [e]
              exact ⟨rfl, hR'.now hF1 hN1⟩
            rcases (show k = 0 ∨ k = 1 by omega) with rfl | rfl
            · refine q_aload_n hC dX9_back_23 ?_
              refine q_getR hC (by first | assumption | rfl) flX9_29 dX9_back_24 ?_
              refine q_aload_n hC dX9_back_27 ?_
              refine q_getR hC (by first | assumption | rfl) flX9_45 dX9_back_28 ?_
              refine q_iload_n hC dX9_back_31 ?_
              refine q_aald (r := 26) hC (by first | assumption | rfl) (vp_in_nI (by decide) (by decide)) rfl dX9_back_32 ?_
              refine q_callvV1 hC (by first | assumption | rfl) cvX9_111 dX9_back_33 (c_Now_become θ _ 18 26 nowAt18 nowAt26 (by omega) N' i2) (by decide) (fun S1 hr1 => ?_)
              exact fin S1 hr1.1 hr1.2
            · refine q_aload_n hC dX9_back_23 ?_
              refine q_getR hC (by first | assumption | rfl) flX9_29 dX9_back_24 ?_
              refine q_aload_n hC dX9_back_27 ?_
              refine q_getR hC (by first | assumption | rfl) flX9_45 dX9_back_28 ?_
              refine q_iload_n hC dX9_back_31 ?_
              refine q_aald (r := 30) hC (by first | assumption | rfl) (vp_in_nI (by decide) (by decide)) rfl dX9_back_32 ?_
              refine q_callvV1 hC (by first | assumption | rfl) cvX9_111 dX9_back_33 (c_Now_become θ _ 18 30 nowAt18 nowAt30 (by omega) N' i2) (by decide) (fun S1 hr1 => ?_)
              exact fin S1 hr1.1 hr1.2
          · exact absurd hb4 (by decide)
      · exact absurd (nI_lt hk (by omega)) hb3
theorem c_asFamily (θ : Site) (S : St) (L : Nat) (x : Nat → Nat) (T : Tn) (N : Nw) (im : Nat → Option Nw) (tr : Int64) (g : Nat) (hA : AOk T N im) (hR : RX S L x T N im tr) (hg : g < tF T) : Cti yX9_asFamily cX9_asFamily 2 (some .int) 0 θ shX [.ref (sA θ 0), .int (nI g)] S (fun r S' => r = nI (tN T g) ∧ RX S' L x T N im (tr + lN 1)) := by
  have hA' := hA
  obtain ⟨hok, hNo, hIm⟩ := hA
  have hR' := hR
  obtain ⟨hx, hT, hN, hI, hKn, hCh, htr⟩ := hR
  have h8 := hok.1
  have hF4 := hok.2.1
  refine Cti.mk (own := RX9) 0 [some (.ref (sA θ 0)), some (.int (nI g))] (fun K hC => ?_)
  refine q_aload_n hC dX9_asFamily_0 ?_
  refine q_dup hC dX9_asFamily_1 rfl ?_
  refine q_getL hC (by first | assumption | rfl) flX9_92 dX9_asFamily_2 ?_
  rw [htr]
  refine q_lconst (v := lN 1) hC dX9_asFamily_5 (by decide) ?_
  refine q_ladd hC dX9_asFamily_6 ?_
  refine q_putL hC (by first | assumption | rfl) fpX9_92 dX9_asFamily_7 ?_
  refine q_aload_n hC dX9_asFamily_10 ?_
  refine q_getR hC (by first | assumption | rfl) flX9_19 dX9_asFamily_11 ?_
  refine q_getR hC (by first | assumption | rfl) flX9_150 dX9_asFamily_14 ?_
  refine q_iload_n hC dX9_asFamily_17 ?_
  refine q_ialdn hC (by first | assumption | rfl) (by first | assumption | omega) dX9_asFamily_18 ?_
  have e : (upL S 0 13 (tr + lN 1)).1 (4 + 6) g = nI (tN T g) := (hT.2.2.2 g hg).2.2
  refine q_eq hC e ?_
  refine q_iret hC dX9_asFamily_19 ?_
  exact ⟨rfl, hR'.tr⟩
theorem c_asWidow (θ : Site) (S : St) (L : Nat) (x : Nat → Nat) (T : Tn) (N : Nw) (im : Nat → Option Nw) (tr : Int64) (g : Nat) (hA : AOk T N im) (hR : RX S L x T N im tr) (hg : g < tF T) : Cti yX9_asWidow cX9_asWidow 2 (some .int) 2 θ shX [.ref (sA θ 0), .int (nI g)] S (fun r S' => r = nI (tN T g) + nI (popc (owm N g)) ∧ RX S' L x T N im (tr + lN 11)) := by
  have hA' := hA
  obtain ⟨hok, hNo, hIm⟩ := hA
  have hR' := hR
  obtain ⟨hx, hT, hN, hI, hKn, hCh, htr⟩ := hR
  have h8 := hok.1
  have hF4 := hok.2.1
  refine Cti.mk (own := RX9) 0 [some (.ref (sA θ 0)), some (.int (nI g))] (fun K hC => ?_)
  refine q_aload_n hC dX9_asWidow_0 ?_
  refine q_dup hC dX9_asWidow_1 rfl ?_
  refine q_getL hC (by first | assumption | rfl) flX9_92 dX9_asWidow_2 ?_
  rw [htr]
  refine q_ldc2 hC klX9_276 dX9_asWidow_5 ?_
  refine q_ladd hC dX9_asWidow_8 ?_
  refine q_putL hC (by first | assumption | rfl) fpX9_92 dX9_asWidow_9 ?_
  refine q_aload_n hC dX9_asWidow_12 ?_
  refine q_iload_n hC dX9_asWidow_13 ?_
  refine q_calliV1 hC (by first | assumption | rfl) cvX9_250 dX9_asWidow_14 (c_asFamily θ _ L x T N im _ g hA' hR'.tr hg) (by decide) (fun r1 S1 hr1 => ?_)
  obtain ⟨rfl, hR1⟩ := hr1
  refine q_aload_n hC dX9_asWidow_17 ?_
  refine q_getR hC (by first | assumption | rfl) flX9_29 dX9_asWidow_18 ?_
  refine q_iload_n hC dX9_asWidow_21 ?_
  refine q_calliV1 hC (by first | assumption | rfl) cvX9_153 dX9_asWidow_22 (c_ownedBy θ _ 18 g N nowAt18 hR1.2.2.1 (by omega)) (by decide) (fun r S1 hr => ?_)
  obtain ⟨rfl, rfl⟩ := hr
  refine q_calliS1 hC csX9_157 dX9_asWidow_25 (c_bitCount θ shX _ _ (owm_lt N g)) (by decide) (fun r S1 hr => ?_)
  obtain ⟨rfl, rfl⟩ := hr
  refine q_iadd hC dX9_asWidow_28 ?_
  refine q_iret hC dX9_asWidow_29 ?_
  refine ⟨rfl, ?_⟩
  rw [Int64.add_assoc, lN_add] at hR1
  exact hR1
theorem c_asMason (θ : Site) (S : St) (L : Nat) (x : Nat → Nat) (T : Tn) (N : Nw) (im : Nat → Option Nw) (tr : Int64) (g : Nat) (hA : AOk T N im) (hR : RX S L x T N im tr) (hg : g < tF T) : Cti yX9_asMason cX9_asMason 3 (some .int) 4 θ shX [.ref (sA θ 0), .int (nI g)] S (fun r S' => r = nI (tN T g) + nI (ydZ T g (owm N g)) ∧ RX S' L x T N im (tr + lN 101)) := by
  have hA' := hA
  obtain ⟨hok, hNo, hIm⟩ := hA
  have hR' := hR
  obtain ⟨hx, hT, hN, hI, hKn, hCh, htr⟩ := hR
  have h8 := hok.1
  have hF4 := hok.2.1
  refine Cti.mk (own := RX9) 1 [some (.ref (sA θ 0)), some (.int (nI g)), none] (fun K hC => ?_)
  have hyb := yd_bd hok g (owm N g)
  refine q_aload_n hC dX9_asMason_0 ?_
  refine q_dup hC dX9_asMason_1 rfl ?_
  refine q_getL hC (by first | assumption | rfl) flX9_92 dX9_asMason_2 ?_
  rw [htr]
  have hR1 : RX (upL S 0 13 (tr + lN 100)) L x T N im (tr + lN 100) := hR'.tr
  refine q_ldc2 hC klX9_278 dX9_asMason_5 ?_
  refine q_ladd hC dX9_asMason_8 ?_
  refine q_putL hC (by first | assumption | rfl) fpX9_92 dX9_asMason_9 ?_
  refine q_aload_n hC dX9_asMason_12 ?_
  refine q_iload_n hC dX9_asMason_13 ?_
  refine q_calliV1 hC (by first | assumption | rfl) cvX9_172 dX9_asMason_14 (c_wayNow θ _ g T N hok hR1.2.1 hR1.2.2.1 hR1.2.2.2.2.1 hg) (by decide) (fun r1 S1 hr1 => ?_)
  obtain ⟨rfl, hF1, hK1⟩ := hr1
  have hR2 := hR1.ways hF1 hK1
  refine q_istore_2 hC dX9_asMason_17 ?_
  refine q_aload_n hC dX9_asMason_18 ?_
  refine q_iload_n hC dX9_asMason_19 ?_
  refine q_calliV1 hC (by first | assumption | rfl) cvX9_250 dX9_asMason_20 (c_asFamily θ _ L x T N im _ g hA' hR2 hg) (by decide) (fun r2 S2 hr2 => ?_)
  obtain ⟨rfl, hR3⟩ := hr2
  rw [Int64.add_assoc, lN_add] at hR3
  refine q_iload_n hC dX9_asMason_23 ?_
  refine q_ldc hC kcX9_196 dX9_asMason_24 ?_
  refine q_icmp_lt hC 33 dX9_asMason_26 (by decide) (fun hb => ?_) (fun hb => ?_)
  · have h9 : yd T g (owm N g) < 100000 := (nI_ltI (by omega) (by omega)).mp hb
    refine q_iload_n hC dX9_asMason_33 ?_
    refine q_iadd hC dX9_asMason_34 ?_
    refine q_iret hC dX9_asMason_35 ?_
    exact ⟨by unfold ydZ; rw [if_pos h9], hR3⟩
  · have h9 : ¬ yd T g (owm N g) < 100000 := fun q => hb (nI_lt q (by omega))
    refine q_iconst (v := nI 0) hC dX9_asMason_29 (by decide) ?_
    refine q_goto hC 34 dX9_asMason_30 (by decide) ?_
    refine q_iadd hC dX9_asMason_34 ?_
    refine q_iret hC dX9_asMason_35 ?_
    exact ⟨by unfold ydZ; rw [if_neg h9], hR3⟩
theorem c_asHeir (θ : Site) (S : St) (L : Nat) (x : Nat → Nat) (T : Tn) (N : Nw) (im : Nat → Option Nw) (tr : Int64) (g : Nat) (hA : AOk T N im) (hR : RX S L x T N im tr) (hg : g < tF T) : Cti yX9_asHeir cX9_asHeir 2 (some .int) 3 θ shX [.ref (sA θ 0), .int (nI g)] S (fun r S' => r = (nI (tN T g) + nI (popc (owm N g))) * nI 2 ∧ RX S' L x T N im (tr + lN 1011)) := by
  have hA' := hA
  obtain ⟨hok, hNo, hIm⟩ := hA
  have hR' := hR
  obtain ⟨hx, hT, hN, hI, hKn, hCh, htr⟩ := hR
  have h8 := hok.1
  have hF4 := hok.2.1
  refine Cti.mk (own := RX9) 0 [some (.ref (sA θ 0)), some (.int (nI g))] (fun K hC => ?_)
  refine q_aload_n hC dX9_asHeir_0 ?_
  refine q_dup hC dX9_asHeir_1 rfl ?_
  refine q_getL hC (by first | assumption | rfl) flX9_92 dX9_asHeir_2 ?_
  rw [htr]
  refine q_ldc2 hC klX9_280 dX9_asHeir_5 ?_
  refine q_ladd hC dX9_asHeir_8 ?_
  refine q_putL hC (by first | assumption | rfl) fpX9_92 dX9_asHeir_9 ?_
  refine q_aload_n hC dX9_asHeir_12 ?_
  refine q_iload_n hC dX9_asHeir_13 ?_
  refine q_calliV1 hC (by first | assumption | rfl) cvX9_253 dX9_asHeir_14 (c_asWidow θ _ L x T N im _ g hA' hR'.tr hg) (by decide) (fun r1 S1 hr1 => ?_)
  obtain ⟨rfl, hR1⟩ := hr1
  rw [Int64.add_assoc, lN_add] at hR1
  refine q_iconst (v := nI 2) hC dX9_asHeir_17 (by decide) ?_
  refine q_imul hC dX9_asHeir_18 ?_
  refine q_iret hC dX9_asHeir_19 ?_
  exact ⟨rfl, hR1⟩
theorem c_asHired (θ : Site) (S : St) (L : Nat) (x : Nat → Nat) (T : Tn) (N : Nw) (im : Nat → Option Nw) (tr : Int64) (g : Nat) (hA : AOk T N im) (hR : RX S L x T N im tr) (hg : g < tF T) : Cti yX9_asHired cX9_asHired 2 (some .int) 5 θ shX [.ref (sA θ 0), .int (nI g)] S (fun r S' => r = nI (tN T g) + nI (ydZ T g (owm N g)) - nI (sumY T (owm N g) (tP T)) ∧ RX S' L x T N im (tr + lN 10101)) := by
  have hA' := hA
  obtain ⟨hok, hNo, hIm⟩ := hA
  have hR' := hR
  obtain ⟨hx, hT, hN, hI, hKn, hCh, htr⟩ := hR
  have h8 := hok.1
  have hF4 := hok.2.1
  refine Cti.mk (own := RX9) 0 [some (.ref (sA θ 0)), some (.int (nI g))] (fun K hC => ?_)
  refine q_aload_n hC dX9_asHired_0 ?_
  refine q_dup hC dX9_asHired_1 rfl ?_
  refine q_getL hC (by first | assumption | rfl) flX9_92 dX9_asHired_2 ?_
  rw [htr]
  refine q_ldc2 hC klX9_282 dX9_asHired_5 ?_
  refine q_ladd hC dX9_asHired_8 ?_
  refine q_putL hC (by first | assumption | rfl) fpX9_92 dX9_asHired_9 ?_
  refine q_aload_n hC dX9_asHired_12 ?_
  refine q_iload_n hC dX9_asHired_13 ?_
  refine q_calliV1 hC (by first | assumption | rfl) cvX9_256 dX9_asHired_14 (c_asMason θ _ L x T N im _ g hA' hR'.tr hg) (by decide) (fun r1 S1 hr1 => ?_)
  obtain ⟨rfl, hR1⟩ := hr1
  rw [Int64.add_assoc, lN_add] at hR1
  refine q_aload_n hC dX9_asHired_17 ?_
  refine q_getR hC (by first | assumption | rfl) flX9_19 dX9_asHired_18 ?_
  refine q_aload_n hC dX9_asHired_21 ?_
  refine q_getR hC (by first | assumption | rfl) flX9_29 dX9_asHired_22 ?_
  refine q_iload_n hC dX9_asHired_25 ?_
  refine q_calliV1 hC (by first | assumption | rfl) cvX9_153 dX9_asHired_26 (c_ownedBy θ _ 18 g N nowAt18 hR1.2.2.1 (by omega)) (by decide) (fun r S1 hr => ?_)
  obtain ⟨rfl, rfl⟩ := hr
  refine q_calliV1 hC (by first | assumption | rfl) cvX9_284 dX9_asHired_29 (c_yardsOf θ _ 4 _ twAt4 T hR1.2.1 h8 (owm_lt N g)) (by decide) (fun r S1 hr => ?_)
  obtain ⟨rfl, rfl⟩ := hr
  refine q_isub hC dX9_asHired_32 ?_
  refine q_iret hC dX9_asHired_33 ?_
  exact ⟨rfl, hR1⟩
theorem c_asBachelor (θ : Site) (S : St) (L : Nat) (x : Nat → Nat) (T : Tn) (N : Nw) (im : Nat → Option Nw) (tr : Int64) (g : Nat) (hA : AOk T N im) (hR : RX S L x T N im tr) (hg : g < tF T) : Cti yX9_asBachelor cX9_asBachelor 2 (some .int) 1 θ shX [.ref (sA θ 0), .int (nI g)] S (fun r S' => r = nI (tN T g) + nI (tH T g) ∧ RX S' L x T N im (tr + lN 100001)) := by
  have hA' := hA
  obtain ⟨hok, hNo, hIm⟩ := hA
  have hR' := hR
  obtain ⟨hx, hT, hN, hI, hKn, hCh, htr⟩ := hR
  have h8 := hok.1
  have hF4 := hok.2.1
  refine Cti.mk (own := RX9) 0 [some (.ref (sA θ 0)), some (.int (nI g))] (fun K hC => ?_)
  refine q_aload_n hC dX9_asBachelor_0 ?_
  refine q_dup hC dX9_asBachelor_1 rfl ?_
  refine q_getL hC (by first | assumption | rfl) flX9_92 dX9_asBachelor_2 ?_
  rw [htr]
  refine q_ldc2 hC klX9_287 dX9_asBachelor_5 ?_
  refine q_ladd hC dX9_asBachelor_8 ?_
  refine q_putL hC (by first | assumption | rfl) fpX9_92 dX9_asBachelor_9 ?_
  refine q_aload_n hC dX9_asBachelor_12 ?_
  refine q_iload_n hC dX9_asBachelor_13 ?_
  refine q_calliV1 hC (by first | assumption | rfl) cvX9_250 dX9_asBachelor_14 (c_asFamily θ _ L x T N im _ g hA' hR'.tr hg) (by decide) (fun r1 S1 hr1 => ?_)
  obtain ⟨rfl, hR1⟩ := hr1
  rw [Int64.add_assoc, lN_add] at hR1
  refine q_aload_n hC dX9_asBachelor_17 ?_
  refine q_getR hC (by first | assumption | rfl) flX9_19 dX9_asBachelor_18 ?_
  refine q_getR hC (by first | assumption | rfl) flX9_144 dX9_asBachelor_21 ?_
  refine q_iload_n hC dX9_asBachelor_24 ?_
  refine q_ialdn hC (by first | assumption | rfl) (by first | assumption | omega) dX9_asBachelor_25 ?_
  rw [(hR1.2.1.2.2.2 g hg).1]
  refine q_iadd hC dX9_asBachelor_26 ?_
  refine q_iret hC dX9_asBachelor_27 ?_
  exact ⟨rfl, hR1⟩
theorem x_mark (θ : Site) (S : St) (L : Nat) (x : Nat → Nat) (T : Tn) (N : Nw) (im : Nat → Option Nw) (tr : Int64) (hA : AOk T N im) (hR : RX S L x T N im tr) (z : Int32) (f : Int32) : Cti yX9_mark cX9_mark 3 (some .int) 20 θ shX [.ref (sA θ 0), .int z, .int f] S (fun r S' => r = (sMark T N tr z f).1 ∧ RX S' L x T N im (sMark T N tr z f).2) := by
  obtain ⟨hok, hNo, hIm⟩ := hA
  have hR' := hR
  obtain ⟨hx, hT, hN, hI, hKn, hCh, htr⟩ := hR
  have h8 := hok.1
  have hF4 := hok.2.1
  refine Cti.mk (own := RX9) 0 [some (.ref (sA θ 0)), some (.int z), some (.int f)] (fun K hC => ?_)
  have hA' : AOk T N im := ⟨hok, hNo, hIm⟩
  refine q_aload_n hC dX9_mark_0 ?_
  refine q_iload_n hC dX9_mark_1 ?_
  refine q_calliV1 hC (by first | assumption | rfl) cvX9_141 dX9_mark_2 (c_isFamily θ _ f T hok hT) (by decide) (fun r S1 hr => ?_)
  obtain ⟨rfl, rfl⟩ := hr
  cases hp : ixN f (tF T) with
  | none =>
    refine q_if_ne hC 11 dX9_mark_5 (by decide) (fun hb => ?_) (fun hb => ?_)
    · exact absurd rfl hb
    · refine q_ldc hC kcX9_249 dX9_mark_8 ?_
      refine q_iret hC dX9_mark_10 ?_
      exact ⟨by simp [sMark, hp], by simpa [sMark, hp] using hR'⟩
  | some q =>
    obtain ⟨hq, rfl⟩ := ixN_some (by omega) hp
    refine q_if_ne hC 11 dX9_mark_5 (by decide) (fun hb => ?_) (fun hb => ?_)
    · refine q_iload_n hC dX9_mark_11 ?_
      cases hw : ixN z 6 with
      | none =>
        refine q_tabOut hC 88 dX9_mark_12 (by have := ixN_none (by decide) hw; rw [Int32.lt_iff_toInt_lt, Int32.le_iff_toInt_le, nI_toInt (by omega), Int32.toInt_zero] at this; omega) (by decide) ?_
        refine q_ldc hC kcX9_249 dX9_mark_88 ?_
        refine q_iret hC dX9_mark_90 ?_
        exact ⟨by simp [sMark, hp, hw], by simpa [sMark, hp, hw] using hR'⟩
      | some k =>
        obtain ⟨hk, rfl⟩ := ixN_some (by decide) hw
        rcases (show k = 0 ∨ k = 1 ∨ k = 2 ∨ k = 3 ∨ k = 4 ∨ k = 5 by omega) with rfl | rfl | rfl | rfl | rfl | rfl
        · refine q_tabIn hC (off := 40) 52 dX9_mark_12 (by decide) (by decide) (by decide) (by decide) ?_
          refine q_aload_n hC dX9_mark_52 ?_
          refine q_iload_n hC dX9_mark_53 ?_
          refine q_calliV1 hC (by first | assumption | rfl) cvX9_250 dX9_mark_54 (c_asFamily θ _ L x T N im tr q hA' hR' hq) (by decide) (fun r1 S1 hr1 => ?_)
          refine q_iret hC dX9_mark_57 ?_
          obtain ⟨rfl, hR1⟩ := hr1
          exact ⟨by simp [sMark, hp, hw], by simpa [sMark, hp, hw] using hR1⟩
        · refine q_tabIn hC (off := 46) 58 dX9_mark_12 (by decide) (by decide) (by decide) (by decide) ?_
          refine q_aload_n hC dX9_mark_58 ?_
          refine q_iload_n hC dX9_mark_59 ?_
          refine q_calliV1 hC (by first | assumption | rfl) cvX9_253 dX9_mark_60 (c_asWidow θ _ L x T N im tr q hA' hR' hq) (by decide) (fun r1 S1 hr1 => ?_)
          refine q_iret hC dX9_mark_63 ?_
          obtain ⟨rfl, hR1⟩ := hr1
          exact ⟨by simp [sMark, hp, hw], by simpa [sMark, hp, hw] using hR1⟩
        · refine q_tabIn hC (off := 52) 64 dX9_mark_12 (by decide) (by decide) (by decide) (by decide) ?_
          refine q_aload_n hC dX9_mark_64 ?_
          refine q_iload_n hC dX9_mark_65 ?_
          refine q_calliV1 hC (by first | assumption | rfl) cvX9_256 dX9_mark_66 (c_asMason θ _ L x T N im tr q hA' hR' hq) (by decide) (fun r1 S1 hr1 => ?_)
          refine q_iret hC dX9_mark_69 ?_
          obtain ⟨rfl, hR1⟩ := hr1
          exact ⟨by simp [sMark, hp, hw], by simpa [sMark, hp, hw] using hR1⟩
        · refine q_tabIn hC (off := 58) 70 dX9_mark_12 (by decide) (by decide) (by decide) (by decide) ?_
          refine q_aload_n hC dX9_mark_70 ?_
          refine q_iload_n hC dX9_mark_71 ?_
          refine q_calliV1 hC (by first | assumption | rfl) cvX9_259 dX9_mark_72 (c_asHeir θ _ L x T N im tr q hA' hR' hq) (by decide) (fun r1 S1 hr1 => ?_)
          refine q_iret hC dX9_mark_75 ?_
          obtain ⟨rfl, hR1⟩ := hr1
          exact ⟨by simp [sMark, hp, hw], by simpa [sMark, hp, hw] using hR1⟩
        · refine q_tabIn hC (off := 64) 76 dX9_mark_12 (by decide) (by decide) (by decide) (by decide) ?_
          refine q_aload_n hC dX9_mark_76 ?_
          refine q_iload_n hC dX9_mark_77 ?_
          refine q_calliV1 hC (by first | assumption | rfl) cvX9_262 dX9_mark_78 (c_asHired θ _ L x T N im tr q hA' hR' hq) (by decide) (fun r1 S1 hr1 => ?_)
          refine q_iret hC dX9_mark_81 ?_
          obtain ⟨rfl, hR1⟩ := hr1
          exact ⟨by simp [sMark, hp, hw], by simpa [sMark, hp, hw] using hR1⟩
        · refine q_tabIn hC (off := 70) 82 dX9_mark_12 (by decide) (by decide) (by decide) (by decide) ?_
          refine q_aload_n hC dX9_mark_82 ?_
          refine q_iload_n hC dX9_mark_83 ?_
          refine q_calliV1 hC (by first | assumption | rfl) cvX9_265 dX9_mark_84 (c_asBachelor θ _ L x T N im tr q hA' hR' hq) (by decide) (fun r1 S1 hr1 => ?_)
          refine q_iret hC dX9_mark_87 ?_
          obtain ⟨rfl, hR1⟩ := hr1
          exact ⟨by simp [sMark, hp, hw], by simpa [sMark, hp, hw] using hR1⟩
    · exact absurd hb (show ¬ nI 1 = 0 by decide)
