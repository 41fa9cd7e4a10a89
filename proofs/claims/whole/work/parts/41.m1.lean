theorem m_isPiece (θ : Site) (S : St) (p : Int32) (T : Tn) (hok : TnOk T) (hT : MTw S T) : Cti yX10_isPiece cX10_isPiece 2 (some .boolean) 1 θ shM [.ref (sA θ 0), .int p] S (fun r S' => r = nI (if (ixN p (tP T)).isSome = true then 1 else 0) ∧ S' = S) := by
  have h8 := hok.1
  refine Cti.mkz (own := RX10) 0 [some (.ref (sA θ 0)), some (.int p)] (fun K hC => ?_)
  refine q_iload_n hC dX10_isPiece_0 ?_
  refine q_i2l hC dX10_isPiece_1 ?_
  refine q_lconst (v := lN 0) hC dX10_isPiece_2 (by decide) ?_
  refine q_aload_n hC dX10_isPiece_3 ?_
  refine q_getI hC (by first | assumption | rfl) flX10_67 dX10_isPiece_4 ?_
  rw [hT.1]
  refine q_iconst (v := nI 1) hC dX10_isPiece_7 (by decide) ?_
  refine q_isub hC dX10_isPiece_8 ?_
  refine q_i2l hC dX10_isPiece_9 ?_
  refine q_calliS3 hC csX10_71 dX10_isPiece_10 (m_in θ _ _ _ _) (by decide) (fun r S1 hr => ?_)
  obtain ⟨rfl, rfl⟩ := hr
  refine q_iret hC dX10_isPiece_13 ?_
  rw [ix_iff (b := 0) _ (in_ixP (x := p) (n := tP T) (by omega))]
  refine ⟨⟨rfl, rfl⟩, ?_⟩
  split <;> decide
theorem m_isFamily (θ : Site) (S : St) (p : Int32) (T : Tn) (hok : TnOk T) (hT : MTw S T) : Cti yX10_isFamily cX10_isFamily 2 (some .boolean) 1 θ shM [.ref (sA θ 0), .int p] S (fun r S' => r = nI (if (ixN p (tF T)).isSome = true then 1 else 0) ∧ S' = S) := by
  have h8 := hok.2.1
  refine Cti.mkz (own := RX10) 0 [some (.ref (sA θ 0)), some (.int p)] (fun K hC => ?_)
  refine q_iload_n hC dX10_isFamily_0 ?_
  refine q_i2l hC dX10_isFamily_1 ?_
  refine q_lconst (v := lN 0) hC dX10_isFamily_2 (by decide) ?_
  refine q_aload_n hC dX10_isFamily_3 ?_
  refine q_getI hC (by first | assumption | rfl) flX10_75 dX10_isFamily_4 ?_
  rw [hT.2.1]
  refine q_iconst (v := nI 1) hC dX10_isFamily_7 (by decide) ?_
  refine q_isub hC dX10_isFamily_8 ?_
  refine q_i2l hC dX10_isFamily_9 ?_
  refine q_calliS3 hC csX10_71 dX10_isFamily_10 (m_in θ _ _ _ _) (by decide) (fun r S1 hr => ?_)
  obtain ⟨rfl, rfl⟩ := hr
  refine q_iret hC dX10_isFamily_13 ?_
  rw [ix_iff (b := 0) _ (in_ixP (x := p) (n := tF T) (by omega))]
  refine ⟨⟨rfl, rfl⟩, ?_⟩
  split <;> decide
theorem m_isStone (θ : Site) (S : St) (q : Nat) (T : Tn) (N : Nw) (hok : TnOk T) (hNo : NwOk T N) (hN : ∀ p, p < tP T → S.1 8 p = mdO (nO N p)) (hq : q < tP T) : Cti yX10_isStone cX10_isStone 2 (some .boolean) 0 θ shM [.ref (sA θ 0), .int (nI q)] S (fun r S' => r = nI (if nO N q = 5 then 1 else 0) ∧ S' = S) := by
  have h8 := hok.1
  refine Cti.mkz (own := RX10) 0 [some (.ref (sA θ 0)), some (.int (nI q))] (fun K hC => ?_)
  refine q_aload_n hC dX10_isStone_0 ?_
  refine q_getR hC (by first | assumption | rfl) flX10_31 dX10_isStone_1 ?_
  refine q_iload_n hC dX10_isStone_4 ?_
  refine q_ialdn hC (by first | assumption | rfl) (by first | assumption | omega) dX10_isStone_5 ?_
  rw [hN q hq]
  refine q_bipush (v := (-5)) hC dX10_isStone_6 (by decide) ?_
  refine q_icmp_ne hC 15 dX10_isStone_8 (by decide) (fun hb => ?_) (fun hb => ?_)
  · have h5 : ¬ nO N q = 5 := fun z => hb ((mdO_5 (hNo.1 q).1).mpr z)
    refine q_iconst (v := nI 0) hC dX10_isStone_15 (by decide) ?_
    refine q_iret hC dX10_isStone_16 ?_
    exact ⟨⟨by rw [if_neg h5], rfl⟩, by decide⟩
  · have h5 : nO N q = 5 := (mdO_5 (hNo.1 q).1).mp hb
    refine q_iconst (v := nI 1) hC dX10_isStone_11 (by decide) ?_
    refine q_goto hC 16 dX10_isStone_12 (by decide) ?_
    refine q_iret hC dX10_isStone_16 ?_
    exact ⟨⟨by rw [if_pos h5], rfl⟩, by decide⟩
theorem m_ownerOf (θ : Site) (S : St) (q : Nat) (T : Tn) (N : Nw) (hok : TnOk T) (hNo : NwOk T N) (hN : ∀ p, p < tP T → S.1 8 p = mdO (nO N p)) (hq : q < tP T) : Cti yX10_ownerOf cX10_ownerOf 2 (some .int) 0 θ shM [.ref (sA θ 0), .int (nI q)] S (fun r S' => r = clO (nO N q) ∧ S' = S) := by
  have h8 := hok.1
  have e := mdO_9 (hNo.1 q).1
  refine Cti.mk (own := RX10) 0 [some (.ref (sA θ 0)), some (.int (nI q))] (fun K hC => ?_)
  refine q_aload_n hC dX10_ownerOf_0 ?_
  refine q_getR hC (by first | assumption | rfl) flX10_31 dX10_ownerOf_1 ?_
  refine q_iload_n hC dX10_ownerOf_4 ?_
  refine q_ialdn hC (by first | assumption | rfl) (by first | assumption | omega) dX10_ownerOf_5 ?_
  rw [hN q hq]
  refine q_if_ge hC 14 dX10_ownerOf_6 (by decide) (fun hb => ?_) (fun hb => ?_)
  · rw [if_neg (Int32.not_lt.mpr hb)] at e
    refine q_aload_n hC dX10_ownerOf_14 ?_
    refine q_getR hC (by first | assumption | rfl) flX10_31 dX10_ownerOf_15 ?_
    refine q_iload_n hC dX10_ownerOf_18 ?_
    refine q_ialdn hC (by first | assumption | rfl) (by first | assumption | omega) dX10_ownerOf_19 ?_
    rw [hN q hq]
    refine q_iret hC dX10_ownerOf_20 ?_
    exact ⟨e, rfl⟩
  · rw [if_pos (Int32.not_le.mp hb)] at e
    refine q_bipush (v := (-9)) hC dX10_ownerOf_9 (by decide) ?_
    refine q_goto hC 20 dX10_ownerOf_11 (by decide) ?_
    refine q_iret hC dX10_ownerOf_20 ?_
    exact ⟨e, rfl⟩
theorem m_ownBy (θ : Site) (S : St) (q : Nat) (f : Int32) (T : Tn) (hok : TnOk T) (hT : S.1 0 2 = nI (tP T)) (hq : shM[q]? = some (.inl (0, 8))) : Cti yX10_ownBy cX10_ownBy 5 (some .int) 0 θ shM [.ref (sA θ 0), .ref (sA θ q), .int f] S (fun r S' => r = nI (msk (fun p => decide (S.1 q p = f)) (tP T)) ∧ S' = S) := by
  have h8 := hok.1
  refine Cti.mk (own := RX10) 2 [some (.ref (sA θ 0)), some (.ref (sA θ q)), some (.int f), none, none] (fun K hC => ?_)
  have loop : ∀ n p, p + n = tP T → K 5 [some (.ref (sA θ 0)), some (.ref (sA θ q)), some (.int f), some (.int (nI (msk (fun p => decide (S.1 q p = f)) p))), some (.int (nI p))] [] S := by
    intro n
    induction n with
    | zero =>
      intro p hp
      have e : p = tP T := by omega
      subst e
      refine q_iload hC dX10_ownBy_5 ?_
      refine q_aload_n hC dX10_ownBy_7 ?_
      refine q_getI hC (by first | assumption | rfl) flX10_67 dX10_ownBy_8 ?_
      rw [hT]
      refine q_icmp_ge hC 39 dX10_ownBy_11 (by decide) (fun hb => ?_) (fun hb => ?_)
      · refine q_iload_n hC dX10_ownBy_39 ?_
        refine q_iret hC dX10_ownBy_40 ?_
        exact ⟨rfl, rfl⟩
      · exact absurd (nI_le (Nat.le_refl _) (by omega)) hb
    | succ n ih =>
      intro p hp
      refine q_iload hC dX10_ownBy_5 ?_
      refine q_aload_n hC dX10_ownBy_7 ?_
      refine q_getI hC (by first | assumption | rfl) flX10_67 dX10_ownBy_8 ?_
      rw [hT]
      refine q_icmp_ge hC 39 dX10_ownBy_11 (by decide) (fun hb => ?_) (fun hb => ?_)
      · exact absurd ((nI_leI (by omega) (by omega)).mp hb) (by omega)
      · have hp8 : p < 8 := by omega
        refine q_iload_n hC dX10_ownBy_14 ?_
        refine q_aload_n hC dX10_ownBy_15 ?_
        refine q_iload hC dX10_ownBy_16 ?_
        refine q_ialdn hC (by first | assumption | rfl) (by first | assumption | omega) dX10_ownBy_18 ?_
        refine q_iload_n hC dX10_ownBy_19 ?_
        refine q_icmp_ne hC 30 dX10_ownBy_20 (by decide) (fun hb2 => ?_) (fun hb2 => ?_)
        · refine q_iconst (v := nI 0) hC dX10_ownBy_30 (by decide) ?_
          refine q_ior hC dX10_ownBy_31 ?_
          rw [show nI 0 = (if decide (S.1 q p = f) = true then nI (2 ^ p) else nI 0) by simp [hb2], msk_or (fun p => decide (S.1 q p = f)) p]
          refine q_istore_3 hC dX10_ownBy_32 ?_
          refine q_inc1_4 hC dX10_ownBy_33 ?_
          refine q_goto hC 5 dX10_ownBy_36 (by decide) ?_
          exact ih (p + 1) (by omega)
        · refine q_iconst (v := nI 1) hC dX10_ownBy_23 (by decide) ?_
          refine q_iload hC dX10_ownBy_24 ?_
          refine q_ishl hC dX10_ownBy_26 ?_
          rw [sh1 (by omega)]
          refine q_goto hC 31 dX10_ownBy_27 (by decide) ?_
          refine q_ior hC dX10_ownBy_31 ?_
          rw [show nI (2 ^ p) = (if decide (S.1 q p = f) = true then nI (2 ^ p) else nI 0) by simp [hb2], msk_or (fun p => decide (S.1 q p = f)) p]
          refine q_istore_3 hC dX10_ownBy_32 ?_
          refine q_inc1_4 hC dX10_ownBy_33 ?_
          refine q_goto hC 5 dX10_ownBy_36 (by decide) ?_
          exact ih (p + 1) (by omega)
  refine q_iconst (v := nI 0) hC dX10_ownBy_0 (by decide) ?_
  refine q_istore_3 hC dX10_ownBy_1 ?_
  refine q_iconst (v := nI 0) hC dX10_ownBy_2 (by decide) ?_
  refine q_istore_4 hC dX10_ownBy_3 ?_
  exact loop (tP T) 0 (by omega)
theorem m_own (θ : Site) (S : St) (g : Nat) (T : Tn) (N : Nw) (hok : TnOk T) (hNo : NwOk T N) (hT : S.1 0 2 = nI (tP T)) (hN : ∀ p, p < tP T → S.1 8 p = mdO (nO N p)) (hg : g < 4) : Cti yX10_ownBy cX10_ownBy 5 (some .int) 0 θ shM [.ref (sA θ 0), .ref (sA θ 8), .int (nI g)] S (fun r S' => r = nI (owm N g) ∧ S' = S) := by
  have e : msk (fun p => decide (S.1 8 p = nI g)) (tP T) = owm N g := by
    rw [owm_P hNo hok.1 (by omega)]
    exact msk_congr (fun p hp => by rw [hN p hp]; exact decide_eq_decide.mpr (mdO_eq hg))
  rw [← e]
  exact m_ownBy θ S 8 (nI g) T hok hT rfl
theorem m_many (θ : Site) (S : St) (m : Nat) (hm : m < 256) : Cti yX10_many cX10_many 3 (some .int) 0 θ shM [.int (nI m)] S (fun r S' => r = nI (popc m) ∧ S' = S) := by
  refine Cti.mk (own := RX10) 2 [some (.int (nI m)), none, none] (fun K hC => ?_)
  have loop : ∀ k l n, l ≤ k → l < 256 → n + popc l = popc m → K 4 [some (.int (nI m)), some (.int (nI n)), some (.int (nI l))] [] S := by
    intro k
    induction k with
    | zero =>
      intro l n hl hl2 hn
      have e : l = 0 := by omega
      subst e
      have e0 : popc 0 = 0 := by decide
      rw [e0, Nat.add_zero] at hn
      refine q_iload_n hC dX10_many_4 ?_
      refine q_if_eq hC 20 dX10_many_5 (by decide) (fun hb => ?_) (fun hb => ?_)
      · refine q_iload_n hC dX10_many_20 ?_
        refine q_iret hC dX10_many_21 ?_
        exact ⟨by rw [hn], rfl⟩
      · exact absurd rfl hb
    | succ k ih =>
      intro l n hl hl2 hn
      by_cases e : l = 0
      · exact ih l n (by omega) hl2 hn
      · obtain ⟨s1, s2⟩ := popc_step hl2 e
        refine q_iload_n hC dX10_many_4 ?_
        refine q_if_eq hC 20 dX10_many_5 (by decide) (fun hb => ?_) (fun hb => ?_)
        · exact absurd (nI_small (b := 0) (by omega) (by omega) hb) e
        · refine q_inc1_1 hC dX10_many_8 ?_
          refine q_iload_n hC dX10_many_11 ?_
          refine q_iload_n hC dX10_many_12 ?_
          refine q_iconst (v := nI 1) hC dX10_many_13 (by decide) ?_
          refine q_isub hC dX10_many_14 ?_
          rw [pk_sub (by omega)]
          refine q_iand hC dX10_many_15 ?_
          rw [and_n]
          refine q_istore_2 hC dX10_many_16 ?_
          refine q_goto hC 4 dX10_many_17 (by decide) ?_
          exact ih _ (n + 1) (by omega) (by omega) (by omega)
  refine q_iconst (v := nI 0) hC dX10_many_0 (by decide) ?_
  refine q_istore_1 hC dX10_many_1 ?_
  refine q_iload_n hC dX10_many_2 ?_
  refine q_istore_2 hC dX10_many_3 ?_
  exact loop 255 m 0 (by omega) hm (by omega)
theorem m_trace (θ : Site) (S : St) (L : Nat) (x : Nat → Nat) (T : Tn) (N : Nw) (im : Nat → Option Nw) (tr : Int64) (hA : AOk T N im) (hR : RM S L x T N im tr)  : Ctl yX10_trace cX10_trace 1 (some .long) 20 θ shM [.ref (sA θ 0)] S (fun r S' => r = tr ∧ RM S' L x T N im tr) := by
  obtain ⟨hok, hNo, hIm⟩ := hA
  have hR' := hR
  obtain ⟨hx, hT, hN, hI, htr⟩ := hR
  have h8 := hok.1
  have hF4 := hok.2.1
  refine Ctl.mk (own := RX10) 0 [some (.ref (sA θ 0))] (fun K hC => ?_)
  refine q_aload_n hC dX10_trace_0 ?_
  refine q_getL hC (by first | assumption | rfl) flX10_227 dX10_trace_1 ?_
  rw [htr]
  refine q_lret hC dX10_trace_4 ?_
  exact ⟨rfl, hR'⟩
theorem m_clear (θ : Site) (S : St) (L : Nat) (x : Nat → Nat) (T : Tn) (N : Nw) (im : Nat → Option Nw) (tr : Int64) (hA : AOk T N im) (hR : RM S L x T N im tr)  : Cti yX10_clear cX10_clear 2 (some .int) 20 θ shM [.ref (sA θ 0)] S (fun r S' => r = nI L ∧ RM S' 0 x T N im tr) := by
  obtain ⟨hok, hNo, hIm⟩ := hA
  have hR' := hR
  obtain ⟨hx, hT, hN, hI, htr⟩ := hR
  have h8 := hok.1
  have hF4 := hok.2.1
  refine Cti.mk (own := RX10) 1 [some (.ref (sA θ 0)), none] (fun K hC => ?_)
  refine q_aload_n hC dX10_clear_0 ?_
  refine q_getI hC (by first | assumption | rfl) flX10_80 dX10_clear_1 ?_
  rw [hx.2.2.1]
  refine q_istore_1 hC dX10_clear_4 ?_
  refine q_aload_n hC dX10_clear_5 ?_
  refine q_iconst (v := nI 0) hC dX10_clear_6 (by decide) ?_
  refine q_putI hC (by first | assumption | rfl) fpX10_80 dX10_clear_7 ?_
  refine q_iload_n hC dX10_clear_10 ?_
  refine q_iret hC dX10_clear_11 ?_
  refine ⟨rfl, ⟨by omega, hx.2.1, up_s, fun i hi => by omega⟩, hT.go (up_of (by decide)) (up_of (by decide)) (fun a g1 g2 => up_oc (by omega)), hN.go (up_of (by decide)) (fun a g1 g2 => up_oc (by omega)), hI.go (up_oc (by decide)), htr⟩
theorem m_type (θ : Site) (S : St) (L : Nat) (x : Nat → Nat) (T : Tn) (N : Nw) (im : Nat → Option Nw) (tr : Int64) (hA : AOk T N im) (hR : RM S L x T N im tr) (v : Int64) (n : Int32) : Cti yX10_type cX10_type 5 (some .int) 20 θ shM [.ref (sA θ 0), .long v, .int n] S (fun r S' => r = (sType L x v n).1 ∧ RM S' (sType L x v n).2.1 (sType L x v n).2.2 T N im tr) := by
  obtain ⟨hok, hNo, hIm⟩ := hA
  have hR' := hR
  obtain ⟨hx, hT, hN, hI, htr⟩ := hR
  have h8 := hok.1
  have hF4 := hok.2.1
  have hL := hx.1
  refine Cti.mk (own := RX10) 1 [some (.ref (sA θ 0)), some (.long v), none, some (.int n), none] (fun K hC => ?_)
  refine q_iload_n hC dX10_type_0 ?_
  refine q_i2l hC dX10_type_1 ?_
  refine q_lconst (v := lN 1) hC dX10_type_2 (by decide) ?_
  refine q_ldc2 hC klX10_78 dX10_type_3 ?_
  refine q_calliS3 hC csX10_71 dX10_type_6 (m_in θ _ _ _ _) (by decide) (fun r S1 hr => ?_)
  obtain ⟨rfl, hS⟩ := hr
  have hS := hS.symm
  subst hS
  cases hi : ixN n 9 with
  | none =>
    have e : sType L x v n = (-1, L, x) := by unfold sType; rw [hi]
    have h1 : ¬ (lN 1 ≤ n.toInt64 ∧ n.toInt64 ≤ lN 8) := fun z => by
      have : (ixN n 9).isSome = true := (in_ix (m := 8) (by decide)).mp ⟨Int64.le_trans (by decide) z.1, z.2⟩
      rw [hi] at this; cases this
    rw [if_neg h1]
    refine q_if_ne hC 14 dX10_type_9 (by decide) (fun hb => ?_) (fun hb => ?_)
    · exact absurd rfl hb
    · refine q_iconst (v := (-1)) hC dX10_type_12 (by decide) ?_
      refine q_iret hC dX10_type_13 ?_
      rw [e]
      exact ⟨rfl, hR'⟩
  | some k =>
    obtain ⟨hk, rfl⟩ := ixN_some (by decide) hi
    have key : (lN 1 ≤ (nI k).toInt64 ∧ (nI k).toInt64 ≤ lN 8) ↔ 1 ≤ k := by
      rw [nI_l (by omega), lN_le (by omega) (by omega), lN_le (by omega) (by omega)]; omega
    by_cases k0 : k = 0
    · subst k0
      have e : sType L x v (nI 0) = (-1, L, x) := by unfold sType; rw [hi]; rfl
      rw [if_neg (fun z => by have := key.mp z; omega)]
      refine q_if_ne hC 14 dX10_type_9 (by decide) (fun hb => ?_) (fun hb => ?_)
      · exact absurd rfl hb
      · refine q_iconst (v := (-1)) hC dX10_type_12 (by decide) ?_
        refine q_iret hC dX10_type_13 ?_
        rw [e]
        exact ⟨rfl, hR'⟩
    · rw [if_pos (key.mpr (by omega))]
      refine q_if_ne hC 14 dX10_type_9 (by decide) (fun hb => ?_) (fun hb => ?_)
      · refine q_aload_n hC dX10_type_14 ?_
        refine q_getI hC (by first | assumption | rfl) flX10_80 dX10_type_15 ?_
        rw [hx.2.2.1]
        refine q_iload_n hC dX10_type_18 ?_
        refine q_iadd hC dX10_type_19 ?_
        rw [nI_add]
        refine q_sipush (v := nI 300) hC dX10_type_20 (by decide) ?_
        refine q_icmp_le hC 29 dX10_type_23 (by decide) (fun hb3 => ?_) (fun hb3 => ?_)
        · have h3 : L + k ≤ 300 := (nI_leI (by omega) (by omega)).mp hb3
          have e : sType L x v (nI k) = (nI (L + k), L + k, txU L x v k) := by
            unfold sType
            rw [hi]
            cases k with
            | zero => omega
            | succ k => simp only [if_pos h3]
          have loop : ∀ j S1, j ≤ k → (∀ i, i ≠ 1 → S1.1 0 i = S.1 0 i) → (∀ a, 2 ≤ a → S1.1 a = S.1 a) → S1.2 = S.2 → S1.1 0 1 = nI (L + (k - j)) → (∀ i, i < L + (k - j) → S1.1 1 i = nI (txU L x v k i)) → K 34 [some (.ref (sA θ 0)), some (.long v), none, some (.int (nI k)), some (.int (nI j - nI 1))] [] S1 := by
            intro j
            induction j with
            | zero =>
              intro S1 hj c0 c1 c2 g1 g2
              refine q_iload hC dX10_type_34 ?_
              refine q_if_lt hC 76 dX10_type_36 (by decide) (fun hb4 => ?_) (fun hb4 => ?_)
              · refine q_aload_n hC dX10_type_76 ?_
                refine q_getI hC (by first | assumption | rfl) flX10_80 dX10_type_77 ?_
                rw [g1]
                refine q_iret hC dX10_type_80 ?_
                rw [e]
                refine ⟨rfl, ⟨h3, fun i => ?_, g1, g2⟩, hT.go (c0 2 (by omega)) (c0 6 (by omega)) (fun a g1 g2 => c1 a (by omega)), hN.go (c0 12 (by omega)) (fun a g1 g2 => c1 a (by omega)), hI.go (c1 12 (by omega)), by rw [c2]; exact htr⟩
                show txU L x v k i < 256
                unfold txU
                split
                · exact Nat.mod_lt _ (by omega)
                · exact hx.2.1 i
              · exact absurd (by decide) hb4
            | succ j ih =>
              intro S1 hj c0 c1 c2 g1 g2
              have e0 : nI (j + 1) - nI 1 = nI j := by rw [pk_sub (by omega)]; rfl
              rw [e0]
              refine q_iload hC dX10_type_34 ?_
              refine q_if_lt hC 76 dX10_type_36 (by decide) (fun hb4 => ?_) (fun hb4 => ?_)
              · exact absurd hb4 (nI_pos (by omega))
              · refine q_aload_n hC dX10_type_39 ?_
                refine q_getR hC (by first | assumption | rfl) flX10_7 dX10_type_40 ?_
                refine q_aload_n hC dX10_type_43 ?_
                refine q_getI hC (by first | assumption | rfl) flX10_80 dX10_type_44 ?_
                rw [g1]
                refine q_lload_n hC dX10_type_47 ?_
                refine q_bipush (v := nI 8) hC dX10_type_48 (by decide) ?_
                refine q_iload hC dX10_type_50 ?_
                refine q_imul hC dX10_type_52 ?_
                rw [pk_mul]
                refine q_lshr hC dX10_type_53 ?_
                refine q_ldc2 hC klX10_83 dX10_type_54 ?_
                refine q_land hC dX10_type_57 ?_
                refine q_l2i hC dX10_type_58 ?_
                rw [m255]
                refine q_iastn hC (by first | assumption | rfl) (by first | assumption | omega) dX10_type_59 ?_
                refine q_aload_n hC dX10_type_60 ?_
                refine q_dup hC dX10_type_61 rfl ?_
                refine q_getI hC (by first | assumption | rfl) flX10_80 dX10_type_62 ?_
                rw [up_oc (by decide), g1]
                refine q_iconst (v := nI 1) hC dX10_type_65 (by decide) ?_
                refine q_iadd hC dX10_type_66 ?_
                rw [nI_add]
                refine q_putI hC (by first | assumption | rfl) fpX10_80 dX10_type_67 ?_
                refine q_iinc_4 (v := nI j - nI 1) hC dX10_type_70 ?_ ?_
                · rw [Int32.sub_eq_add_neg]; rfl
                refine q_goto hC 34 dX10_type_73 (by decide) ?_
                refine ih _ (by omega) (fun i hi => by rw [up_of hi, up_oc (by decide)]; exact c0 i hi) (fun a ha => by rw [up_oc (by omega), up_oc (by omega)]; exact c1 a ha) c2 ?_ (fun i hi => ?_)
                · rw [up_s]; congr 1; omega
                · rw [up_oc (by decide)]
                  by_cases e : i = L + (k - (j + 1))
                  · subst e
                    rw [up_s]
                    congr 1
                    unfold txU
                    rw [if_pos (by omega)]
                    congr 1; omega
                  · rw [up_of e]; exact g2 i (by omega)
          refine q_iload_n hC dX10_type_29 ?_
          refine q_iconst (v := nI 1) hC dX10_type_30 (by decide) ?_
          refine q_isub hC dX10_type_31 ?_
          refine q_istore_4 hC dX10_type_32 ?_
          refine loop k S (Nat.le_refl _) (fun _ _ => rfl) (fun _ _ => rfl) rfl (by rw [hx.2.2.1]; congr 1; omega) (fun i hi => ?_)
          rw [hx.2.2.2 i (by omega)]
          congr 1
          unfold txU
          rw [if_neg (by omega)]
        · have h3 : ¬ L + k ≤ 300 := fun z => hb3 (nI_le z (by omega))
          have e : sType L x v (nI k) = (-3, L, x) := by
            unfold sType
            rw [hi]
            cases k with
            | zero => omega
            | succ k => simp only [if_neg h3]
          refine q_bipush (v := (-3)) hC dX10_type_26 (by decide) ?_
          refine q_iret hC dX10_type_28 ?_
          rw [e]
          exact ⟨rfl, hR'⟩
      · exact absurd hb (by decide)
theorem m_town (θ : Site) (S : St) (L : Nat) (x : Nat → Nat) (T : Tn) (N : Nw) (im : Nat → Option Nw) (tr : Int64) (hA : AOk T N im) (hR : RM S L x T N im tr) : Cti yX10_town cX10_town 3 (some .int) 20 θ shM [.ref (sA θ 0)] S (fun r S' => (∀ s, pAll L x 301 0 T00 N00 0 = .inl s → r = -10 - nI s ∧ RM S' L x T N im tr) ∧ ∀ k T' N', pAll L x 301 0 T00 N00 0 = .inr (k, T', N') → r = nI k ∧ RM S' 0 x T' (nFor N') (fun _ => none) tr) := by
  obtain ⟨hok, hNo, hIm⟩ := hA
  have hR' := hR
  obtain ⟨hx, hT, hN, hI, htr⟩ := hR
  have h8 := hok.1
  have hF4 := hok.2.1
  refine Cti.mk (own := RX10) 2 [some (.ref (sA θ 0)), none, none] (fun K hC => ?_)
  refine q_aload_n hC dX10_town_0 ?_
  refine q_calliV0 hC (by first | assumption | rfl) cvX10_154 dX10_town_1 (m_takesAll θ _ L x hx) (by decide) (fun r1 S1 hr1 => ?_)
  obtain ⟨hF1, p1, p2⟩ := hr1
  cases hp : pAll L x 301 0 T00 N00 0 with
  | inl s =>
    obtain ⟨rfl, hs⟩ := p1 s hp
    refine q_istore_1 hC dX10_town_4 ?_
    refine q_iload_n hC dX10_town_5 ?_
    refine q_if_ge hC 17 dX10_town_6 (by decide) (fun hb => ?_) (fun hb => ?_)
    · exact absurd hb (by decide)
    · refine q_bipush (v := (-10)) hC dX10_town_9 (by decide) ?_
      refine q_aload_n hC dX10_town_11 ?_
      refine q_getI hC (by first | assumption | rfl) flX10_88 dX10_town_12 ?_
      rw [hs]
      refine q_isub hC dX10_town_15 ?_
      refine q_iret hC dX10_town_16 ?_
      refine ⟨fun s' e' => ?_, fun k T' N' e' => (by rw [hp] at e'; cases e')⟩
      rw [hp] at e'
      cases e'
      exact ⟨rfl, hR'.scr (fun j hj => hF1.1 j (by omega)) (fun a g1 g2 => hF1.2.1 a (by omega) (by omega)) (hF1.2.2 16 (by omega))⟩
  | inr z =>
    obtain ⟨k, T', N'⟩ := z
    obtain ⟨rfl, hk, hM, hok', hNo'⟩ := p2 k T' N' hp
    obtain ⟨r1, r2, r3, r4⟩ := hM
    have h8' := hok'.1
    have hF4' := hok'.2.1
    refine q_istore_1 hC dX10_town_4 ?_
    refine q_iload_n hC dX10_town_5 ?_
    refine q_if_ge hC 17 dX10_town_6 (by decide) (fun hb => ?_) (fun hb => ?_)
    · refine q_aload_n hC dX10_town_17 ?_
      refine q_aload_n hC dX10_town_18 ?_
      refine q_getI hC (by first | assumption | rfl) flX10_120 dX10_town_19 ?_
      rw [r1]
      refine q_putI hC (by first | assumption | rfl) fpX10_67 dX10_town_22 ?_
      refine q_aload_n hC dX10_town_25 ?_
      refine q_aload_n hC dX10_town_26 ?_
      refine q_getI hC (by first | assumption | rfl) flX10_131 dX10_town_27 ?_
      rw [up_of (by decide), r2]
      refine q_putI hC (by first | assumption | rfl) fpX10_75 dX10_town_30 ?_
      generalize hS2 : up (up S1 0 2 (nI (tP T'))) 0 6 (nI (tF T')) = S2
      have q2 : S2.1 0 2 = nI (tP T') := by rw [← hS2, up_of (by decide), up_s]
      have q6 : S2.1 0 6 = nI (tF T') := by rw [← hS2, up_s]
      have q0 : ∀ j, j ≠ 2 → j ≠ 6 → S2.1 0 j = S1.1 0 j := fun j h1 h2 => by rw [← hS2, up_of h2, up_of h1]
      have qc : ∀ a, a ≠ 0 → S2.1 a = S1.1 a := fun a ha => by rw [← hS2, up_oc ha, up_oc ha]
      have qL : S2.2 = S1.2 := by rw [← hS2]; rfl
      have fams : ∀ n f S3, f + n = tF T' → (∀ j, S3.1 0 j = S2.1 0 j) → (∀ a, 10 ≤ a → S3.1 a = S2.1 a) → S3.1 1 = S2.1 1 → S3.2 = S2.2 → (∀ p, p < tP T' → S3.1 2 p = nI (tA T' p) ∧ S3.1 3 p = nI (tB T' p) ∧ S3.1 4 p = nI (tY T' p) ∧ S3.1 8 p = mdO (nO N' p) ∧ S3.1 9 p = nI (nF N' p)) → (∀ g, g < f → S3.1 5 g = nI (tH T' g) ∧ S3.1 6 g = nI (tG T' g) ∧ S3.1 7 g = nI (tN T' g)) → K 129 [some (.ref (sA θ 0)), some (.int (nI k)), some (.int (nI f))] [] S3 := by
        intro n
        induction n with
        | zero =>
          intro f S3 hf c0 c1 ct cL g1 g2
          have e : f = tF T' := by omega
          subst e
          refine q_iload_n hC dX10_town_129 ?_
          refine q_aload_n hC dX10_town_130 ?_
          refine q_getI hC (by first | assumption | rfl) flX10_75 dX10_town_131 ?_
          rw [c0, q6]
          refine q_icmp_ge hC 194 dX10_town_134 (by decide) (fun hb2 => ?_) (fun hb2 => ?_)
          · refine q_aload_n hC dX10_town_194 ?_
            refine q_iconst (v := nI 0) hC dX10_town_195 (by decide) ?_
            refine q_putI hC (by first | assumption | rfl) fpX10_158 dX10_town_196 ?_
            refine q_aload_n hC dX10_town_199 ?_
            refine q_iconst (v := nI 0) hC dX10_town_200 (by decide) ?_
            refine q_putI hC (by first | assumption | rfl) fpX10_80 dX10_town_201 ?_
            refine q_aload_n hC dX10_town_204 ?_
            refine q_getR hC (by first | assumption | rfl) flX10_43 dX10_town_205 ?_
            refine q_iconst (v := nI 0) hC dX10_town_208 (by decide) ?_
            refine q_iconst (v := nI 0) hC dX10_town_209 (by decide) ?_
            refine q_iastn hC (by first | assumption | rfl) (by first | assumption | omega) dX10_town_210 ?_
            refine q_aload_n hC dX10_town_211 ?_
            refine q_getR hC (by first | assumption | rfl) flX10_43 dX10_town_212 ?_
            refine q_bipush (v := nI 40) hC dX10_town_215 (by decide) ?_
            refine q_iconst (v := nI 0) hC dX10_town_217 (by decide) ?_
            refine q_iastn hC (by first | assumption | rfl) (by first | assumption | omega) dX10_town_218 ?_
            refine q_iload_n hC dX10_town_219 ?_
            refine q_iret hC dX10_town_220 ?_
            refine ⟨fun s' e' => (by rw [hp] at e'; cases e'), fun k2 T2 N2 e' => ?_⟩
            rw [hp] at e'
            cases e'
            generalize hS4 : up (up (up (up S3 0 12 (nI 0)) 0 1 (nI 0)) 12 0 (nI 0)) 12 40 (nI 0) = S4
            have d0 : ∀ j, j ≠ 12 → j ≠ 1 → S4.1 0 j = S3.1 0 j := fun j h1 h2 => by rw [← hS4, up_oc (by decide), up_oc (by decide), up_of h2, up_of h1]
            have dc : ∀ a, a ≠ 0 → a ≠ 12 → S4.1 a = S3.1 a := fun a h1 h2 => by rw [← hS4, up_oc h2, up_oc h2, up_oc h1, up_oc h1]
            refine ⟨rfl, ⟨by omega, hx.2.1, by rw [← hS4, up_oc (by decide), up_oc (by decide), up_s], fun i hi => by omega⟩, ⟨by rw [d0 2 (by decide) (by decide), c0]; exact q2, by rw [d0 6 (by decide) (by decide), c0]; exact q6, fun p hp => ?_, fun g hg => ?_⟩, ⟨fun p hp => ?_, by rw [← hS4, up_oc (by decide), up_oc (by decide), up_of (by decide), up_s]; rfl, fun _ => 0, fun _ => 0, fun k hk => absurd hk (Nat.not_lt_zero k), fun f => rfl⟩, fun i hi => ⟨fun _ => ?_, fun N9 e9 => (by cases e9)⟩, ?_⟩
            · rw [dc 2 (by decide) (by decide), dc 3 (by decide) (by decide), dc 4 (by decide) (by decide)]
              exact ⟨(g1 p hp).1, (g1 p hp).2.1, (g1 p hp).2.2.1⟩
            · rw [dc 5 (by decide) (by decide), dc 6 (by decide) (by decide), dc 7 (by decide) (by decide)]
              exact g2 g hg
            · rw [dc 8 (by decide) (by decide), dc 9 (by decide) (by decide)]
              exact ⟨(g1 p hp).2.2.2.1, (g1 p hp).2.2.2.2⟩
            · rcases (show i = 0 ∨ i = 1 by omega) with rfl | rfl
              · rw [← hS4, up_of (by decide), up_s]
              · rw [← hS4, up_s]
            · have : S4.2 = S3.2 := by rw [← hS4]; rfl
              rw [this, cL, qL, hF1.2.2 16 (by omega)]; exact htr
          · exact absurd (nI_le (Nat.le_refl _) (by omega)) hb2
        | succ n ih =>
          intro f S3 hf c0 c1 ct cL g1 g2
          have r13 : ∀ j, S3.1 13 j = S1.1 13 j := fun j => by rw [c1 13 (by omega), qc 13 (by decide)]
          obtain ⟨f1, f2, f3⟩ := r4 f (by omega)
          refine q_iload_n hC dX10_town_129 ?_
          refine q_aload_n hC dX10_town_130 ?_
          refine q_getI hC (by first | assumption | rfl) flX10_75 dX10_town_131 ?_
          rw [c0, q6]
          refine q_icmp_ge hC 194 dX10_town_134 (by decide) (fun hb2 => ?_) (fun hb2 => ?_)
          · exact absurd ((nI_leI (by omega) (by omega)).mp hb2) (by omega)
          · refine q_aload_n hC dX10_town_137 ?_
            refine q_getR hC (by first | assumption | rfl) flX10_22 dX10_town_138 ?_
            refine q_iload_n hC dX10_town_141 ?_
            refine q_aload_n hC dX10_town_142 ?_
            refine q_getR hC (by first | assumption | rfl) flX10_46 dX10_town_143 ?_
            refine q_bipush (v := nI 40) hC dX10_town_146 (by decide) ?_
            refine q_iconst (v := nI 3) hC dX10_town_148 (by decide) ?_
            refine q_iload_n hC dX10_town_149 ?_
            refine q_imul hC dX10_town_150 ?_
            rw [pk_mul]
            refine q_iadd hC dX10_town_151 ?_
            rw [nI_add]
            refine q_ialdn hC (by first | assumption | rfl) (by first | assumption | omega) dX10_town_152 ?_
            rw [r13, f1]
            refine q_iastn hC (by first | assumption | rfl) (by first | assumption | omega) dX10_town_153 ?_
            refine q_aload_n hC dX10_town_154 ?_
            refine q_getR hC (by first | assumption | rfl) flX10_25 dX10_town_155 ?_
            refine q_iload_n hC dX10_town_158 ?_
            refine q_aload_n hC dX10_town_159 ?_
            refine q_getR hC (by first | assumption | rfl) flX10_46 dX10_town_160 ?_
            refine q_bipush (v := nI 41) hC dX10_town_163 (by decide) ?_
            refine q_iconst (v := nI 3) hC dX10_town_165 (by decide) ?_
            refine q_iload_n hC dX10_town_166 ?_
            refine q_imul hC dX10_town_167 ?_
            rw [pk_mul]
            refine q_iadd hC dX10_town_168 ?_
            rw [nI_add]
            refine q_ialdn hC (by first | assumption | rfl) (by first | assumption | omega) dX10_town_169 ?_
            rw [up_oc (by decide), r13, f2]
            refine q_iastn hC (by first | assumption | rfl) (by first | assumption | omega) dX10_town_170 ?_
            refine q_aload_n hC dX10_town_171 ?_
            refine q_getR hC (by first | assumption | rfl) flX10_28 dX10_town_172 ?_
            refine q_iload_n hC dX10_town_175 ?_
            refine q_aload_n hC dX10_town_176 ?_
            refine q_getR hC (by first | assumption | rfl) flX10_46 dX10_town_177 ?_
            refine q_bipush (v := nI 42) hC dX10_town_180 (by decide) ?_
            refine q_iconst (v := nI 3) hC dX10_town_182 (by decide) ?_
            refine q_iload_n hC dX10_town_183 ?_
            refine q_imul hC dX10_town_184 ?_
            rw [pk_mul]
            refine q_iadd hC dX10_town_185 ?_
            rw [nI_add]
            refine q_ialdn hC (by first | assumption | rfl) (by first | assumption | omega) dX10_town_186 ?_
            rw [up_oc (by decide), up_oc (by decide), r13, f3]
            refine q_iastn hC (by first | assumption | rfl) (by first | assumption | omega) dX10_town_187 ?_
            refine q_inc1_2 hC dX10_town_188 ?_
            refine q_goto hC 129 dX10_town_191 (by decide) ?_
            refine ih (f + 1) _ (by omega) (fun j => by rw [up_oc (by decide), up_oc (by decide), up_oc (by decide)]; exact c0 j) (fun a ha => by rw [up_oc (by omega), up_oc (by omega), up_oc (by omega)]; exact c1 a ha) (by rw [up_oc (by decide), up_oc (by decide), up_oc (by decide)]; exact ct) cL (fun p hp => ?_) (fun g hg => ?_)
            · rw [up_oc (show 2 ≠ 7 by decide), up_oc (show 2 ≠ 6 by decide), up_oc (show 2 ≠ 5 by decide), up_oc (show 3 ≠ 7 by decide), up_oc (show 3 ≠ 6 by decide), up_oc (show 3 ≠ 5 by decide), up_oc (show 4 ≠ 7 by decide), up_oc (show 4 ≠ 6 by decide), up_oc (show 4 ≠ 5 by decide), up_oc (show 8 ≠ 7 by decide), up_oc (show 8 ≠ 6 by decide), up_oc (show 8 ≠ 5 by decide), up_oc (show 9 ≠ 7 by decide), up_oc (show 9 ≠ 6 by decide), up_oc (show 9 ≠ 5 by decide)]
              exact g1 p hp
            · rw [up_oc (show 5 ≠ 7 by decide), up_oc (show 5 ≠ 6 by decide), up_oc (show 6 ≠ 7 by decide)]
              by_cases e : g = f
              · subst e
                rw [up_s, up_s, up_s]; exact ⟨rfl, rfl, rfl⟩
              · rw [up_of e, up_of e, up_of e, up_oc (show 6 ≠ 5 by decide), up_oc (show 7 ≠ 6 by decide), up_oc (show 7 ≠ 5 by decide)]
                exact g2 g (by omega)
      have pcs : ∀ n p S3, p + n = tP T' → (∀ j, S3.1 0 j = S2.1 0 j) → (∀ a, 10 ≤ a → S3.1 a = S2.1 a) → S3.1 1 = S2.1 1 → S3.2 = S2.2 → (∀ q, q < p → S3.1 2 q = nI (tA T' q) ∧ S3.1 3 q = nI (tB T' q) ∧ S3.1 4 q = nI (tY T' q) ∧ S3.1 8 q = mdO (nO N' q) ∧ S3.1 9 q = nI (nF N' q)) → K 35 [some (.ref (sA θ 0)), some (.int (nI k)), some (.int (nI p))] [] S3 := by
        intro n
        induction n with
        | zero =>
          intro p S3 hp c0 c1 ct cL g1
          have e : p = tP T' := by omega
          subst e
          refine q_iload_n hC dX10_town_35 ?_
          refine q_aload_n hC dX10_town_36 ?_
          refine q_getI hC (by first | assumption | rfl) flX10_67 dX10_town_37 ?_
          rw [c0, q2]
          refine q_icmp_ge hC 127 dX10_town_40 (by decide) (fun hb2 => ?_) (fun hb2 => ?_)
          · refine q_iconst (v := nI 0) hC dX10_town_127 (by decide) ?_
            refine q_istore_2 hC dX10_town_128 ?_
            exact fams (tF T') 0 S3 (by omega) c0 c1 ct cL g1 (fun g hg => by omega)
          · exact absurd (nI_le (Nat.le_refl _) (by omega)) hb2
        | succ n ih =>
          intro p S3 hp c0 c1 ct cL g1
          have r13 : ∀ j, S3.1 13 j = S1.1 13 j := fun j => by rw [c1 13 (by omega), qc 13 (by decide)]
          obtain ⟨f1, f2, f3, f4, f5⟩ := r3 p (by omega)
          refine q_iload_n hC dX10_town_35 ?_
          refine q_aload_n hC dX10_town_36 ?_
          refine q_getI hC (by first | assumption | rfl) flX10_67 dX10_town_37 ?_
          rw [c0, q2]
          refine q_icmp_ge hC 127 dX10_town_40 (by decide) (fun hb2 => ?_) (fun hb2 => ?_)
          · exact absurd ((nI_leI (by omega) (by omega)).mp hb2) (by omega)
          · refine q_aload_n hC dX10_town_43 ?_
            refine q_getR hC (by first | assumption | rfl) flX10_13 dX10_town_44 ?_
            refine q_iload_n hC dX10_town_47 ?_
            refine q_aload_n hC dX10_town_48 ?_
            refine q_getR hC (by first | assumption | rfl) flX10_46 dX10_town_49 ?_
            refine q_iconst (v := nI 5) hC dX10_town_52 (by decide) ?_
            refine q_iload_n hC dX10_town_53 ?_
            refine q_imul hC dX10_town_54 ?_
            rw [pk_mul]
            refine q_ialdn hC (by first | assumption | rfl) (by first | assumption | omega) dX10_town_55 ?_
            rw [r13, f1]
            refine q_iastn hC (by first | assumption | rfl) (by first | assumption | omega) dX10_town_56 ?_
            refine q_aload_n hC dX10_town_57 ?_
            refine q_getR hC (by first | assumption | rfl) flX10_16 dX10_town_58 ?_
            refine q_iload_n hC dX10_town_61 ?_
            refine q_aload_n hC dX10_town_62 ?_
            refine q_getR hC (by first | assumption | rfl) flX10_46 dX10_town_63 ?_
            refine q_iconst (v := nI 5) hC dX10_town_66 (by decide) ?_
            refine q_iload_n hC dX10_town_67 ?_
            refine q_imul hC dX10_town_68 ?_
            rw [pk_mul]
            refine q_iconst (v := nI 1) hC dX10_town_69 (by decide) ?_
            refine q_iadd hC dX10_town_70 ?_
            rw [nI_add]
            refine q_ialdn hC (by first | assumption | rfl) (by first | assumption | omega) dX10_town_71 ?_
            rw [up_oc (by decide), r13, f2]
            refine q_iastn hC (by first | assumption | rfl) (by first | assumption | omega) dX10_town_72 ?_
            refine q_aload_n hC dX10_town_73 ?_
            refine q_getR hC (by first | assumption | rfl) flX10_19 dX10_town_74 ?_
            refine q_iload_n hC dX10_town_77 ?_
            refine q_aload_n hC dX10_town_78 ?_
            refine q_getR hC (by first | assumption | rfl) flX10_46 dX10_town_79 ?_
            refine q_iconst (v := nI 5) hC dX10_town_82 (by decide) ?_
            refine q_iload_n hC dX10_town_83 ?_
            refine q_imul hC dX10_town_84 ?_
            rw [pk_mul]
            refine q_iconst (v := nI 2) hC dX10_town_85 (by decide) ?_
            refine q_iadd hC dX10_town_86 ?_
            rw [nI_add]
            refine q_ialdn hC (by first | assumption | rfl) (by first | assumption | omega) dX10_town_87 ?_
            rw [up_oc (by decide), up_oc (by decide), r13, f3]
            refine q_iastn hC (by first | assumption | rfl) (by first | assumption | omega) dX10_town_88 ?_
            refine q_aload_n hC dX10_town_89 ?_
            refine q_getR hC (by first | assumption | rfl) flX10_31 dX10_town_90 ?_
            refine q_iload_n hC dX10_town_93 ?_
            refine q_aload_n hC dX10_town_94 ?_
            refine q_getR hC (by first | assumption | rfl) flX10_46 dX10_town_95 ?_
            refine q_iconst (v := nI 5) hC dX10_town_98 (by decide) ?_
            refine q_iload_n hC dX10_town_99 ?_
            refine q_imul hC dX10_town_100 ?_
            rw [pk_mul]
            refine q_iconst (v := nI 3) hC dX10_town_101 (by decide) ?_
            refine q_iadd hC dX10_town_102 ?_
            rw [nI_add]
            refine q_ialdn hC (by first | assumption | rfl) (by first | assumption | omega) dX10_town_103 ?_
            rw [up_oc (by decide), up_oc (by decide), up_oc (by decide), r13, f4]
            refine q_iastn hC (by first | assumption | rfl) (by first | assumption | omega) dX10_town_104 ?_
            refine q_aload_n hC dX10_town_105 ?_
            refine q_getR hC (by first | assumption | rfl) flX10_34 dX10_town_106 ?_
            refine q_iload_n hC dX10_town_109 ?_
            refine q_aload_n hC dX10_town_110 ?_
            refine q_getR hC (by first | assumption | rfl) flX10_46 dX10_town_111 ?_
            refine q_iconst (v := nI 5) hC dX10_town_114 (by decide) ?_
            refine q_iload_n hC dX10_town_115 ?_
            refine q_imul hC dX10_town_116 ?_
            rw [pk_mul]
            refine q_iconst (v := nI 4) hC dX10_town_117 (by decide) ?_
            refine q_iadd hC dX10_town_118 ?_
            rw [nI_add]
            refine q_ialdn hC (by first | assumption | rfl) (by first | assumption | omega) dX10_town_119 ?_
            rw [up_oc (by decide), up_oc (by decide), up_oc (by decide), up_oc (by decide), r13, f5]
            refine q_iastn hC (by first | assumption | rfl) (by first | assumption | omega) dX10_town_120 ?_
            refine q_inc1_2 hC dX10_town_121 ?_
            refine q_goto hC 35 dX10_town_124 (by decide) ?_
            refine ih (p + 1) _ (by omega) (fun j => by rw [up_oc (by decide), up_oc (by decide), up_oc (by decide), up_oc (by decide), up_oc (by decide)]; exact c0 j) (fun a ha => by rw [up_oc (by omega), up_oc (by omega), up_oc (by omega), up_oc (by omega), up_oc (by omega)]; exact c1 a ha) (by rw [up_oc (by decide), up_oc (by decide), up_oc (by decide), up_oc (by decide), up_oc (by decide)]; exact ct) cL (fun q hq => ?_)
            rw [up_oc (show 2 ≠ 9 by decide), up_oc (show 2 ≠ 8 by decide), up_oc (show 2 ≠ 4 by decide), up_oc (show 2 ≠ 3 by decide), up_oc (show 3 ≠ 9 by decide), up_oc (show 3 ≠ 8 by decide), up_oc (show 3 ≠ 4 by decide), up_oc (show 4 ≠ 9 by decide), up_oc (show 4 ≠ 8 by decide), up_oc (show 8 ≠ 9 by decide)]
            by_cases e : q = p
            · subst e
              rw [up_s, up_s, up_s, up_s, up_s]; exact ⟨rfl, rfl, rfl, rfl, rfl⟩
            · rw [up_of e, up_of e, up_of e, up_of e, up_of e, up_oc (show 3 ≠ 2 by decide), up_oc (show 4 ≠ 3 by decide), up_oc (show 4 ≠ 2 by decide), up_oc (show 8 ≠ 4 by decide), up_oc (show 8 ≠ 3 by decide), up_oc (show 8 ≠ 2 by decide), up_oc (show 9 ≠ 8 by decide), up_oc (show 9 ≠ 4 by decide), up_oc (show 9 ≠ 3 by decide), up_oc (show 9 ≠ 2 by decide)]
              exact g1 q (by omega)
      refine q_iconst (v := nI 0) hC dX10_town_33 (by decide) ?_
      refine q_istore_2 hC dX10_town_34 ?_
      exact pcs (tP T') 0 S2 (by omega) (fun _ => rfl) (fun _ _ => rfl) rfl rfl (fun q hq => by omega)
    · exact absurd (nI_pos' (by omega)) hb
