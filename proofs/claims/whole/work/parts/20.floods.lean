theorem c_chanceOf (θ : Site) (S : St) (q s : Nat) (fl : Nat → Nat) (T : Tn) (hq : shX[q]? = some (.inl (0, 8))) (hok : TnOk T) (hT : TwR S 4 T) (hfl : ∀ p, p < 8 → S.1 q p = nI (fl p)) (h9 : ∀ p, fl p ≤ 9) (hs : s < 256) : Ctl yX2_chanceOf cX2_chanceOf 6 (some .long) 0 θ shX [.ref (sA θ 45), .int (nI s), .ref (sA θ q)] S (fun r S' => r = lN (chc fl s (tP T)) ∧ S' = S) := by
  have h8 := hok.1
  obtain ⟨n1, n2, n3, n4⟩ := hT
  refine Ctl.mk (own := RX2) 3 [some (.ref (sA θ 45)), some (.int (nI s)), some (.ref (sA θ q)), none, none, none] (fun K hC => ?_)
  have loop : ∀ n p, p + n = tP T → K 5 [some (.ref (sA θ 45)), some (.int (nI s)), some (.ref (sA θ q)), some (.long (lN (chc fl s p))), none, some (.int (nI p))] [] S := by
    intro n
    induction n with
    | zero =>
      intro p hp
      have e : p = tP T := by omega
      subst e
      refine q_iload hC dX2_chanceOf_5 ?_
      refine q_aload_n hC dX2_chanceOf_7 ?_
      refine q_getR hC (by first | assumption | rfl) flX2_18 dX2_chanceOf_8 ?_
      refine q_getI hC (by first | assumption | rfl) flX2_32 dX2_chanceOf_11 ?_
      rw [n1]
      refine q_icmp_ge hC 51 dX2_chanceOf_14 (by decide) (fun hb => ?_) (fun hb => ?_)
      · refine q_lload_n hC dX2_chanceOf_51 ?_
        refine q_lret hC dX2_chanceOf_52 ?_
        exact ⟨rfl, rfl⟩
      · exact absurd (nI_le (Nat.le_refl _) (by omega)) hb
    | succ n ih =>
      intro p hp
      have hf9 := h9 p
      refine q_iload hC dX2_chanceOf_5 ?_
      refine q_aload_n hC dX2_chanceOf_7 ?_
      refine q_getR hC (by first | assumption | rfl) flX2_18 dX2_chanceOf_8 ?_
      refine q_getI hC (by first | assumption | rfl) flX2_32 dX2_chanceOf_11 ?_
      rw [n1]
      refine q_icmp_ge hC 51 dX2_chanceOf_14 (by decide) (fun hb => ?_) (fun hb => ?_)
      · exact absurd ((nI_leI (by omega) (by omega)).mp hb) (by omega)
      · refine q_lload_n hC dX2_chanceOf_17 ?_
        refine q_iload_n hC dX2_chanceOf_18 ?_
        refine q_iload hC dX2_chanceOf_19 ?_
        refine q_ishr hC dX2_chanceOf_21 ?_
        refine q_iconst (v := nI 1) hC dX2_chanceOf_22 (by decide) ?_
        refine q_iand hC dX2_chanceOf_23 ?_
        rw [bit_n (by omega) (by omega)]
        have hb2 : s / 2 ^ p % 2 < 2 := Nat.mod_lt _ (by omega)
        refine q_if_eq hC 35 dX2_chanceOf_24 (by decide) (fun hb3 => ?_) (fun hb3 => ?_)
        · have hbit : s / 2 ^ p % 2 = 0 := nI_small (by omega) (by omega) hb3
          refine q_bipush (v := nI 10) hC dX2_chanceOf_35 (by decide) ?_
          refine q_aload_n hC dX2_chanceOf_37 ?_
          refine q_iload hC dX2_chanceOf_38 ?_
          refine q_ialdn hC (by first | assumption | rfl) (by first | assumption | omega) dX2_chanceOf_40 ?_
          rw [hfl p (by omega)]
          refine q_isub hC dX2_chanceOf_41 ?_
          rw [pk_sub (by omega)]
          refine q_i2l hC dX2_chanceOf_42 ?_
          rw [nI_l (by omega)]
          refine q_lmul hC dX2_chanceOf_43 ?_
          rw [lN_mul, show chc fl s p * (10 - fl p) = chc fl s (p + 1) by simp [chc, hbit]]
          refine q_lstore_3 hC dX2_chanceOf_44 ?_
          refine q_inc1_5 hC dX2_chanceOf_45 ?_
          refine q_goto hC 5 dX2_chanceOf_48 (by decide) ?_
          exact ih (p + 1) (by omega)
        · have hbit : s / 2 ^ p % 2 = 1 := by
            have : ¬ s / 2 ^ p % 2 = 0 := fun z => hb3 (by rw [z]; rfl)
            omega
          refine q_aload_n hC dX2_chanceOf_27 ?_
          refine q_iload hC dX2_chanceOf_28 ?_
          refine q_ialdn hC (by first | assumption | rfl) (by first | assumption | omega) dX2_chanceOf_30 ?_
          rw [hfl p (by omega)]
          refine q_i2l hC dX2_chanceOf_31 ?_
          rw [nI_l (by omega)]
          refine q_goto hC 43 dX2_chanceOf_32 (by decide) ?_
          refine q_lmul hC dX2_chanceOf_43 ?_
          rw [lN_mul, show chc fl s p * fl p = chc fl s (p + 1) by simp [chc, hbit]]
          refine q_lstore_3 hC dX2_chanceOf_44 ?_
          refine q_inc1_5 hC dX2_chanceOf_45 ?_
          refine q_goto hC 5 dX2_chanceOf_48 (by decide) ?_
          exact ih (p + 1) (by omega)
  refine q_lconst (v := lN 1) hC dX2_chanceOf_0 (by decide) ?_
  refine q_lstore_3 hC dX2_chanceOf_1 ?_
  refine q_iconst (v := nI 0) hC dX2_chanceOf_2 (by decide) ?_
  refine q_istore_5 hC dX2_chanceOf_3 ?_
  exact loop (tP T) 0 (by omega)
theorem c_divideBoth (θ : Site) (S : St) (k : Nat) (z : Nat × Nat) (hk : 2 ≤ k) (hk2 : k < 100) (h1 : S.2 45 2 = lN z.1) (h2 : S.2 45 3 = lN z.2) (hz1 : z.1 < 2 ^ 62) (hz2 : z.2 < 2 ^ 62) : Ctv yX2_divideBoth cX2_divideBoth 2 none 0 θ shX [.ref (sA θ 45), .int (nI k)] S (fun S' => FrL S S' [45] ∧ S'.1 = S.1 ∧ S'.2 45 2 = lN (dvB k z).1 ∧ S'.2 45 3 = lN (dvB k z).2) := by
  have hk0 : ¬ lN k = 0 := by
    intro e
    have := (pk_lEQ (a := k) (b := 0) (by omega) (by omega)).mp e
    omega
  have m1 : z.1 % k < k := Nat.mod_lt _ (by omega)
  have m2 : z.2 % k < k := Nat.mod_lt _ (by omega)
  refine Ctv.mk (own := RX2) 0 [some (.ref (sA θ 45)), some (.int (nI k))] (fun K hC => ?_)
  refine q_iload_n hC dX2_divideBoth_0 ?_
  refine q_iconst (v := nI 1) hC dX2_divideBoth_1 (by decide) ?_
  refine q_icmp_le hC 51 dX2_divideBoth_2 (by decide) (fun hb => ?_) (fun hb => ?_)
  · exact absurd ((nI_leI (by omega) (by omega)).mp hb) (by omega)
  · refine q_aload_n hC dX2_divideBoth_5 ?_
    refine q_getL hC (by first | assumption | rfl) flX2_9 dX2_divideBoth_6 ?_
    rw [h1]
    refine q_iload_n hC dX2_divideBoth_9 ?_
    refine q_i2l hC dX2_divideBoth_10 ?_
    rw [nI_l (by omega)]
    refine q_lrem hC dX2_divideBoth_11 hk0 ?_
    rw [pk_lRem (by omega) (by omega) (by omega)]
    refine q_lconst (v := lN 0) hC dX2_divideBoth_12 (by decide) ?_
    refine q_lcmp hC dX2_divideBoth_13 ?_
    refine q_if_ne hC 51 dX2_divideBoth_14 (by decide) (fun hb2 => ?_) (fun hb2 => ?_)
    · have e : ¬ z.1 % k = 0 := fun q => hb2 ((lg_0 (by omega)).mpr q)
      refine q_vret hC dX2_divideBoth_51 ?_
      have e2 : dvB k z = z := by unfold dvB; rw [if_neg (fun q => e q.1)]
      rw [e2]
      exact ⟨FrL.rfl', rfl, h1, h2⟩
    · have e1 : z.1 % k = 0 := (lg_0 (by omega)).mp hb2
      refine q_aload_n hC dX2_divideBoth_17 ?_
      refine q_getL hC (by first | assumption | rfl) flX2_15 dX2_divideBoth_18 ?_
      rw [h2]
      refine q_iload_n hC dX2_divideBoth_21 ?_
      refine q_i2l hC dX2_divideBoth_22 ?_
      rw [nI_l (by omega)]
      refine q_lrem hC dX2_divideBoth_23 hk0 ?_
      rw [pk_lRem (by omega) (by omega) (by omega)]
      refine q_lconst (v := lN 0) hC dX2_divideBoth_24 (by decide) ?_
      refine q_lcmp hC dX2_divideBoth_25 ?_
      refine q_if_ne hC 51 dX2_divideBoth_26 (by decide) (fun hb3 => ?_) (fun hb3 => ?_)
      · have e : ¬ z.2 % k = 0 := fun q => hb3 ((lg_0 (by omega)).mpr q)
        refine q_vret hC dX2_divideBoth_51 ?_
        have e2 : dvB k z = z := by unfold dvB; rw [if_neg (fun q => e q.2)]
        rw [e2]
        exact ⟨FrL.rfl', rfl, h1, h2⟩
      · have e2 : z.2 % k = 0 := (lg_0 (by omega)).mp hb3
        refine q_aload_n hC dX2_divideBoth_29 ?_
        refine q_dup hC dX2_divideBoth_30 rfl ?_
        refine q_getL hC (by first | assumption | rfl) flX2_9 dX2_divideBoth_31 ?_
        rw [h1]
        refine q_iload_n hC dX2_divideBoth_34 ?_
        refine q_i2l hC dX2_divideBoth_35 ?_
        rw [nI_l (by omega)]
        refine q_ldiv hC dX2_divideBoth_36 hk0 ?_
        rw [pk_lDiv (by omega) (by omega) (by omega)]
        refine q_putL hC (by first | assumption | rfl) fpX2_9 dX2_divideBoth_37 ?_
        refine q_aload_n hC dX2_divideBoth_40 ?_
        refine q_dup hC dX2_divideBoth_41 rfl ?_
        refine q_getL hC (by first | assumption | rfl) flX2_15 dX2_divideBoth_42 ?_
        rw [upL_o (by decide), h2]
        refine q_iload_n hC dX2_divideBoth_45 ?_
        refine q_i2l hC dX2_divideBoth_46 ?_
        rw [nI_l (by omega)]
        refine q_ldiv hC dX2_divideBoth_47 hk0 ?_
        rw [pk_lDiv (by omega) (by omega) (by omega)]
        refine q_putL hC (by first | assumption | rfl) fpX2_15 dX2_divideBoth_48 ?_
        refine q_vret hC dX2_divideBoth_51 ?_
        have e3 : dvB k z = (z.1 / k, z.2 / k) := by unfold dvB; rw [if_pos ⟨e1, e2⟩]
        rw [e3]
        exact ⟨FrL.uL.trans FrL.uL, rfl, by rw [upL_o (by decide), upL_s], upL_s⟩
theorem c_reduce (θ : Site) (S : St) (z : Nat × Nat) (T : Tn) (hok : TnOk T) (hT : TwR S 4 T) (h1 : S.2 45 2 = lN z.1) (h2 : S.2 45 3 = lN z.2) (hz1 : z.1 < 2 ^ 62) (hz2 : z.2 < 2 ^ 62) : Ctv yX2_reduce cX2_reduce 2 none 1 θ shX [.ref (sA θ 45)] S (fun S' => FrL S S' [45] ∧ S'.2 45 2 = lN (rdc (tP T) z).1 ∧ S'.2 45 3 = lN (rdc (tP T) z).2) := by
  have h8 := hok.1
  refine Ctv.mk (own := RX2) 1 [some (.ref (sA θ 45)), none] (fun K hC => ?_)
  have loop : ∀ n p S1, p + n = tP T → FrL S S1 [45] → S1.2 45 2 = lN (rdc p z).1 → S1.2 45 3 = lN (rdc p z).2 → K 2 [some (.ref (sA θ 45)), some (.int (nI p))] [] S1 := by
    intro n
    induction n with
    | zero =>
      intro p S1 hp hF1 g1 g2
      have e : p = tP T := by omega
      subst e
      have hT1 := hT.frL hF1 rfl
      refine q_iload_n hC dX2_reduce_2 ?_
      refine q_aload_n hC dX2_reduce_3 ?_
      refine q_getR hC (by first | assumption | rfl) flX2_18 dX2_reduce_4 ?_
      refine q_getI hC (by first | assumption | rfl) flX2_32 dX2_reduce_7 ?_
      rw [hT1.1]
      refine q_icmp_ge hC 29 dX2_reduce_10 (by decide) (fun hb => ?_) (fun hb => ?_)
      · refine q_vret hC dX2_reduce_29 ?_
        exact ⟨hF1, g1, g2⟩
      · exact absurd (nI_le (Nat.le_refl _) (by omega)) hb
    | succ n ih =>
      intro p S1 hp hF1 g1 g2
      have hT1 := hT.frL hF1 rfl
      have hr := rdc_le z p
      have hd := dvB_le 2 (rdc p z)
      refine q_iload_n hC dX2_reduce_2 ?_
      refine q_aload_n hC dX2_reduce_3 ?_
      refine q_getR hC (by first | assumption | rfl) flX2_18 dX2_reduce_4 ?_
      refine q_getI hC (by first | assumption | rfl) flX2_32 dX2_reduce_7 ?_
      rw [hT1.1]
      refine q_icmp_ge hC 29 dX2_reduce_10 (by decide) (fun hb => ?_) (fun hb => ?_)
      · exact absurd ((nI_leI (by omega) (by omega)).mp hb) (by omega)
      · refine q_aload_n hC dX2_reduce_13 ?_
        refine q_iconst (v := nI 2) hC dX2_reduce_14 (by decide) ?_
        refine q_callvV1 hC (by first | assumption | rfl) cvX2_58 dX2_reduce_15 (c_divideBoth θ _ 2 (rdc p z) (by omega) (by omega) g1 g2 (by omega) (by omega)) (by decide) (fun S2 hr2 => ?_)
        obtain ⟨hF2, -, g3, g4⟩ := hr2
        refine q_aload_n hC dX2_reduce_18 ?_
        refine q_iconst (v := nI 5) hC dX2_reduce_19 (by decide) ?_
        refine q_callvV1 hC (by first | assumption | rfl) cvX2_58 dX2_reduce_20 (c_divideBoth θ _ 5 (dvB 2 (rdc p z)) (by omega) (by omega) g3 g4 (by omega) (by omega)) (by decide) (fun S3 hr3 => ?_)
        obtain ⟨hF3, -, g5, g6⟩ := hr3
        refine q_inc1_1 hC dX2_reduce_23 ?_
        refine q_goto hC 2 dX2_reduce_26 (by decide) ?_
        exact ih (p + 1) S3 (by omega) (hF1.trans (hF2.trans hF3)) g5 g6
  refine q_iconst (v := nI 0) hC dX2_reduce_0 (by decide) ?_
  refine q_istore_1 hC dX2_reduce_1 ?_
  exact loop (tP T) 0 S (by omega) FrL.rfl' h1 h2
/-- Floods.reckon(f, now) -/
theorem c_reckon (θ : Site) (S : St) (b f : Nat) (N : Nw) (T : Tn) (hk : NowAt b) (hb9 : ∀ a, b ≤ a → a ≤ b + 3 → a ∉ [37, 38, 45]) (hok : TnOk T) (hT : TwR S 4 T) (hKn : KnR S T) (hN : NwR S b N) (hNo : NwOk T N) (hf : f < tF T) : Ctv yX2_reckon cX2_reckon 7 none 3 θ shX [.ref (sA θ 45), .int (nI f), .ref (sA θ b)] S (fun S' => FrL S S' [37, 38, 45] ∧ KnR S' T ∧ S'.2 45 2 = lN (shF T N f).1 ∧ S'.2 45 3 = lN (shF T N f).2) := by
  have hk' := hk
  obtain ⟨h0, h1, h2, h3⟩ := hk
  have h8 := hok.1
  have hF4 := hok.2.1
  have h2P : 2 ^ tP T ≤ 256 := Nat.pow_le_pow_right (n := 2) (by omega) h8
  have how := owm_lt N f
  refine Ctv.mk (own := RX2) 4 [some (.ref (sA θ 45)), some (.int (nI f)), some (.ref (sA θ b)), none, none, none, none] (fun K hC => ?_)
  have tens : ∀ n p S1 l5 l6, p + n = tP T → FrL S S1 [37, 38, 45] → KnR S1 T → S1.2 45 2 = lN (upS T (nF N) f (owm N f) (2 ^ tP T)) → S1.2 45 3 = lN (10 ^ p) → K 89 [some (.ref (sA θ 45)), some (.int (nI f)), some (.ref (sA θ b)), some (.int (nI (owm N f))), some (.int (nI p)), l5, l6] [] S1 := by
    intro n
    induction n with
    | zero =>
      intro p S1 l5 l6 hp hF1 hK1 g1 g2
      have e : p = tP T := by omega
      subst e
      have hT1 := hT.frL hF1 rfl
      have hup := upS_le hok hNo.2.1 f (owm N f) (2 ^ tP T)
      have h10 : 10 ^ tP T ≤ 100000000 := Nat.le_trans (Nat.pow_le_pow_right (n := 10) (by omega) h8) (by decide)
      refine q_iload hC dX2_reckon_89 ?_
      refine q_aload_n hC dX2_reckon_91 ?_
      refine q_getR hC (by first | assumption | rfl) flX2_18 dX2_reckon_92 ?_
      refine q_getI hC (by first | assumption | rfl) flX2_32 dX2_reckon_95 ?_
      rw [hT1.1]
      refine q_icmp_ge hC 119 dX2_reckon_98 (by decide) (fun hb => ?_) (fun hb => ?_)
      · refine q_aload_n hC dX2_reckon_119 ?_
        refine q_callvV0 hC (by first | assumption | rfl) cvX2_55 dX2_reckon_120 (c_reduce θ _ (upS T (nF N) f (owm N f) (2 ^ tP T), 10 ^ tP T) T hok hT1 g1 g2 (by show upS _ _ _ _ _ < _; omega) (by show 10 ^ tP T < _; omega)) (by decide) (fun S2 hr2 => ?_)
        obtain ⟨hF2, g3, g4⟩ := hr2
        refine q_vret hC dX2_reckon_123 ?_
        exact ⟨hF1.trans (hF2.mono (by decide)), fun f2 hf2 B2 hB2 => by rw [hF2.c 37]; exact hK1 f2 hf2 B2 hB2, g3, g4⟩
      · exact absurd (nI_le (Nat.le_refl _) (by omega)) hb
    | succ n ih =>
      intro p S1 l5 l6 hp hF1 hK1 g1 g2
      have hT1 := hT.frL hF1 rfl
      refine q_iload hC dX2_reckon_89 ?_
      refine q_aload_n hC dX2_reckon_91 ?_
      refine q_getR hC (by first | assumption | rfl) flX2_18 dX2_reckon_92 ?_
      refine q_getI hC (by first | assumption | rfl) flX2_32 dX2_reckon_95 ?_
      rw [hT1.1]
      refine q_icmp_ge hC 119 dX2_reckon_98 (by decide) (fun hb => ?_) (fun hb => ?_)
      · exact absurd ((nI_leI (by omega) (by omega)).mp hb) (by omega)
      · refine q_aload_n hC dX2_reckon_101 ?_
        refine q_dup hC dX2_reckon_102 rfl ?_
        refine q_getL hC (by first | assumption | rfl) flX2_15 dX2_reckon_103 ?_
        rw [g2]
        refine q_ldc2 hC klX2_53 dX2_reckon_106 ?_
        refine q_lmul hC dX2_reckon_109 ?_
        rw [lN_mul]
        refine q_putL hC (by first | assumption | rfl) fpX2_15 dX2_reckon_110 ?_
        refine q_inc1_4 hC dX2_reckon_113 ?_
        refine q_goto hC 89 dX2_reckon_116 (by decide) ?_
        refine ih (p + 1) _ _ _ (by omega) (hF1.trans (FrL.uL.mono (by decide))) hK1 ?_ ?_
        · rw [upL_o (by decide)]; exact g1
        · rw [upL_s]; rfl
  have sets : ∀ n s S1 l5 l6, s + n = 2 ^ tP T → FrL S S1 [37, 38, 45] → KnR S1 T → S1.2 45 2 = lN (upS T (nF N) f (owm N f) s) → K 14 [some (.ref (sA θ 45)), some (.int (nI f)), some (.ref (sA θ b)), some (.int (nI (owm N f))), some (.int (nI s)), l5, l6] [] S1 := by
    intro n
    induction n with
    | zero =>
      intro s S1 l5 l6 hs hF1 hK1 g1
      have e : s = 2 ^ tP T := by omega
      subst e
      have hT1 := hT.frL hF1 rfl
      refine q_iload hC dX2_reckon_14 ?_
      refine q_iconst (v := nI 1) hC dX2_reckon_16 (by decide) ?_
      refine q_aload_n hC dX2_reckon_17 ?_
      refine q_getR hC (by first | assumption | rfl) flX2_18 dX2_reckon_18 ?_
      refine q_getI hC (by first | assumption | rfl) flX2_32 dX2_reckon_21 ?_
      rw [hT1.1]
      refine q_ishl hC dX2_reckon_24 ?_
      rw [sh1 (by omega)]
      refine q_icmp_ge hC 81 dX2_reckon_25 (by decide) (fun hb => ?_) (fun hb => ?_)
      · refine q_aload_n hC dX2_reckon_81 ?_
        refine q_lconst (v := lN 1) hC dX2_reckon_82 (by decide) ?_
        refine q_putL hC (by first | assumption | rfl) fpX2_15 dX2_reckon_83 ?_
        refine q_iconst (v := nI 0) hC dX2_reckon_86 (by decide) ?_
        refine q_istore_4 hC dX2_reckon_87 ?_
        refine tens (tP T) 0 _ _ _ (by omega) (hF1.trans (FrL.uL.mono (by decide))) hK1 ?_ ?_
        · rw [upL_o (by decide)]; exact g1
        · rw [upL_s]
      · exact absurd (nI_le (Nat.le_refl _) (by omega)) hb
    | succ n ih =>
      intro s S1 l5 l6 hs hF1 hK1 g1
      have hT1 := hT.frL hF1 rfl
      have hfl1 : ∀ p, p < 8 → S1.1 (b + 2) p = nI (nF N p) := fun p hp => by rw [(hF1 (b + 2) (hb9 _ (by omega) (by omega))).1]; exact hN.2.1 p hp
      have hcl := chc_le hNo.2.1 s (tP T)
      have h10 : 10 ^ tP T ≤ 100000000 := Nat.le_trans (Nat.pow_le_pow_right (n := 10) (by omega) h8) (by decide)
      have hor := or_lt256 how (show s < 256 by omega)
      have hyb := yd_bd hok f (owm N f ||| s)
      refine q_iload hC dX2_reckon_14 ?_
      refine q_iconst (v := nI 1) hC dX2_reckon_16 (by decide) ?_
      refine q_aload_n hC dX2_reckon_17 ?_
      refine q_getR hC (by first | assumption | rfl) flX2_18 dX2_reckon_18 ?_
      refine q_getI hC (by first | assumption | rfl) flX2_32 dX2_reckon_21 ?_
      rw [hT1.1]
      refine q_ishl hC dX2_reckon_24 ?_
      rw [sh1 (by omega)]
      refine q_icmp_ge hC 81 dX2_reckon_25 (by decide) (fun hb => ?_) (fun hb => ?_)
      · exact absurd ((nI_leI (by omega) (by omega)).mp hb) (by omega)
      · refine q_aload_n hC dX2_reckon_28 ?_
        refine q_iload hC dX2_reckon_29 ?_
        refine q_aload_n hC dX2_reckon_31 ?_
        refine q_getR hC (by first | assumption | rfl) flX2_38 dX2_reckon_32 ?_
        refine q_calllV2 hC (by first | assumption | rfl) cvX2_42 dX2_reckon_35 (c_chanceOf θ _ (b + 2) s (nF N) T h2 hok hT1 hfl1 hNo.2.1 (by omega)) (by decide) (fun r S1 hr => ?_)
        obtain ⟨rfl, rfl⟩ := hr
        refine q_lstore_5 hC dX2_reckon_38 ?_
        refine q_lload hC dX2_reckon_40 ?_
        refine q_lconst (v := lN 0) hC dX2_reckon_42 (by decide) ?_
        refine q_lcmp hC dX2_reckon_43 ?_
        refine q_if_le hC 75 dX2_reckon_44 (by decide) (fun hb2 => ?_) (fun hb2 => ?_)
        · have hc0 : chc (nF N) s (tP T) = 0 := (lg_p (by omega)).mp hb2
          refine q_inc1_4 hC dX2_reckon_75 ?_
          refine q_goto hC 14 dX2_reckon_78 (by decide) ?_
          refine ih (s + 1) _ _ _ (by omega) hF1 hK1 ?_
          rw [g1]
          simp [upS, hc0]
        · refine q_aload_n hC dX2_reckon_47 ?_
          refine q_getR hC (by first | assumption | rfl) flX2_22 dX2_reckon_48 ?_
          refine q_iload_n hC dX2_reckon_51 ?_
          refine q_iload_n hC dX2_reckon_52 ?_
          refine q_iload hC dX2_reckon_53 ?_
          refine q_ior hC dX2_reckon_55 ?_
          rw [or_n]
          refine q_calliV2 hC (by first | assumption | rfl) cvX2_46 dX2_reckon_56 (c_yards θ _ f _ T hok hT1 hK1 hf hor) (by decide) (fun r2 S2 hr2 => ?_)
          obtain ⟨rfl, hF2, hK2⟩ := hr2
          have g2 : S2.2 45 2 = lN (upS T (nF N) f (owm N f) s) := by rw [hF2.2]; exact g1
          have hF12 := hF1.trans (hF2.L.mono (M := [37, 38, 45]) (by decide))
          refine q_ldc hC kcX2_52 dX2_reckon_59 ?_
          refine q_icmp_lt hC 75 dX2_reckon_61 (by decide) (fun hb3 => ?_) (fun hb3 => ?_)
          · have h9 : ¬ 100000 ≤ yd T f (owm N f ||| s) := by have := (nI_ltI (by omega) (by omega)).mp hb3; omega
            refine q_inc1_4 hC dX2_reckon_75 ?_
            refine q_goto hC 14 dX2_reckon_78 (by decide) ?_
            refine ih (s + 1) _ _ _ (by omega) hF12 hK2 ?_
            rw [g2]
            simp [upS, h9]
          · have h9 : 100000 ≤ yd T f (owm N f ||| s) := by
              rcases Nat.lt_or_ge (yd T f (owm N f ||| s)) 100000 with h | h
              · exact absurd (nI_lt h (by omega)) hb3
              · exact h
            refine q_aload_n hC dX2_reckon_64 ?_
            refine q_dup hC dX2_reckon_65 rfl ?_
            refine q_getL hC (by first | assumption | rfl) flX2_9 dX2_reckon_66 ?_
            rw [g2]
            refine q_lload hC dX2_reckon_69 ?_
            refine q_ladd hC dX2_reckon_71 ?_
            rw [lN_add]
            refine q_putL hC (by first | assumption | rfl) fpX2_9 dX2_reckon_72 ?_
            refine q_inc1_4 hC dX2_reckon_75 ?_
            refine q_goto hC 14 dX2_reckon_78 (by decide) ?_
            refine ih (s + 1) _ _ _ (by omega) (hF12.trans (FrL.uL.mono (by decide))) hK2 ?_
            rw [upL_s]
            simp [upS, h9]
  refine q_aload_n hC dX2_reckon_0 ?_
  refine q_iload_n hC dX2_reckon_1 ?_
  refine q_calliV1 hC (by first | assumption | rfl) cvX2_26 dX2_reckon_2 (c_ownedBy θ _ b f N hk' hN (by omega)) (by decide) (fun r S1 hr => ?_)
  obtain ⟨rfl, rfl⟩ := hr
  refine q_istore_3 hC dX2_reckon_5 ?_
  refine q_aload_n hC dX2_reckon_6 ?_
  refine q_lconst (v := lN 0) hC dX2_reckon_7 (by decide) ?_
  refine q_putL hC (by first | assumption | rfl) fpX2_9 dX2_reckon_8 ?_
  refine q_iconst (v := nI 0) hC dX2_reckon_11 (by decide) ?_
  refine q_istore_4 hC dX2_reckon_12 ?_
  exact sets (2 ^ tP T) 0 _ _ _ (by omega) (FrL.uL.mono (by decide)) hKn upL_s
