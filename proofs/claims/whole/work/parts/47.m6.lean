theorem MIm.one {S S' : St} {T : Tn} {im : Nat → Option Nw} {N' : Nw} {i : Nat} (h8 : tP T ≤ 8) (hn : nS N' ≤ 10) (h : S.1 12 (40 * i) = nI 1 ∧ (∀ p, p < tP T → S.1 12 (40 * i + 1 + p) = mdO (nO N' p) ∧ S.1 12 (40 * i + 9 + p) = nI (nF N' p)) ∧ S.1 12 (40 * i + 17) = nI (nS N') ∧ SeR (fun k => S.1 12 (40 * i + 18 + k)) (fun k => S.1 12 (40 * i + 28 + k)) T N') (hs : ∀ j, 40 * i ≤ j → j < 40 * i + 40 → S'.1 12 j = S.1 12 j) : S'.1 12 (40 * i) = nI 1 ∧ (∀ p, p < tP T → S'.1 12 (40 * i + 1 + p) = mdO (nO N' p) ∧ S'.1 12 (40 * i + 9 + p) = nI (nF N' p)) ∧ S'.1 12 (40 * i + 17) = nI (nS N') ∧ SeR (fun k => S'.1 12 (40 * i + 18 + k)) (fun k => S'.1 12 (40 * i + 28 + k)) T N' := by
  obtain ⟨a, b, c, d⟩ := h
  refine ⟨by rw [hs _ (by omega) (by omega)]; exact a, fun p hp => ?_, by rw [hs _ (by omega) (by omega)]; exact c, d.go (fun k hk => ?_)⟩
  · rw [hs _ (by omega) (by omega), hs _ (by omega) (by omega)]; exact b p hp
  · exact ⟨hs _ (by omega) (by omega), hs _ (by omega) (by omega)⟩
theorem m_keep (θ : Site) (S : St) (L : Nat) (x : Nat → Nat) (T : Tn) (N : Nw) (im : Nat → Option Nw) (tr : Int64) (hA : AOk T N im) (hR : RM S L x T N im tr) (z : Int32) : Cti yX10_keep cX10_keep 4 (some .int) 20 θ shM [.ref (sA θ 0), .int z] S (fun r S' => r = (sKeep N im z).1 ∧ RM S' L x T N (sKeep N im z).2 tr) := by
  obtain ⟨hok, hNo, hIm⟩ := hA
  have hR' := hR
  obtain ⟨hx, hT, hN, hI, htr⟩ := hR
  have h8 := hok.1
  have hF4 := hok.2.1
  refine Cti.mk (own := RX10) 2 [some (.ref (sA θ 0)), some (.int z), none, none] (fun K hC => ?_)
  refine q_iload_n hC dX10_keep_0 ?_
  refine q_i2l hC dX10_keep_1 ?_
  refine q_lconst (v := lN 0) hC dX10_keep_2 (by decide) ?_
  refine q_lconst (v := lN 1) hC dX10_keep_3 (by decide) ?_
  refine q_calliS3 hC csX10_71 dX10_keep_4 (m_inN θ _ z 1 2 rfl (by decide)) (by decide) (fun r S1 hr => ?_)
  obtain ⟨rfl, hS⟩ := hr
  have hS := hS.symm
  subst hS
  cases hw : ixN z 2 with
  | none =>
    refine q_if_ne hC 12 dX10_keep_7 (by decide) (fun hz => absurd hz (by first | decide | exact (show ¬ nI 1 = 0 by decide))) (fun hb => ?_)
    refine q_iconst (v := (-1)) hC dX10_keep_10 (by decide) ?_
    refine q_iret hC dX10_keep_11 ?_
    exact ⟨by simp [sKeep, hw], by simpa [sKeep, hw] using hR'⟩
  | some i =>
    obtain ⟨hi, rfl⟩ := ixN_some (by decide) hw
    have hn10 := hNo.2.2.1
    have esp : sKeep N im (nI i) = (nI (ownd N), upI im i N) := by simp [sKeep, hw]
    -- the tracks
    have loopB : ∀ m n S1, n + m = nS N → Fr S S1 [12] → (∀ j, j < 40 * i ∨ 40 * i + 40 ≤ j → S1.1 12 j = S.1 12 j) → S1.1 12 (40 * i) = nI 1 → (∀ y, y < tP T → S1.1 12 (40 * i + 1 + y) = mdO (nO N y) ∧ S1.1 12 (40 * i + 9 + y) = nI (nF N y)) → S1.1 12 (40 * i + 17) = nI (nS N) → (∀ y, y < n → S1.1 12 (40 * i + 18 + y) = S.1 10 y ∧ S1.1 12 (40 * i + 28 + y) = S.1 11 y) → K 88 [some (.ref (sA θ 0)), some (.int (nI i)), some (.int (nI (40 * i))), some (.int (nI n))] [] S1 := by
      intro m
      induction m with
      | zero =>
        intro n S1 hn hF f1 f2 f3 f4 f5
        have e : n = nS N := by omega
        subst e
        refine q_iload_n hC dX10_keep_88 ?_
        refine q_aload_n hC dX10_keep_89 ?_
        refine q_getI hC (by first | assumption | rfl) flX10_158 dX10_keep_90 ?_
        rw [hF.c 0, hN.2.1]
        refine q_icmp_ge hC 136 dX10_keep_93 (by decide) (fun hb => ?_) (fun hz => absurd hz (fun z => z (nI_le (Nat.le_refl _) (by omega))))
        refine q_aload_n hC dX10_keep_136 ?_
        refine q_calliV0 hC (by first | assumption | rfl) cvX10_240 dX10_keep_137 (m_owned θ _ T N hok hNo (by rw [hF.c 0]; exact hT.1) (fun p hp => by rw [hF.c 8]; exact (hN.1 p hp).1)) (by decide) (fun r2 S2 hr2 => ?_)
        obtain ⟨rfl, hS⟩ := hr2
        have hS := hS.symm
        subst hS
        refine q_iret hC dX10_keep_140 ?_
        rw [esp]
        show nI (ownd N) = nI (ownd N) ∧ RM S1 L x T N (upI im i N) tr
        refine ⟨rfl, hx.go (by rw [hF.c 0]) (hF.c 1), hT.go (by rw [hF.c 0]) (by rw [hF.c 0]) (fun a g1 g2 => hF.1 a (by simp only [List.mem_cons, List.not_mem_nil, or_false]; omega)), hN.go (by rw [hF.c 0]) (fun a g1 g2 => hF.1 a (by simp only [List.mem_cons, List.not_mem_nil, or_false]; omega)), fun k hk => ?_, by rw [hF.2]; exact htr⟩
        by_cases e : k = i
        · subst e
          refine ⟨fun z => ?_, fun N' z => ?_⟩
          · have : upI im k N k = some N := if_pos rfl
            rw [this] at z; cases z
          · have : upI im k N k = some N := if_pos rfl
            rw [this] at z; cases z
            exact ⟨f2, f3, f4, hN.2.2.go f5⟩
        · have ei : upI im i N k = im k := if_neg e
          rw [ei]
          have hs : ∀ j, 40 * k ≤ j → j < 40 * k + 40 → S1.1 12 j = S.1 12 j := fun j h1 h2 => f1 j (by omega)
          refine ⟨fun z => by rw [hs _ (by omega) (by omega)]; exact (hI k hk).1 z, fun N' z => ?_⟩
          exact MIm.one (im := im) h8 (hIm k N' z).2.2.1 ((hI k hk).2 N' z) hs
      | succ m ih =>
        intro n S1 hn hF f1 f2 f3 f4 f5
        have hn10' : n < 10 := by omega
        refine q_iload_n hC dX10_keep_88 ?_
        refine q_aload_n hC dX10_keep_89 ?_
        refine q_getI hC (by first | assumption | rfl) flX10_158 dX10_keep_90 ?_
        rw [hF.c 0, hN.2.1]
        refine q_icmp_ge hC 136 dX10_keep_93 (by decide) (fun hz => absurd hz (fun z => by have := (nI_leI (by omega) (by omega)).mp z; omega)) (fun hb => ?_)
        refine q_aload_n hC dX10_keep_96 ?_
        refine q_getR hC (by first | assumption | rfl) flX10_43 dX10_keep_97 ?_
        refine q_iload_n hC dX10_keep_100 ?_
        refine q_bipush (v := nI 18) hC dX10_keep_101 (by decide) ?_
        refine q_iadd hC dX10_keep_103 ?_
        rw [nI_add]
        refine q_iload_n hC dX10_keep_104 ?_
        refine q_iadd hC dX10_keep_105 ?_
        rw [nI_add]
        refine q_aload_n hC dX10_keep_106 ?_
        refine q_getR hC (by first | assumption | rfl) flX10_37 dX10_keep_107 ?_
        refine q_iload_n hC dX10_keep_110 ?_
        refine q_ialdn hC (by first | assumption | rfl) (by first | assumption | omega) dX10_keep_111 ?_
        rw [hF.c 10]
        refine q_iastn hC (by first | assumption | rfl) (by first | assumption | omega) dX10_keep_112 ?_
        refine q_aload_n hC dX10_keep_113 ?_
        refine q_getR hC (by first | assumption | rfl) flX10_43 dX10_keep_114 ?_
        refine q_iload_n hC dX10_keep_117 ?_
        refine q_bipush (v := nI 28) hC dX10_keep_118 (by decide) ?_
        refine q_iadd hC dX10_keep_120 ?_
        rw [nI_add]
        refine q_iload_n hC dX10_keep_121 ?_
        refine q_iadd hC dX10_keep_122 ?_
        rw [nI_add]
        refine q_aload_n hC dX10_keep_123 ?_
        refine q_getR hC (by first | assumption | rfl) flX10_40 dX10_keep_124 ?_
        refine q_iload_n hC dX10_keep_127 ?_
        refine q_ialdn hC (by first | assumption | rfl) (by first | assumption | omega) dX10_keep_128 ?_
        rw [up_oc (by decide), hF.c 11]
        refine q_iastn hC (by first | assumption | rfl) (by first | assumption | omega) dX10_keep_129 ?_
        refine q_inc1_3 hC dX10_keep_130 ?_
        refine q_goto hC 88 dX10_keep_133 (by decide) ?_
        refine ih (n + 1) _ (by omega) (hF.trans (Fr.u1.trans Fr.u1)) (fun j hj => by rw [up_of (by omega), up_of (by omega)]; exact f1 j hj) (by rw [up_of (by omega), up_of (by omega)]; exact f2) (fun y hy => ?_) (by rw [up_of (by omega), up_of (by omega)]; exact f4) (fun y hy => ?_)
        · rw [up_of (by omega), up_of (by omega), up_of (by omega), up_of (by omega)]; exact f3 y hy
        · by_cases e : y = n
          · subst e
            rw [up_of (show 40 * i + 18 + y ≠ 40 * i + 28 + y by omega), up_s, up_s]; exact ⟨rfl, rfl⟩
          · rw [up_of (by omega), up_of (by omega), up_of (by omega), up_of (by omega)]; exact f5 y (by omega)
    have loopA : ∀ m p S1, p + m = tP T → Fr S S1 [12] → (∀ j, j < 40 * i ∨ 40 * i + 40 ≤ j → S1.1 12 j = S.1 12 j) → S1.1 12 (40 * i) = nI 1 → (∀ y, y < p → S1.1 12 (40 * i + 1 + y) = mdO (nO N y) ∧ S1.1 12 (40 * i + 9 + y) = nI (nF N y)) → K 26 [some (.ref (sA θ 0)), some (.int (nI i)), some (.int (nI (40 * i))), some (.int (nI p))] [] S1 := by
      intro m
      induction m with
      | zero =>
        intro p S1 hp hF f1 f2 f3
        have e : p = tP T := by omega
        subst e
        refine q_iload_n hC dX10_keep_26 ?_
        refine q_aload_n hC dX10_keep_27 ?_
        refine q_getI hC (by first | assumption | rfl) flX10_67 dX10_keep_28 ?_
        rw [hF.c 0, hT.1]
        refine q_icmp_ge hC 73 dX10_keep_31 (by decide) (fun hb => ?_) (fun hz => absurd hz (fun z => z (nI_le (Nat.le_refl _) (by omega))))
        refine q_aload_n hC dX10_keep_73 ?_
        refine q_getR hC (by first | assumption | rfl) flX10_43 dX10_keep_74 ?_
        refine q_iload_n hC dX10_keep_77 ?_
        refine q_bipush (v := nI 17) hC dX10_keep_78 (by decide) ?_
        refine q_iadd hC dX10_keep_80 ?_
        rw [nI_add]
        refine q_aload_n hC dX10_keep_81 ?_
        refine q_getI hC (by first | assumption | rfl) flX10_158 dX10_keep_82 ?_
        rw [hF.c 0, hN.2.1]
        refine q_iastn hC (by first | assumption | rfl) (by first | assumption | omega) dX10_keep_85 ?_
        refine q_iconst (v := nI 0) hC dX10_keep_86 (by decide) ?_
        refine q_istore_3 hC dX10_keep_87 ?_
        exact loopB (nS N) 0 _ (by omega) (hF.trans Fr.u1) (fun j hj => by rw [up_of (by omega)]; exact f1 j hj) (by rw [up_of (by omega)]; exact f2) (fun y hy => by rw [up_of (by omega), up_of (by omega)]; exact f3 y hy) up_s (fun y hy => by omega)
      | succ m ih =>
        intro p S1 hp hF f1 f2 f3
        have hp8 : p < 8 := by omega
        refine q_iload_n hC dX10_keep_26 ?_
        refine q_aload_n hC dX10_keep_27 ?_
        refine q_getI hC (by first | assumption | rfl) flX10_67 dX10_keep_28 ?_
        rw [hF.c 0, hT.1]
        refine q_icmp_ge hC 73 dX10_keep_31 (by decide) (fun hz => absurd hz (fun z => by have := (nI_leI (by omega) (by omega)).mp z; omega)) (fun hb => ?_)
        refine q_aload_n hC dX10_keep_34 ?_
        refine q_getR hC (by first | assumption | rfl) flX10_43 dX10_keep_35 ?_
        refine q_iload_n hC dX10_keep_38 ?_
        refine q_iconst (v := nI 1) hC dX10_keep_39 (by decide) ?_
        refine q_iadd hC dX10_keep_40 ?_
        rw [nI_add]
        refine q_iload_n hC dX10_keep_41 ?_
        refine q_iadd hC dX10_keep_42 ?_
        rw [nI_add]
        refine q_aload_n hC dX10_keep_43 ?_
        refine q_getR hC (by first | assumption | rfl) flX10_31 dX10_keep_44 ?_
        refine q_iload_n hC dX10_keep_47 ?_
        refine q_ialdn hC (by first | assumption | rfl) (by first | assumption | omega) dX10_keep_48 ?_
        rw [hF.c 8, (hN.1 p (by omega)).1]
        refine q_iastn hC (by first | assumption | rfl) (by first | assumption | omega) dX10_keep_49 ?_
        refine q_aload_n hC dX10_keep_50 ?_
        refine q_getR hC (by first | assumption | rfl) flX10_43 dX10_keep_51 ?_
        refine q_iload_n hC dX10_keep_54 ?_
        refine q_bipush (v := nI 9) hC dX10_keep_55 (by decide) ?_
        refine q_iadd hC dX10_keep_57 ?_
        rw [nI_add]
        refine q_iload_n hC dX10_keep_58 ?_
        refine q_iadd hC dX10_keep_59 ?_
        rw [nI_add]
        refine q_aload_n hC dX10_keep_60 ?_
        refine q_getR hC (by first | assumption | rfl) flX10_34 dX10_keep_61 ?_
        refine q_iload_n hC dX10_keep_64 ?_
        refine q_ialdn hC (by first | assumption | rfl) (by first | assumption | omega) dX10_keep_65 ?_
        rw [up_oc (by decide), hF.c 9, (hN.1 p (by omega)).2]
        refine q_iastn hC (by first | assumption | rfl) (by first | assumption | omega) dX10_keep_66 ?_
        refine q_inc1_3 hC dX10_keep_67 ?_
        refine q_goto hC 26 dX10_keep_70 (by decide) ?_
        refine ih (p + 1) _ (by omega) (hF.trans (Fr.u1.trans Fr.u1)) (fun j hj => by rw [up_of (by omega), up_of (by omega)]; exact f1 j hj) (by rw [up_of (by omega), up_of (by omega)]; exact f2) (fun y hy => ?_)
        by_cases e : y = p
        · subst e
          rw [up_of (show 40 * i + 1 + y ≠ 40 * i + 9 + y by omega), up_s, up_s]; exact ⟨rfl, rfl⟩
        · rw [up_of (by omega), up_of (by omega), up_of (by omega), up_of (by omega)]; exact f3 y (by omega)
    refine q_if_ne hC 12 dX10_keep_7 (by decide) (fun hb => ?_) (fun hz => absurd hz (by first | decide | exact (show ¬ nI 1 = 0 by decide)))
    refine q_bipush (v := nI 40) hC dX10_keep_12 (by decide) ?_
    refine q_iload_n hC dX10_keep_14 ?_
    refine q_imul hC dX10_keep_15 ?_
    rw [pk_mul]
    refine q_istore_2 hC dX10_keep_16 ?_
    refine q_aload_n hC dX10_keep_17 ?_
    refine q_getR hC (by first | assumption | rfl) flX10_43 dX10_keep_18 ?_
    refine q_iload_n hC dX10_keep_21 ?_
    refine q_iconst (v := nI 1) hC dX10_keep_22 (by decide) ?_
    refine q_iastn hC (by first | assumption | rfl) (by first | assumption | omega) dX10_keep_23 ?_
    refine q_iconst (v := nI 0) hC dX10_keep_24 (by decide) ?_
    refine q_istore_3 hC dX10_keep_25 ?_
    exact loopA (tP T) 0 _ (by omega) Fr.u1 (fun j hj => up_of (by omega)) up_s (fun y hy => by omega)
theorem m_back (θ : Site) (S : St) (L : Nat) (x : Nat → Nat) (T : Tn) (N : Nw) (im : Nat → Option Nw) (tr : Int64) (hA : AOk T N im) (hR : RM S L x T N im tr) (z : Int32) : Cti yX10_back cX10_back 4 (some .int) 20 θ shM [.ref (sA θ 0), .int z] S (fun r S' => r = (sBack N im z).1 ∧ RM S' L x T (sBack N im z).2 im tr) := by
  obtain ⟨hok, hNo, hIm⟩ := hA
  have hR' := hR
  obtain ⟨hx, hT, hN, hI, htr⟩ := hR
  have h8 := hok.1
  have hF4 := hok.2.1
  refine Cti.mk (own := RX10) 2 [some (.ref (sA θ 0)), some (.int z), none, none] (fun K hC => ?_)
  refine q_iload_n hC dX10_back_0 ?_
  refine q_i2l hC dX10_back_1 ?_
  refine q_lconst (v := lN 0) hC dX10_back_2 (by decide) ?_
  refine q_lconst (v := lN 1) hC dX10_back_3 (by decide) ?_
  refine q_calliS3 hC csX10_71 dX10_back_4 (m_inN θ _ z 1 2 rfl (by decide)) (by decide) (fun r S1 hr => ?_)
  obtain ⟨rfl, hS⟩ := hr
  have hS := hS.symm
  subst hS
  cases hw : ixN z 2 with
  | none =>
    refine q_if_ne hC 12 dX10_back_7 (by decide) (fun hz => absurd hz (by first | decide | exact (show ¬ nI 1 = 0 by decide))) (fun hb => ?_)
    refine q_iconst (v := (-1)) hC dX10_back_10 (by decide) ?_
    refine q_iret hC dX10_back_11 ?_
    exact ⟨by simp [sBack, hw], by simpa [sBack, hw] using hR'⟩
  | some i =>
    obtain ⟨hi, rfl⟩ := ixN_some (by decide) hw
    obtain ⟨i1, i2⟩ := hI i hi
    refine q_if_ne hC 12 dX10_back_7 (by decide) (fun hb => ?_) (fun hz => absurd hz (by first | decide | exact (show ¬ nI 1 = 0 by decide)))
    refine q_bipush (v := nI 40) hC dX10_back_12 (by decide) ?_
    refine q_iload_n hC dX10_back_14 ?_
    refine q_imul hC dX10_back_15 ?_
    rw [pk_mul]
    refine q_istore_2 hC dX10_back_16 ?_
    refine q_aload_n hC dX10_back_17 ?_
    refine q_getR hC (by first | assumption | rfl) flX10_43 dX10_back_18 ?_
    refine q_iload_n hC dX10_back_21 ?_
    refine q_ialdn hC (by first | assumption | rfl) (by first | assumption | omega) dX10_back_22 ?_
    cases him : im i with
    | none =>
      rw [i1 him]
      refine q_if_ne hC 29 dX10_back_23 (by decide) (fun hz => absurd hz (by first | decide | exact (show ¬ nI 1 = 0 by decide))) (fun hb => ?_)
      refine q_bipush (v := (-2)) hC dX10_back_26 (by decide) ?_
      refine q_iret hC dX10_back_28 ?_
      exact ⟨by simp [sBack, hw, him], by simpa [sBack, hw, him] using hR'⟩
    | some N' =>
      obtain ⟨j1, j2, j3, j4⟩ := i2 N' him
      have hNo' := hIm i N' him
      have hn10 := hNo'.2.2.1
      have esp : sBack N im (nI i) = (nI (ownd N'), N') := by simp [sBack, hw, him]
      rw [j1]
      have loopB : ∀ m n S1, n + m = nS N' → Fr S S1 [0, 8, 9, 10, 11] → (∀ j, j ≠ 12 → S1.1 0 j = S.1 0 j) → (∀ y, y < tP T → S1.1 8 y = mdO (nO N' y) ∧ S1.1 9 y = nI (nF N' y)) → S1.1 0 12 = nI (nS N') → (∀ y, y < n → S1.1 10 y = S.1 12 (40 * i + 18 + y) ∧ S1.1 11 y = S.1 12 (40 * i + 28 + y)) → K 93 [some (.ref (sA θ 0)), some (.int (nI i)), some (.int (nI (40 * i))), some (.int (nI n))] [] S1 := by
        intro m
        induction m with
        | zero =>
          intro n S1 hn hF f0 f3 f4 f5
          have e : n = nS N' := by omega
          subst e
          refine q_iload_n hC dX10_back_93 ?_
          refine q_aload_n hC dX10_back_94 ?_
          refine q_getI hC (by first | assumption | rfl) flX10_158 dX10_back_95 ?_
          rw [f4]
          refine q_icmp_ge hC 141 dX10_back_98 (by decide) (fun hb => ?_) (fun hz => absurd hz (fun z => z (nI_le (Nat.le_refl _) (by omega))))
          refine q_aload_n hC dX10_back_141 ?_
          refine q_calliV0 hC (by first | assumption | rfl) cvX10_240 dX10_back_142 (m_owned θ _ T N' hok hNo' (by rw [f0 2 (by decide)]; exact hT.1) (fun p hp => (f3 p hp).1)) (by decide) (fun r2 S2 hr2 => ?_)
          obtain ⟨rfl, hS⟩ := hr2
          have hS := hS.symm
          subst hS
          refine q_iret hC dX10_back_145 ?_
          rw [esp]
          exact ⟨rfl, hx.go (f0 1 (by decide)) (hF.c 1), hT.go (f0 2 (by decide)) (f0 6 (by decide)) (fun a g1 g2 => hF.1 a (by simp only [List.mem_cons, List.not_mem_nil, or_false, not_or]; omega)), ⟨f3, f4, j4.go f5⟩, hI.go (hF.c 12), by rw [hF.2]; exact htr⟩
        | succ m ih =>
          intro n S1 hn hF f0 f3 f4 f5
          have hn10' : n < 10 := by omega
          refine q_iload_n hC dX10_back_93 ?_
          refine q_aload_n hC dX10_back_94 ?_
          refine q_getI hC (by first | assumption | rfl) flX10_158 dX10_back_95 ?_
          rw [f4]
          refine q_icmp_ge hC 141 dX10_back_98 (by decide) (fun hz => absurd hz (fun z => by have := (nI_leI (by omega) (by omega)).mp z; omega)) (fun hb => ?_)
          refine q_aload_n hC dX10_back_101 ?_
          refine q_getR hC (by first | assumption | rfl) flX10_37 dX10_back_102 ?_
          refine q_iload_n hC dX10_back_105 ?_
          refine q_aload_n hC dX10_back_106 ?_
          refine q_getR hC (by first | assumption | rfl) flX10_43 dX10_back_107 ?_
          refine q_iload_n hC dX10_back_110 ?_
          refine q_bipush (v := nI 18) hC dX10_back_111 (by decide) ?_
          refine q_iadd hC dX10_back_113 ?_
          rw [nI_add]
          refine q_iload_n hC dX10_back_114 ?_
          refine q_iadd hC dX10_back_115 ?_
          rw [nI_add]
          refine q_ialdn hC (by first | assumption | rfl) (by first | assumption | omega) dX10_back_116 ?_
          rw [hF.c 12]
          refine q_iastn hC (by first | assumption | rfl) (by first | assumption | omega) dX10_back_117 ?_
          refine q_aload_n hC dX10_back_118 ?_
          refine q_getR hC (by first | assumption | rfl) flX10_40 dX10_back_119 ?_
          refine q_iload_n hC dX10_back_122 ?_
          refine q_aload_n hC dX10_back_123 ?_
          refine q_getR hC (by first | assumption | rfl) flX10_43 dX10_back_124 ?_
          refine q_iload_n hC dX10_back_127 ?_
          refine q_bipush (v := nI 28) hC dX10_back_128 (by decide) ?_
          refine q_iadd hC dX10_back_130 ?_
          rw [nI_add]
          refine q_iload_n hC dX10_back_131 ?_
          refine q_iadd hC dX10_back_132 ?_
          rw [nI_add]
          refine q_ialdn hC (by first | assumption | rfl) (by first | assumption | omega) dX10_back_133 ?_
          rw [up_oc (by decide), hF.c 12]
          refine q_iastn hC (by first | assumption | rfl) (by first | assumption | omega) dX10_back_134 ?_
          refine q_inc1_3 hC dX10_back_135 ?_
          refine q_goto hC 93 dX10_back_138 (by decide) ?_
          refine ih (n + 1) _ (by omega) (hF.trans ((Fr.u1.mono (by decide)).trans (Fr.u1.mono (by decide)))) (fun j hj => by rw [up_oc (by decide), up_oc (by decide)]; exact f0 j hj) (fun y hy => by rw [up_oc (by decide), up_oc (by decide), up_oc (by decide), up_oc (by decide)]; exact f3 y hy) (by rw [up_oc (by decide), up_oc (by decide)]; exact f4) (fun y hy => ?_)
          rw [up_oc (show 10 ≠ 11 by decide)]
          by_cases e : y = n
          · subst e
            rw [up_s, up_s]; exact ⟨rfl, rfl⟩
          · rw [up_of e, up_of e, up_oc (show 11 ≠ 10 by decide)]; exact f5 y (by omega)
      have loopA : ∀ m p S1, p + m = tP T → Fr S S1 [8, 9] → (∀ y, y < p → S1.1 8 y = mdO (nO N' y) ∧ S1.1 9 y = nI (nF N' y)) → K 31 [some (.ref (sA θ 0)), some (.int (nI i)), some (.int (nI (40 * i))), some (.int (nI p))] [] S1 := by
        intro m
        induction m with
        | zero =>
          intro p S1 hp hF f3
          have e : p = tP T := by omega
          subst e
          refine q_iload_n hC dX10_back_31 ?_
          refine q_aload_n hC dX10_back_32 ?_
          refine q_getI hC (by first | assumption | rfl) flX10_67 dX10_back_33 ?_
          rw [hF.c 0, hT.1]
          refine q_icmp_ge hC 78 dX10_back_36 (by decide) (fun hb => ?_) (fun hz => absurd hz (fun z => z (nI_le (Nat.le_refl _) (by omega))))
          refine q_aload_n hC dX10_back_78 ?_
          refine q_aload_n hC dX10_back_79 ?_
          refine q_getR hC (by first | assumption | rfl) flX10_43 dX10_back_80 ?_
          refine q_iload_n hC dX10_back_83 ?_
          refine q_bipush (v := nI 17) hC dX10_back_84 (by decide) ?_
          refine q_iadd hC dX10_back_86 ?_
          rw [nI_add]
          refine q_ialdn hC (by first | assumption | rfl) (by first | assumption | omega) dX10_back_87 ?_
          rw [hF.c 12, j3]
          refine q_putI hC (by first | assumption | rfl) fpX10_158 dX10_back_88 ?_
          refine q_iconst (v := nI 0) hC dX10_back_91 (by decide) ?_
          refine q_istore_3 hC dX10_back_92 ?_
          exact loopB (nS N') 0 _ (by omega) ((hF.mono (by decide)).trans (Fr.u1.mono (by decide))) (fun j hj => by rw [up_of hj, hF.c 0]) (fun y hy => by rw [up_oc (by decide), up_oc (by decide)]; exact f3 y hy) up_s (fun y hy => by omega)
        | succ m ih =>
          intro p S1 hp hF f3
          have hp8 : p < 8 := by omega
          refine q_iload_n hC dX10_back_31 ?_
          refine q_aload_n hC dX10_back_32 ?_
          refine q_getI hC (by first | assumption | rfl) flX10_67 dX10_back_33 ?_
          rw [hF.c 0, hT.1]
          refine q_icmp_ge hC 78 dX10_back_36 (by decide) (fun hz => absurd hz (fun z => by have := (nI_leI (by omega) (by omega)).mp z; omega)) (fun hb => ?_)
          refine q_aload_n hC dX10_back_39 ?_
          refine q_getR hC (by first | assumption | rfl) flX10_31 dX10_back_40 ?_
          refine q_iload_n hC dX10_back_43 ?_
          refine q_aload_n hC dX10_back_44 ?_
          refine q_getR hC (by first | assumption | rfl) flX10_43 dX10_back_45 ?_
          refine q_iload_n hC dX10_back_48 ?_
          refine q_iconst (v := nI 1) hC dX10_back_49 (by decide) ?_
          refine q_iadd hC dX10_back_50 ?_
          rw [nI_add]
          refine q_iload_n hC dX10_back_51 ?_
          refine q_iadd hC dX10_back_52 ?_
          rw [nI_add]
          refine q_ialdn hC (by first | assumption | rfl) (by first | assumption | omega) dX10_back_53 ?_
          rw [hF.c 12, (j2 p (by omega)).1]
          refine q_iastn hC (by first | assumption | rfl) (by first | assumption | omega) dX10_back_54 ?_
          refine q_aload_n hC dX10_back_55 ?_
          refine q_getR hC (by first | assumption | rfl) flX10_34 dX10_back_56 ?_
          refine q_iload_n hC dX10_back_59 ?_
          refine q_aload_n hC dX10_back_60 ?_
          refine q_getR hC (by first | assumption | rfl) flX10_43 dX10_back_61 ?_
          refine q_iload_n hC dX10_back_64 ?_
          refine q_bipush (v := nI 9) hC dX10_back_65 (by decide) ?_
          refine q_iadd hC dX10_back_67 ?_
          rw [nI_add]
          refine q_iload_n hC dX10_back_68 ?_
          refine q_iadd hC dX10_back_69 ?_
          rw [nI_add]
          refine q_ialdn hC (by first | assumption | rfl) (by first | assumption | omega) dX10_back_70 ?_
          rw [up_oc (by decide), hF.c 12, (j2 p (by omega)).2]
          refine q_iastn hC (by first | assumption | rfl) (by first | assumption | omega) dX10_back_71 ?_
          refine q_inc1_3 hC dX10_back_72 ?_
          refine q_goto hC 31 dX10_back_75 (by decide) ?_
          refine ih (p + 1) _ (by omega) (hF.trans ((Fr.u1.mono (by decide)).trans (Fr.u1.mono (by decide)))) (fun y hy => ?_)
          rw [up_oc (show 8 ≠ 9 by decide)]
          by_cases e : y = p
          · subst e
            rw [up_s, up_s]; exact ⟨rfl, rfl⟩
          · rw [up_of e, up_of e, up_oc (show 9 ≠ 8 by decide)]; exact f3 y (by omega)
      refine q_if_ne hC 29 dX10_back_23 (by decide) (fun hb => ?_) (fun hz => absurd hz (by first | decide | exact (show ¬ nI 1 = 0 by decide)))
      refine q_iconst (v := nI 0) hC dX10_back_29 (by decide) ?_
      refine q_istore_3 hC dX10_back_30 ?_
      exact loopA (tP T) 0 S (by omega) Fr.rfl' (fun y hy => by omega)
