theorem orS_go {bb st bb' st' : Nat → Nat} (f : Nat) : ∀ n, (∀ k, k < n → bb' k = bb k ∧ st' k = st k) → orS bb' st' f n = orS bb st f n
  | 0, _ => rfl
  | n + 1, h => by
    simp only [orS]
    rw [orS_go f n (fun k hk => h k (by omega)), (h n (by omega)).1, (h n (by omega)).2]
theorem SeR.go {c1 c2 d1 d2 : Nat → Int32} {T : Tn} {N : Nw} (h : SeR c1 c2 T N) (h1 : ∀ k, k < nS N → d1 k = c1 k ∧ d2 k = c2 k) : SeR d1 d2 T N := by
  obtain ⟨bb, st, a, b⟩ := h
  exact ⟨bb, st, fun k hk => ⟨by rw [(h1 k hk).1]; exact (a k hk).1, by rw [(h1 k hk).2]; exact (a k hk).2.1, (a k hk).2.2⟩, b⟩
theorem in_ixR {x : Int32} {n : Nat} (hn : n ≤ 1000) : nI (if lN 0 ≤ x.toInt64 ∧ x.toInt64 ≤ (nI n - nI 1).toInt64 then 1 else 0) = nI (if (ixN x n).isSome = true then 1 else 0) := ix_iff (b := 0) _ (in_ixP hn)
theorem m_saw (θ : Site) (S : St) (L : Nat) (x : Nat → Nat) (T : Tn) (N : Nw) (im : Nat → Option Nw) (tr : Int64) (hA : AOk T N im) (hR : RM S L x T N im tr) (f z : Int32) : Cti yX10_saw cX10_saw 3 (some .int) 20 θ shM [.ref (sA θ 0), .int f, .int z] S (fun r S' => r = (sSaw T N f z).1 ∧ RM S' L x T (sSaw T N f z).2 im tr) := by
  obtain ⟨hok, hNo, hIm⟩ := hA
  have hR' := hR
  obtain ⟨hx, hT, hN, hI, htr⟩ := hR
  have h8 := hok.1
  have hF4 := hok.2.1
  refine Cti.mk (own := RX10) 0 [some (.ref (sA θ 0)), some (.int f), some (.int z)] (fun K hC => ?_)
  have bad : sSaw T N f z = (-1, N) → K 26 [some (.ref (sA θ 0)), some (.int (f)), some (.int (z))] [] S := by
    intro e
    refine q_iconst (v := (-1)) hC dX10_saw_26 (by decide) ?_
    refine q_iret hC dX10_saw_27 ?_
    rw [e]
    exact ⟨rfl, hR'⟩
  refine q_aload_n hC dX10_saw_0 ?_
  refine q_iload_n hC dX10_saw_1 ?_
  refine q_calliV1 hC (by first | assumption | rfl) cvX10_173 dX10_saw_2 (m_isFamily θ _ f T hok hT) (by decide) (fun r S1 hr => ?_)
  obtain ⟨rfl, hS⟩ := hr
  have hS := hS.symm
  subst hS
  cases hp : ixN f (tF T) with
  | none =>
    refine q_if_eq hC 26 dX10_saw_5 (by decide) (fun hb => ?_) (fun hz => absurd hz (by first | decide | exact (show ¬ nI 1 = 0 by decide)))
    exact bad (by simp [sSaw, hp])
  | some g =>
    obtain ⟨hg, rfl⟩ := ixN_some (by omega) hp
    have h256 : 2 ^ tP T ≤ 2 ^ 8 := Nat.pow_le_pow_right (by omega) h8
    refine q_if_eq hC 26 dX10_saw_5 (by decide) (fun hz => absurd hz (by first | decide | exact (show ¬ nI 1 = 0 by decide))) (fun hb => ?_)
    refine q_iload_n hC dX10_saw_8 ?_
    refine q_i2l hC dX10_saw_9 ?_
    refine q_lconst (v := lN 0) hC dX10_saw_10 (by decide) ?_
    refine q_iconst (v := nI 1) hC dX10_saw_11 (by decide) ?_
    refine q_aload_n hC dX10_saw_12 ?_
    refine q_getI hC (by first | assumption | rfl) flX10_67 dX10_saw_13 ?_
    rw [hT.1]
    refine q_ishl hC dX10_saw_16 ?_
    rw [sh1 (by omega)]
    refine q_iconst (v := nI 1) hC dX10_saw_17 (by decide) ?_
    refine q_isub hC dX10_saw_18 ?_
    refine q_i2l hC dX10_saw_19 ?_
    refine q_calliS3 hC csX10_71 dX10_saw_20 (m_in θ _ _ _ _) (by decide) (fun r S1 hr => ?_)
    obtain ⟨rfl, hS⟩ := hr
    have hS := hS.symm
    subst hS
    rw [in_ixR (by omega)]
    cases hw : ixN z (2 ^ tP T) with
    | none =>
      refine q_if_ne hC 28 dX10_saw_23 (by decide) (fun hz => absurd hz (by first | decide | exact (show ¬ nI 1 = 0 by decide))) (fun hb => ?_)
      exact bad (by simp [sSaw, hw])
    | some k =>
      obtain ⟨hk, rfl⟩ := ixN_some (by omega) hw
      refine q_if_ne hC 28 dX10_saw_23 (by decide) (fun hb => ?_) (fun hz => absurd hz (by first | decide | exact (show ¬ nI 1 = 0 by decide)))
      refine q_aload_n hC dX10_saw_28 ?_
      refine q_getI hC (by first | assumption | rfl) flX10_158 dX10_saw_29 ?_
      rw [hN.2.1]
      have hn10 := hNo.2.2.1
      by_cases h10 : nS N < 10
      · refine q_bipush (v := nI 10) hC dX10_saw_32 (by decide) ?_
        refine q_icmp_ne hC 40 dX10_saw_34 (by decide) (fun hb => ?_) (fun hz => absurd hz (fun z => by have := nI_small (by omega) (by omega) z; omega))
        refine q_aload_n hC dX10_saw_40 ?_
        refine q_getR hC (by first | assumption | rfl) flX10_37 dX10_saw_41 ?_
        refine q_aload_n hC dX10_saw_44 ?_
        refine q_getI hC (by first | assumption | rfl) flX10_158 dX10_saw_45 ?_
        rw [hN.2.1]
        refine q_iload_n hC dX10_saw_48 ?_
        refine q_iastn hC (by first | assumption | rfl) (by first | assumption | omega) dX10_saw_49 ?_
        refine q_aload_n hC dX10_saw_50 ?_
        refine q_getR hC (by first | assumption | rfl) flX10_40 dX10_saw_51 ?_
        refine q_aload_n hC dX10_saw_54 ?_
        refine q_getI hC (by first | assumption | rfl) flX10_158 dX10_saw_55 ?_
        rw [up_oc (by decide), hN.2.1]
        refine q_iload_n hC dX10_saw_58 ?_
        refine q_iastn hC (by first | assumption | rfl) (by first | assumption | omega) dX10_saw_59 ?_
        refine q_aload_n hC dX10_saw_60 ?_
        refine q_dup hC dX10_saw_61 rfl ?_
        refine q_getI hC (by first | assumption | rfl) flX10_158 dX10_saw_62 ?_
        rw [up_oc (by decide), up_oc (by decide), hN.2.1]
        refine q_iconst (v := nI 1) hC dX10_saw_65 (by decide) ?_
        refine q_iadd hC dX10_saw_66 ?_
        rw [nI_add]
        refine q_putI hC (by first | assumption | rfl) fpX10_158 dX10_saw_67 ?_
        refine q_aload_n hC dX10_saw_70 ?_
        refine q_getI hC (by first | assumption | rfl) flX10_158 dX10_saw_71 ?_
        rw [up_s]
        refine q_iret hC dX10_saw_74 ?_
        have e : sSaw T N (nI g) (nI k) = (nI (nS N + 1), nSee N g k) := by simp [sSaw, hp, hw, h10]
        rw [e]
        generalize hS2 : up (up (up S 10 (nS N) (nI g)) 11 (nS N) (nI k)) 0 12 (nI (nS N + 1)) = S2
        have q0 : ∀ j, j ≠ 12 → S2.1 0 j = S.1 0 j := fun j h => by rw [← hS2, up_of h, up_oc (by decide), up_oc (by decide)]
        have qc : ∀ a, a ≠ 0 → a ≠ 10 → a ≠ 11 → S2.1 a = S.1 a := fun a h1 h2 h3 => by rw [← hS2, up_oc h1, up_oc h3, up_oc h2]
        refine ⟨rfl, hx.go (q0 1 (by decide)) (qc 1 (by decide) (by decide) (by decide)), hT.go (q0 2 (by decide)) (q0 6 (by decide)) (fun a g1 g2 => qc a (by omega) (by omega) (by omega)), ⟨fun p hp => ?_, ?_, ?_⟩, hI.go (qc 12 (by decide) (by decide) (by decide)), ?_⟩
        · rw [qc 8 (by decide) (by decide) (by decide), qc 9 (by decide) (by decide) (by decide)]; exact hN.1 p hp
        · rw [← hS2, up_s]; rfl
        · obtain ⟨bb, st, c1, c2⟩ := hN.2.2
          have r10 : ∀ j, S2.1 10 j = if j = nS N then nI g else S.1 10 j := fun j => by
            rw [← hS2, up_oc (by decide), up_oc (by decide)]
            by_cases e : j = nS N
            · rw [if_pos e, e, up_s]
            · rw [if_neg e, up_of e]
          have r11 : ∀ j, S2.1 11 j = if j = nS N then nI k else S.1 11 j := fun j => by
            rw [← hS2, up_oc (by decide)]
            by_cases e : j = nS N
            · rw [if_pos e, e, up_s]
            · rw [if_neg e, up_of e, up_oc (by decide)]
          refine ⟨upN bb (nS N) g, upN st (nS N) k, fun j hj => ?_, fun f => ?_⟩
          · have hj' : j < nS N + 1 := hj
            rw [r10, r11]
            by_cases e : j = nS N
            · subst e
              rw [if_pos rfl, if_pos rfl, upN_s, upN_s]
              exact ⟨rfl, rfl, hg, hk⟩
            · rw [if_neg e, if_neg e, upN_o e, upN_o e]
              exact c1 j (by omega)
          · show upN (nW N) g (nW N g ||| k) f = orS (upN bb (nS N) g) (upN st (nS N) k) f (nS N + 1)
            simp only [orS]
            rw [orS_go f (nS N) (bb := bb) (st := st) (fun j hj => ⟨upN_o (by omega), upN_o (by omega)⟩), upN_s, upN_s, ← c2 f]
            by_cases e : f = g
            · subst e; rw [upN_s, if_pos rfl]
            · rw [upN_o e, if_neg (fun z => e z.symm), Nat.or_zero]
        · rw [← hS2]; exact htr
      · have e10 : nS N = 10 := by omega
        rw [e10]
        refine q_bipush (v := nI 10) hC dX10_saw_32 (by decide) ?_
        refine q_icmp_ne hC 40 dX10_saw_34 (by decide) (fun hz => absurd hz (by first | decide | exact (show ¬ nI 1 = 0 by decide))) (fun hb => ?_)
        refine q_bipush (v := (-3)) hC dX10_saw_37 (by decide) ?_
        refine q_iret hC dX10_saw_39 ?_
        exact ⟨by simp [sSaw, hp, hw, h10], by simpa [sSaw, hp, hw, h10] using hR'⟩
theorem m_forget (θ : Site) (S : St) (L : Nat) (x : Nat → Nat) (T : Tn) (N : Nw) (im : Nat → Option Nw) (tr : Int64) (hA : AOk T N im) (hR : RM S L x T N im tr)  : Cti yX10_forget cX10_forget 2 (some .int) 20 θ shM [.ref (sA θ 0)] S (fun r S' => r = nI (nS N) ∧ RM S' L x T (nFor N) im tr) := by
  obtain ⟨hok, hNo, hIm⟩ := hA
  have hR' := hR
  obtain ⟨hx, hT, hN, hI, htr⟩ := hR
  have h8 := hok.1
  have hF4 := hok.2.1
  refine Cti.mk (own := RX10) 1 [some (.ref (sA θ 0)), none] (fun K hC => ?_)
  refine q_aload_n hC dX10_forget_0 ?_
  refine q_getI hC (by first | assumption | rfl) flX10_158 dX10_forget_1 ?_
  rw [hN.2.1]
  refine q_istore_1 hC dX10_forget_4 ?_
  refine q_aload_n hC dX10_forget_5 ?_
  refine q_iconst (v := nI 0) hC dX10_forget_6 (by decide) ?_
  refine q_putI hC (by first | assumption | rfl) fpX10_158 dX10_forget_7 ?_
  refine q_iload_n hC dX10_forget_10 ?_
  refine q_iret hC dX10_forget_11 ?_
  refine ⟨rfl, hx.go (up_of (by decide)) (up_oc (by decide)), hT.go (up_of (by decide)) (up_of (by decide)) (fun a g1 g2 => up_oc (by omega)), ⟨fun p hp => ?_, up_s, fun _ => 0, fun _ => 0, fun k hk => absurd hk (Nat.not_lt_zero k), fun f => rfl⟩, hI.go (up_oc (by decide)), htr⟩
  rw [up_oc (by decide), up_oc (by decide)]; exact hN.1 p hp
theorem m_owned (θ : Site) (S : St) (T : Tn) (N : Nw) (hok : TnOk T) (hNo : NwOk T N) (hT : S.1 0 2 = nI (tP T)) (hN : ∀ p, p < tP T → S.1 8 p = mdO (nO N p)) : Cti yX10_owned cX10_owned 3 (some .int) 0 θ shM [.ref (sA θ 0)] S (fun r S' => r = nI (ownd N) ∧ S' = S) := by
  have h8 := hok.1
  rw [ownd_P hNo h8]
  refine Cti.mk (own := RX10) 2 [some (.ref (sA θ 0)), none, none] (fun K hC => ?_)
  have loop : ∀ n p, p + n = tP T → K 4 [some (.ref (sA θ 0)), some (.int (nI (cnt (fun p => decide (nO N p < 4)) p))), some (.int (nI p))] [] S := by
    intro n
    induction n with
    | zero =>
      intro p hp
      have e : p = tP T := by omega
      subst e
      refine q_iload_n hC dX10_owned_4 ?_
      refine q_aload_n hC dX10_owned_5 ?_
      refine q_getI hC (by first | assumption | rfl) flX10_67 dX10_owned_6 ?_
      rw [hT]
      refine q_icmp_ge hC 35 dX10_owned_9 (by decide) (fun hb => ?_) (fun hz => absurd hz (fun z => z (nI_le (Nat.le_refl _) (by omega))))
      refine q_iload_n hC dX10_owned_35 ?_
      refine q_iret hC dX10_owned_36 ?_
      exact ⟨rfl, rfl⟩
    | succ n ih =>
      intro p hp
      have hp8 : p < 8 := by omega
      have n1 := mdO_neg (hNo.1 p).1
      refine q_iload_n hC dX10_owned_4 ?_
      refine q_aload_n hC dX10_owned_5 ?_
      refine q_getI hC (by first | assumption | rfl) flX10_67 dX10_owned_6 ?_
      rw [hT]
      refine q_icmp_ge hC 35 dX10_owned_9 (by decide) (fun hz => absurd hz (fun z => by have := (nI_leI (by omega) (by omega)).mp z; omega)) (fun hb => ?_)
      refine q_iload_n hC dX10_owned_12 ?_
      refine q_aload_n hC dX10_owned_13 ?_
      refine q_getR hC (by first | assumption | rfl) flX10_31 dX10_owned_14 ?_
      refine q_iload_n hC dX10_owned_17 ?_
      refine q_ialdn hC (by first | assumption | rfl) (by first | assumption | omega) dX10_owned_18 ?_
      rw [hN p (by omega)]
      by_cases h4 : nO N p < 4
      · refine q_if_ge hC 26 dX10_owned_19 (by decide) (fun hb => ?_) (fun hz => absurd hz (fun z => z (Int32.not_lt.mp (fun w => n1.mp w h4))))
        refine q_iconst (v := nI 1) hC dX10_owned_26 (by decide) ?_
        refine q_iadd hC dX10_owned_27 ?_
        rw [nI_add]
        refine q_istore_1 hC dX10_owned_28 ?_
        refine q_inc1_2 hC dX10_owned_29 ?_
        refine q_goto hC 4 dX10_owned_32 (by decide) ?_
        have := ih (p + 1) (by omega)
        simp only [cnt, h4, decide_true, if_true] at this
        exact this
      · refine q_if_ge hC 26 dX10_owned_19 (by decide) (fun hz => absurd hz (fun z => Int32.not_lt.mpr z (n1.mpr h4))) (fun hb => ?_)
        refine q_iconst (v := nI 0) hC dX10_owned_22 (by decide) ?_
        refine q_goto hC 27 dX10_owned_23 (by decide) ?_
        refine q_iadd hC dX10_owned_27 ?_
        rw [nI_add]
        refine q_istore_1 hC dX10_owned_28 ?_
        refine q_inc1_2 hC dX10_owned_29 ?_
        refine q_goto hC 4 dX10_owned_32 (by decide) ?_
        have := ih (p + 1) (by omega)
        simp only [cnt, h4, decide_false, Bool.false_eq_true, if_false] at this
        exact this
  refine q_iconst (v := nI 0) hC dX10_owned_0 (by decide) ?_
  refine q_istore_1 hC dX10_owned_1 ?_
  refine q_iconst (v := nI 0) hC dX10_owned_2 (by decide) ?_
  refine q_istore_2 hC dX10_owned_3 ?_
  exact loop (tP T) 0 (by omega)
theorem m_count (θ : Site) (S : St) (L : Nat) (x : Nat → Nat) (T : Tn) (N : Nw) (im : Nat → Option Nw) (tr : Int64) (hA : AOk T N im) (hR : RM S L x T N im tr) (z : Int32) : Cti yX10_count cX10_count 2 (some .int) 20 θ shM [.ref (sA θ 0), .int z] S (fun r S' => r = sCount L T N z ∧ RM S' L x T N im tr) := by
  obtain ⟨hok, hNo, hIm⟩ := hA
  have hR' := hR
  obtain ⟨hx, hT, hN, hI, htr⟩ := hR
  have h8 := hok.1
  have hF4 := hok.2.1
  refine Cti.mk (own := RX10) 0 [some (.ref (sA θ 0)), some (.int z)] (fun K hC => ?_)
  refine q_iload_n hC dX10_count_0 ?_
  cases hw : ixN z 6 with
  | none =>
    refine q_tabOut hC 79 dX10_count_1 (by have := ixN_none (by decide) hw; rw [Int32.lt_iff_toInt_lt, Int32.le_iff_toInt_le, nI_toInt (by omega), Int32.toInt_zero] at this; omega) (by decide) ?_
    refine q_iconst (v := (-1)) hC dX10_count_79 (by decide) ?_
    refine q_iret hC dX10_count_80 ?_
    exact ⟨by simp [sCount, hw], hR'⟩
  | some k =>
    obtain ⟨hk, rfl⟩ := ixN_some (by decide) hw
    rcases (show k = 0 ∨ k = 1 ∨ k = 2 ∨ k = 3 ∨ k = 4 ∨ k = 5 by omega) with rfl | rfl | rfl | rfl | rfl | rfl
    · refine q_tabIn hC (off := 39) 40 dX10_count_1 (by decide) (by decide) (by decide) (by decide) ?_
      refine q_aload_n hC dX10_count_40 ?_
      refine q_getI hC (by first | assumption | rfl) flX10_67 dX10_count_41 ?_
      rw [hT.1]
      refine q_iret hC dX10_count_44 ?_
      exact ⟨by simp [sCount, hw], hR'⟩
    · refine q_tabIn hC (off := 44) 45 dX10_count_1 (by decide) (by decide) (by decide) (by decide) ?_
      refine q_aload_n hC dX10_count_45 ?_
      refine q_getI hC (by first | assumption | rfl) flX10_75 dX10_count_46 ?_
      rw [hT.2.1]
      refine q_iret hC dX10_count_49 ?_
      exact ⟨by simp [sCount, hw], hR'⟩
    · refine q_tabIn hC (off := 49) 50 dX10_count_1 (by decide) (by decide) (by decide) (by decide) ?_
      refine q_aload_n hC dX10_count_50 ?_
      refine q_calliV0 hC (by first | assumption | rfl) cvX10_240 dX10_count_51 (m_owned θ _ T N hok hNo hT.1 (fun p hp => (hN.1 p hp).1)) (by decide) (fun r S1 hr => ?_)
      obtain ⟨rfl, rfl⟩ := hr
      refine q_iret hC dX10_count_54 ?_
      exact ⟨by simp [sCount, hw], hR'⟩
    · refine q_tabIn hC (off := 54) 55 dX10_count_1 (by decide) (by decide) (by decide) (by decide) ?_
      refine q_aload_n hC dX10_count_55 ?_
      refine q_aload_n hC dX10_count_56 ?_
      refine q_getR hC (by first | assumption | rfl) flX10_31 dX10_count_57 ?_
      refine q_bipush (v := (-5)) hC dX10_count_60 (by decide) ?_
      refine q_calliV2 hC (by first | assumption | rfl) cvX10_178 dX10_count_62 (m_stm θ _ T N hok hNo hT.1 (fun p hp => (hN.1 p hp).1)) (by decide) (fun r S1 hr => ?_)
      obtain ⟨rfl, rfl⟩ := hr
      refine q_calliS1 hC csX10_182 dX10_count_65 (m_many θ _ _ (stm_lt N)) (by decide) (fun r S1 hr => ?_)
      obtain ⟨rfl, rfl⟩ := hr
      refine q_iret hC dX10_count_68 ?_
      exact ⟨by simp [sCount, hw], hR'⟩
    · refine q_tabIn hC (off := 68) 69 dX10_count_1 (by decide) (by decide) (by decide) (by decide) ?_
      refine q_aload_n hC dX10_count_69 ?_
      refine q_getI hC (by first | assumption | rfl) flX10_158 dX10_count_70 ?_
      rw [hN.2.1]
      refine q_iret hC dX10_count_73 ?_
      exact ⟨by simp [sCount, hw], hR'⟩
    · refine q_tabIn hC (off := 73) 74 dX10_count_1 (by decide) (by decide) (by decide) (by decide) ?_
      refine q_aload_n hC dX10_count_74 ?_
      refine q_getI hC (by first | assumption | rfl) flX10_80 dX10_count_75 ?_
      rw [hx.2.2.1]
      refine q_iret hC dX10_count_78 ?_
      exact ⟨by simp [sCount, hw], hR'⟩
theorem m_mark (θ : Site) (S : St) (L : Nat) (x : Nat → Nat) (T : Tn) (N : Nw) (im : Nat → Option Nw) (tr : Int64) (hA : AOk T N im) (hR : RM S L x T N im tr) (w f : Int32) : Cti yX10_mark cX10_mark 8 (some .int) 20 θ shM [.ref (sA θ 0), .int w, .int f] S (fun r S' => r = (sMark T N tr w f).1 ∧ RM S' L x T N im (sMark T N tr w f).2) := by
  obtain ⟨hok, hNo, hIm⟩ := hA
  have hR' := hR
  obtain ⟨hx, hT, hN, hI, htr⟩ := hR
  have h8 := hok.1
  have hF4 := hok.2.1
  refine Cti.mk (own := RX10) 5 [some (.ref (sA θ 0)), some (.int w), some (.int f), none, none, none, none, none] (fun K hC => ?_)
  have bad : sMark T N tr w f = (-1000000, tr) → K 20 [some (.ref (sA θ 0)), some (.int (w)), some (.int (f)), none, none, none, none, none] [] S := by
    intro e
    refine q_ldc hC kcX10_226 dX10_mark_20 ?_
    refine q_iret hC dX10_mark_22 ?_
    rw [e]
    exact ⟨rfl, hR'⟩
  refine q_iload_n hC dX10_mark_0 ?_
  refine q_i2l hC dX10_mark_1 ?_
  refine q_lconst (v := lN 0) hC dX10_mark_2 (by decide) ?_
  refine q_ldc2 hC klX10_164 dX10_mark_3 ?_
  refine q_calliS3 hC csX10_71 dX10_mark_6 (m_inN θ _ w 5 6 rfl (by decide)) (by decide) (fun r S1 hr => ?_)
  obtain ⟨rfl, hS⟩ := hr
  have hS := hS.symm
  subst hS
  cases hw : ixN w 6 with
  | none =>
    refine q_if_eq hC 20 dX10_mark_9 (by decide) (fun hb => ?_) (fun hz => absurd hz (by first | decide | exact (show ¬ nI 1 = 0 by decide)))
    exact bad (by cases hq : ixN f (tF T) <;> simp [sMark, hw, hq])
  | some k =>
    obtain ⟨hk, rfl⟩ := ixN_some (by decide) hw
    refine q_if_eq hC 20 dX10_mark_9 (by decide) (fun hz => absurd hz (by first | decide | exact (show ¬ nI 1 = 0 by decide))) (fun hb => ?_)
    refine q_aload_n hC dX10_mark_12 ?_
    refine q_iload_n hC dX10_mark_13 ?_
    refine q_calliV1 hC (by first | assumption | rfl) cvX10_173 dX10_mark_14 (m_isFamily θ _ f T hok hT) (by decide) (fun r S1 hr => ?_)
    obtain ⟨rfl, hS⟩ := hr
    have hS := hS.symm
    subst hS
    cases hp : ixN f (tF T) with
    | none =>
      refine q_if_ne hC 23 dX10_mark_17 (by decide) (fun hz => absurd hz (by first | decide | exact (show ¬ nI 1 = 0 by decide))) (fun hb => ?_)
      exact bad (by simp [sMark, hp])
    | some g =>
      obtain ⟨hg, rfl⟩ := ixN_some (by omega) hp
      have hg4 : g < 4 := by omega
      refine q_if_ne hC 23 dX10_mark_17 (by decide) (fun hb => ?_) (fun hz => absurd hz (by first | decide | exact (show ¬ nI 1 = 0 by decide)))
      refine q_aload_n hC dX10_mark_23 ?_
      refine q_aload_n hC dX10_mark_24 ?_
      refine q_getR hC (by first | assumption | rfl) flX10_31 dX10_mark_25 ?_
      refine q_iload_n hC dX10_mark_28 ?_
      refine q_calliV2 hC (by first | assumption | rfl) cvX10_178 dX10_mark_29 (m_own θ _ g T N hok hNo hT.1 (fun p hp => (hN.1 p hp).1) hg4) (by decide) (fun r S1 hr => ?_)
      obtain ⟨rfl, hS⟩ := hr
      have hS := hS.symm
      subst hS
      have hB := owm_lt N g
      refine q_istore_3 hC dX10_mark_32 ?_
      refine q_aload_n hC dX10_mark_33 ?_
      refine q_iload_n hC dX10_mark_34 ?_
      refine q_iload_n hC dX10_mark_35 ?_
      refine q_calliV2 hC (by first | assumption | rfl) cvX10_192 dX10_mark_36 (m_wayOf θ _ g _ T hok hT hg hB) (by decide) (fun r S1 hr => ?_)
      obtain ⟨rfl, hF1, -⟩ := hr
      have hRR := hR'.fr (hF1.mono (M := [14, 15, 16, 17, 18, 19]) (by decide))
      have t7 : S1.1 7 g = nI (tN T g) := (hRR.2.1.2.2.2 g hg).2.2
      have t5 : S1.1 5 g = nI (tH T g) := (hRR.2.1.2.2.2 g hg).1
      have rest : ∀ l7, K 88 [some (.ref (sA θ 0)), some (.int (nI k)), some (.int (nI g)), some (.int (nI (owm N g))), some (.int (orN (yd T g (owm N g)))), some (.int (nI (sumY T (owm N g) (tP T)))), some (.int (nI (tP T))), l7] [] S1 := by
        intro l7
        have fin : K 123 [some (.ref (sA θ 0)), some (.int (nI k)), some (.int (nI g)), some (.int (nI (owm N g))), some (.int (orN (yd T g (owm N g)))), some (.int (nI (sumY T (owm N g) (tP T)))), some (.int (nI (tN T g) + nI (popc (owm N g)))), some (.int (nI (tN T g) + nI (ydZ T g (owm N g))))] [] S1 := by
          have hRL : ∀ v, RM (upL S1 0 16 v) L x T N im v := fun v => by
            obtain ⟨a1, a2, a3, a4, a5⟩ := hRR
            exact ⟨a1, a2, a3, a4, upL_s⟩
          rcases (show k = 0 ∨ k = 1 ∨ k = 2 ∨ k = 3 ∨ k = 4 ∨ k = 5 by omega) with rfl | rfl | rfl | rfl | rfl | rfl
          · refine q_aload_n hC dX10_mark_123 ?_
            refine q_dup hC dX10_mark_124 rfl ?_
            refine q_getL hC (by first | assumption | rfl) flX10_227 dX10_mark_125 ?_
            rw [hRR.2.2.2.2]
            refine q_iload_n hC dX10_mark_128 ?_
            refine q_if_ne hC 136 dX10_mark_129 (by decide) (fun hz => absurd hz (by first | decide | exact (show ¬ nI 1 = 0 by decide))) (fun hb => ?_)
            refine q_lconst (v := lN 1) hC dX10_mark_132 (by decide) ?_
            refine q_goto hC 183 dX10_mark_133 (by decide) ?_
            refine q_ladd hC dX10_mark_183 ?_
            refine q_putL hC (by first | assumption | rfl) fpX10_227 dX10_mark_184 ?_
            refine q_iload_n hC dX10_mark_187 ?_
            refine q_if_ne hC 200 dX10_mark_188 (by decide) (fun hz => absurd hz (by first | decide | exact (show ¬ nI 1 = 0 by decide))) (fun hb => ?_)
            refine q_aload_n hC dX10_mark_191 ?_
            refine q_getR hC (by first | assumption | rfl) flX10_28 dX10_mark_192 ?_
            refine q_iload_n hC dX10_mark_195 ?_
            refine q_ialdn hC (by first | assumption | rfl) (by first | assumption | omega) dX10_mark_196 ?_
            show K _ _ (.int (S1.1 7 g) :: _) _
            rw [t7]
            refine q_goto hC 258 dX10_mark_197 (by decide) ?_
            refine q_iret hC dX10_mark_258 ?_
            exact ⟨by simp [sMark, hp, hw], by simpa [sMark, hp, hw] using hRL _⟩
          · refine q_aload_n hC dX10_mark_123 ?_
            refine q_dup hC dX10_mark_124 rfl ?_
            refine q_getL hC (by first | assumption | rfl) flX10_227 dX10_mark_125 ?_
            rw [hRR.2.2.2.2]
            refine q_iload_n hC dX10_mark_128 ?_
            refine q_if_ne hC 136 dX10_mark_129 (by decide) (fun hb => ?_) (fun hz => absurd hz (by first | decide | exact (show ¬ nI 1 = 0 by decide)))
            refine q_iload_n hC dX10_mark_136 ?_
            refine q_iconst (v := nI 1) hC dX10_mark_137 (by decide) ?_
            refine q_icmp_ne hC 147 dX10_mark_138 (by decide) (fun hz => absurd hz (by first | decide | exact (show ¬ nI 1 = 0 by decide))) (fun hb => ?_)
            refine q_ldc2 hC klX10_230 dX10_mark_141 ?_
            refine q_goto hC 183 dX10_mark_144 (by decide) ?_
            refine q_ladd hC dX10_mark_183 ?_
            refine q_putL hC (by first | assumption | rfl) fpX10_227 dX10_mark_184 ?_
            refine q_iload_n hC dX10_mark_187 ?_
            refine q_if_ne hC 200 dX10_mark_188 (by decide) (fun hb => ?_) (fun hz => absurd hz (by first | decide | exact (show ¬ nI 1 = 0 by decide)))
            refine q_iload_n hC dX10_mark_200 ?_
            refine q_iconst (v := nI 1) hC dX10_mark_201 (by decide) ?_
            refine q_icmp_ne hC 210 dX10_mark_202 (by decide) (fun hz => absurd hz (by first | decide | exact (show ¬ nI 1 = 0 by decide))) (fun hb => ?_)
            refine q_iload hC dX10_mark_205 ?_
            refine q_goto hC 258 dX10_mark_207 (by decide) ?_
            refine q_iret hC dX10_mark_258 ?_
            exact ⟨by simp [sMark, hp, hw], by simpa [sMark, hp, hw] using hRL _⟩
          · refine q_aload_n hC dX10_mark_123 ?_
            refine q_dup hC dX10_mark_124 rfl ?_
            refine q_getL hC (by first | assumption | rfl) flX10_227 dX10_mark_125 ?_
            rw [hRR.2.2.2.2]
            refine q_iload_n hC dX10_mark_128 ?_
            refine q_if_ne hC 136 dX10_mark_129 (by decide) (fun hb => ?_) (fun hz => absurd hz (by first | decide | exact (show ¬ nI 1 = 0 by decide)))
            refine q_iload_n hC dX10_mark_136 ?_
            refine q_iconst (v := nI 1) hC dX10_mark_137 (by decide) ?_
            refine q_icmp_ne hC 147 dX10_mark_138 (by decide) (fun hb => ?_) (fun hz => absurd hz (by first | decide | exact (show ¬ nI 1 = 0 by decide)))
            refine q_iload_n hC dX10_mark_147 ?_
            refine q_iconst (v := nI 2) hC dX10_mark_148 (by decide) ?_
            refine q_icmp_ne hC 158 dX10_mark_149 (by decide) (fun hz => absurd hz (by first | decide | exact (show ¬ nI 1 = 0 by decide))) (fun hb => ?_)
            refine q_ldc2 hC klX10_232 dX10_mark_152 ?_
            refine q_goto hC 183 dX10_mark_155 (by decide) ?_
            refine q_ladd hC dX10_mark_183 ?_
            refine q_putL hC (by first | assumption | rfl) fpX10_227 dX10_mark_184 ?_
            refine q_iload_n hC dX10_mark_187 ?_
            refine q_if_ne hC 200 dX10_mark_188 (by decide) (fun hb => ?_) (fun hz => absurd hz (by first | decide | exact (show ¬ nI 1 = 0 by decide)))
            refine q_iload_n hC dX10_mark_200 ?_
            refine q_iconst (v := nI 1) hC dX10_mark_201 (by decide) ?_
            refine q_icmp_ne hC 210 dX10_mark_202 (by decide) (fun hb => ?_) (fun hz => absurd hz (by first | decide | exact (show ¬ nI 1 = 0 by decide)))
            refine q_iload_n hC dX10_mark_210 ?_
            refine q_iconst (v := nI 2) hC dX10_mark_211 (by decide) ?_
            refine q_icmp_ne hC 220 dX10_mark_212 (by decide) (fun hz => absurd hz (by first | decide | exact (show ¬ nI 1 = 0 by decide))) (fun hb => ?_)
            refine q_iload hC dX10_mark_215 ?_
            refine q_goto hC 258 dX10_mark_217 (by decide) ?_
            refine q_iret hC dX10_mark_258 ?_
            exact ⟨by simp [sMark, hp, hw], by simpa [sMark, hp, hw] using hRL _⟩
          · refine q_aload_n hC dX10_mark_123 ?_
            refine q_dup hC dX10_mark_124 rfl ?_
            refine q_getL hC (by first | assumption | rfl) flX10_227 dX10_mark_125 ?_
            rw [hRR.2.2.2.2]
            refine q_iload_n hC dX10_mark_128 ?_
            refine q_if_ne hC 136 dX10_mark_129 (by decide) (fun hb => ?_) (fun hz => absurd hz (by first | decide | exact (show ¬ nI 1 = 0 by decide)))
            refine q_iload_n hC dX10_mark_136 ?_
            refine q_iconst (v := nI 1) hC dX10_mark_137 (by decide) ?_
            refine q_icmp_ne hC 147 dX10_mark_138 (by decide) (fun hb => ?_) (fun hz => absurd hz (by first | decide | exact (show ¬ nI 1 = 0 by decide)))
            refine q_iload_n hC dX10_mark_147 ?_
            refine q_iconst (v := nI 2) hC dX10_mark_148 (by decide) ?_
            refine q_icmp_ne hC 158 dX10_mark_149 (by decide) (fun hb => ?_) (fun hz => absurd hz (by first | decide | exact (show ¬ nI 1 = 0 by decide)))
            refine q_iload_n hC dX10_mark_158 ?_
            refine q_iconst (v := nI 3) hC dX10_mark_159 (by decide) ?_
            refine q_icmp_ne hC 169 dX10_mark_160 (by decide) (fun hz => absurd hz (by first | decide | exact (show ¬ nI 1 = 0 by decide))) (fun hb => ?_)
            refine q_ldc2 hC klX10_234 dX10_mark_163 ?_
            refine q_goto hC 183 dX10_mark_166 (by decide) ?_
            refine q_ladd hC dX10_mark_183 ?_
            refine q_putL hC (by first | assumption | rfl) fpX10_227 dX10_mark_184 ?_
            refine q_iload_n hC dX10_mark_187 ?_
            refine q_if_ne hC 200 dX10_mark_188 (by decide) (fun hb => ?_) (fun hz => absurd hz (by first | decide | exact (show ¬ nI 1 = 0 by decide)))
            refine q_iload_n hC dX10_mark_200 ?_
            refine q_iconst (v := nI 1) hC dX10_mark_201 (by decide) ?_
            refine q_icmp_ne hC 210 dX10_mark_202 (by decide) (fun hb => ?_) (fun hz => absurd hz (by first | decide | exact (show ¬ nI 1 = 0 by decide)))
            refine q_iload_n hC dX10_mark_210 ?_
            refine q_iconst (v := nI 2) hC dX10_mark_211 (by decide) ?_
            refine q_icmp_ne hC 220 dX10_mark_212 (by decide) (fun hb => ?_) (fun hz => absurd hz (by first | decide | exact (show ¬ nI 1 = 0 by decide)))
            refine q_iload_n hC dX10_mark_220 ?_
            refine q_iconst (v := nI 3) hC dX10_mark_221 (by decide) ?_
            refine q_icmp_ne hC 232 dX10_mark_222 (by decide) (fun hz => absurd hz (by first | decide | exact (show ¬ nI 1 = 0 by decide))) (fun hb => ?_)
            refine q_iconst (v := nI 2) hC dX10_mark_225 (by decide) ?_
            refine q_iload hC dX10_mark_226 ?_
            refine q_imul hC dX10_mark_228 ?_
            refine q_goto hC 258 dX10_mark_229 (by decide) ?_
            refine q_iret hC dX10_mark_258 ?_
            refine ⟨?_, by simpa [sMark, hp, hw] using hRL _⟩
            simp only [sMark, hp, hw]
            rw [Int32.mul_comm]
          · refine q_aload_n hC dX10_mark_123 ?_
            refine q_dup hC dX10_mark_124 rfl ?_
            refine q_getL hC (by first | assumption | rfl) flX10_227 dX10_mark_125 ?_
            rw [hRR.2.2.2.2]
            refine q_iload_n hC dX10_mark_128 ?_
            refine q_if_ne hC 136 dX10_mark_129 (by decide) (fun hb => ?_) (fun hz => absurd hz (by first | decide | exact (show ¬ nI 1 = 0 by decide)))
            refine q_iload_n hC dX10_mark_136 ?_
            refine q_iconst (v := nI 1) hC dX10_mark_137 (by decide) ?_
            refine q_icmp_ne hC 147 dX10_mark_138 (by decide) (fun hb => ?_) (fun hz => absurd hz (by first | decide | exact (show ¬ nI 1 = 0 by decide)))
            refine q_iload_n hC dX10_mark_147 ?_
            refine q_iconst (v := nI 2) hC dX10_mark_148 (by decide) ?_
            refine q_icmp_ne hC 158 dX10_mark_149 (by decide) (fun hb => ?_) (fun hz => absurd hz (by first | decide | exact (show ¬ nI 1 = 0 by decide)))
            refine q_iload_n hC dX10_mark_158 ?_
            refine q_iconst (v := nI 3) hC dX10_mark_159 (by decide) ?_
            refine q_icmp_ne hC 169 dX10_mark_160 (by decide) (fun hb => ?_) (fun hz => absurd hz (by first | decide | exact (show ¬ nI 1 = 0 by decide)))
            refine q_iload_n hC dX10_mark_169 ?_
            refine q_iconst (v := nI 4) hC dX10_mark_170 (by decide) ?_
            refine q_icmp_ne hC 180 dX10_mark_171 (by decide) (fun hz => absurd hz (by first | decide | exact (show ¬ nI 1 = 0 by decide))) (fun hb => ?_)
            refine q_ldc2 hC klX10_236 dX10_mark_174 ?_
            refine q_goto hC 183 dX10_mark_177 (by decide) ?_
            refine q_ladd hC dX10_mark_183 ?_
            refine q_putL hC (by first | assumption | rfl) fpX10_227 dX10_mark_184 ?_
            refine q_iload_n hC dX10_mark_187 ?_
            refine q_if_ne hC 200 dX10_mark_188 (by decide) (fun hb => ?_) (fun hz => absurd hz (by first | decide | exact (show ¬ nI 1 = 0 by decide)))
            refine q_iload_n hC dX10_mark_200 ?_
            refine q_iconst (v := nI 1) hC dX10_mark_201 (by decide) ?_
            refine q_icmp_ne hC 210 dX10_mark_202 (by decide) (fun hb => ?_) (fun hz => absurd hz (by first | decide | exact (show ¬ nI 1 = 0 by decide)))
            refine q_iload_n hC dX10_mark_210 ?_
            refine q_iconst (v := nI 2) hC dX10_mark_211 (by decide) ?_
            refine q_icmp_ne hC 220 dX10_mark_212 (by decide) (fun hb => ?_) (fun hz => absurd hz (by first | decide | exact (show ¬ nI 1 = 0 by decide)))
            refine q_iload_n hC dX10_mark_220 ?_
            refine q_iconst (v := nI 3) hC dX10_mark_221 (by decide) ?_
            refine q_icmp_ne hC 232 dX10_mark_222 (by decide) (fun hb => ?_) (fun hz => absurd hz (by first | decide | exact (show ¬ nI 1 = 0 by decide)))
            refine q_iload_n hC dX10_mark_232 ?_
            refine q_iconst (v := nI 4) hC dX10_mark_233 (by decide) ?_
            refine q_icmp_ne hC 245 dX10_mark_234 (by decide) (fun hz => absurd hz (by first | decide | exact (show ¬ nI 1 = 0 by decide))) (fun hb => ?_)
            refine q_iload hC dX10_mark_237 ?_
            refine q_iload hC dX10_mark_239 ?_
            refine q_isub hC dX10_mark_241 ?_
            refine q_goto hC 258 dX10_mark_242 (by decide) ?_
            refine q_iret hC dX10_mark_258 ?_
            exact ⟨by simp [sMark, hp, hw], by simpa [sMark, hp, hw] using hRL _⟩
          · refine q_aload_n hC dX10_mark_123 ?_
            refine q_dup hC dX10_mark_124 rfl ?_
            refine q_getL hC (by first | assumption | rfl) flX10_227 dX10_mark_125 ?_
            rw [hRR.2.2.2.2]
            refine q_iload_n hC dX10_mark_128 ?_
            refine q_if_ne hC 136 dX10_mark_129 (by decide) (fun hb => ?_) (fun hz => absurd hz (by first | decide | exact (show ¬ nI 1 = 0 by decide)))
            refine q_iload_n hC dX10_mark_136 ?_
            refine q_iconst (v := nI 1) hC dX10_mark_137 (by decide) ?_
            refine q_icmp_ne hC 147 dX10_mark_138 (by decide) (fun hb => ?_) (fun hz => absurd hz (by first | decide | exact (show ¬ nI 1 = 0 by decide)))
            refine q_iload_n hC dX10_mark_147 ?_
            refine q_iconst (v := nI 2) hC dX10_mark_148 (by decide) ?_
            refine q_icmp_ne hC 158 dX10_mark_149 (by decide) (fun hb => ?_) (fun hz => absurd hz (by first | decide | exact (show ¬ nI 1 = 0 by decide)))
            refine q_iload_n hC dX10_mark_158 ?_
            refine q_iconst (v := nI 3) hC dX10_mark_159 (by decide) ?_
            refine q_icmp_ne hC 169 dX10_mark_160 (by decide) (fun hb => ?_) (fun hz => absurd hz (by first | decide | exact (show ¬ nI 1 = 0 by decide)))
            refine q_iload_n hC dX10_mark_169 ?_
            refine q_iconst (v := nI 4) hC dX10_mark_170 (by decide) ?_
            refine q_icmp_ne hC 180 dX10_mark_171 (by decide) (fun hb => ?_) (fun hz => absurd hz (by first | decide | exact (show ¬ nI 1 = 0 by decide)))
            refine q_ldc2 hC klX10_238 dX10_mark_180 ?_
            refine q_ladd hC dX10_mark_183 ?_
            refine q_putL hC (by first | assumption | rfl) fpX10_227 dX10_mark_184 ?_
            refine q_iload_n hC dX10_mark_187 ?_
            refine q_if_ne hC 200 dX10_mark_188 (by decide) (fun hb => ?_) (fun hz => absurd hz (by first | decide | exact (show ¬ nI 1 = 0 by decide)))
            refine q_iload_n hC dX10_mark_200 ?_
            refine q_iconst (v := nI 1) hC dX10_mark_201 (by decide) ?_
            refine q_icmp_ne hC 210 dX10_mark_202 (by decide) (fun hb => ?_) (fun hz => absurd hz (by first | decide | exact (show ¬ nI 1 = 0 by decide)))
            refine q_iload_n hC dX10_mark_210 ?_
            refine q_iconst (v := nI 2) hC dX10_mark_211 (by decide) ?_
            refine q_icmp_ne hC 220 dX10_mark_212 (by decide) (fun hb => ?_) (fun hz => absurd hz (by first | decide | exact (show ¬ nI 1 = 0 by decide)))
            refine q_iload_n hC dX10_mark_220 ?_
            refine q_iconst (v := nI 3) hC dX10_mark_221 (by decide) ?_
            refine q_icmp_ne hC 232 dX10_mark_222 (by decide) (fun hb => ?_) (fun hz => absurd hz (by first | decide | exact (show ¬ nI 1 = 0 by decide)))
            refine q_iload_n hC dX10_mark_232 ?_
            refine q_iconst (v := nI 4) hC dX10_mark_233 (by decide) ?_
            refine q_icmp_ne hC 245 dX10_mark_234 (by decide) (fun hb => ?_) (fun hz => absurd hz (by first | decide | exact (show ¬ nI 1 = 0 by decide)))
            refine q_aload_n hC dX10_mark_245 ?_
            refine q_getR hC (by first | assumption | rfl) flX10_28 dX10_mark_246 ?_
            refine q_iload_n hC dX10_mark_249 ?_
            refine q_ialdn hC (by first | assumption | rfl) (by first | assumption | omega) dX10_mark_250 ?_
            show K _ _ (.int (S1.1 7 g) :: _) _
            rw [t7]
            refine q_aload_n hC dX10_mark_251 ?_
            refine q_getR hC (by first | assumption | rfl) flX10_22 dX10_mark_252 ?_
            refine q_iload_n hC dX10_mark_255 ?_
            refine q_ialdn hC (by first | assumption | rfl) (by first | assumption | omega) dX10_mark_256 ?_
            show K _ _ (.int (S1.1 5 g) :: _) _
            rw [t5]
            refine q_iadd hC dX10_mark_257 ?_
            refine q_iret hC dX10_mark_258 ?_
            exact ⟨by simp [sMark, hp, hw], by simpa [sMark, hp, hw] using hRL _⟩
        refine q_aload_n hC dX10_mark_88 ?_
        refine q_getR hC (by first | assumption | rfl) flX10_28 dX10_mark_89 ?_
        refine q_iload_n hC dX10_mark_92 ?_
        refine q_ialdn hC (by first | assumption | rfl) (by first | assumption | omega) dX10_mark_93 ?_
        rw [t7]
        refine q_iload_n hC dX10_mark_94 ?_
        refine q_calliS1 hC csX10_182 dX10_mark_95 (m_many θ _ _ hB) (by decide) (fun r2 S2 hr2 => ?_)
        obtain ⟨rfl, hS⟩ := hr2
        have hS := hS.symm
        subst hS
        refine q_iadd hC dX10_mark_98 ?_
        refine q_istore_6 hC dX10_mark_99 ?_
        refine q_aload_n hC dX10_mark_101 ?_
        refine q_getR hC (by first | assumption | rfl) flX10_28 dX10_mark_102 ?_
        refine q_iload_n hC dX10_mark_105 ?_
        refine q_ialdn hC (by first | assumption | rfl) (by first | assumption | omega) dX10_mark_106 ?_
        rw [t7]
        by_cases hy : yd T g (owm N g) < 100000
        · have ez : ydZ T g (owm N g) = yd T g (owm N g) := if_pos hy
          rw [ez] at fin
          rw [orN_lt hy] at fin ⊢
          refine q_iload hC dX10_mark_107 ?_
          refine q_bipush (v := (-9)) hC dX10_mark_109 (by decide) ?_
          refine q_icmp_ne hC 118 dX10_mark_111 (by decide) (fun hb => ?_) (fun hz => absurd hz (nI_n9 (by omega)))
          refine q_iload hC dX10_mark_118 ?_
          refine q_iadd hC dX10_mark_120 ?_
          refine q_istore_7 hC dX10_mark_121 ?_
          exact fin
        · have ez : ydZ T g (owm N g) = 0 := if_neg hy
          rw [ez] at fin
          rw [orN_ge hy] at fin ⊢
          refine q_iload hC dX10_mark_107 ?_
          refine q_bipush (v := (-9)) hC dX10_mark_109 (by decide) ?_
          refine q_icmp_ne hC 118 dX10_mark_111 (by decide) (fun hz => absurd hz (by first | decide | exact (show ¬ nI 1 = 0 by decide))) (fun hb => ?_)
          refine q_iconst (v := nI 0) hC dX10_mark_114 (by decide) ?_
          refine q_goto hC 120 dX10_mark_115 (by decide) ?_
          refine q_iadd hC dX10_mark_120 ?_
          refine q_istore_7 hC dX10_mark_121 ?_
          exact fin
      have loop : ∀ n p l7, p + n = tP T → K 47 [some (.ref (sA θ 0)), some (.int (nI k)), some (.int (nI g)), some (.int (nI (owm N g))), some (.int (orN (yd T g (owm N g)))), some (.int (nI (sumY T (owm N g) p))), some (.int (nI p)), l7] [] S1 := by
        intro n
        induction n with
        | zero =>
          intro p l7 hp0
          have e : p = tP T := by omega
          subst e
          refine q_iload hC dX10_mark_47 ?_
          refine q_aload_n hC dX10_mark_49 ?_
          refine q_getI hC (by first | assumption | rfl) flX10_67 dX10_mark_50 ?_
          rw [hRR.2.1.1]
          refine q_icmp_ge hC 88 dX10_mark_53 (by decide) (fun hb => ?_) (fun hz => absurd hz (fun z => z (nI_le (Nat.le_refl _) (by omega))))
          exact rest _
        | succ n ih =>
          intro p l7 hp0
          have hp8 : p < 8 := by omega
          have hb2 : owm N g / 2 ^ p % 2 < 2 := Nat.mod_lt _ (by omega)
          refine q_iload hC dX10_mark_47 ?_
          refine q_aload_n hC dX10_mark_49 ?_
          refine q_getI hC (by first | assumption | rfl) flX10_67 dX10_mark_50 ?_
          rw [hRR.2.1.1]
          refine q_icmp_ge hC 88 dX10_mark_53 (by decide) (fun hz => absurd hz (fun z => by have := (nI_leI (by omega) (by omega)).mp z; omega)) (fun hb => ?_)
          refine q_iload hC dX10_mark_56 ?_
          refine q_iload_n hC dX10_mark_58 ?_
          refine q_iload hC dX10_mark_59 ?_
          refine q_ishr hC dX10_mark_61 ?_
          refine q_iconst (v := nI 1) hC dX10_mark_62 (by decide) ?_
          refine q_iand hC dX10_mark_63 ?_
          rw [bit_n (by omega) (by omega)]
          refine q_iconst (v := nI 1) hC dX10_mark_64 (by decide) ?_
          by_cases hb1 : owm N g / 2 ^ p % 2 = 1
          · rw [hb1]
            refine q_icmp_ne hC 78 dX10_mark_65 (by decide) (fun hz => absurd hz (by first | decide | exact (show ¬ nI 1 = 0 by decide))) (fun hb => ?_)
            refine q_aload_n hC dX10_mark_68 ?_
            refine q_getR hC (by first | assumption | rfl) flX10_19 dX10_mark_69 ?_
            refine q_iload hC dX10_mark_72 ?_
            refine q_ialdn hC (by first | assumption | rfl) (by first | assumption | omega) dX10_mark_74 ?_
            rw [(hRR.2.1.2.2.1 p (by omega)).2.2]
            refine q_goto hC 79 dX10_mark_75 (by decide) ?_
            refine q_iadd hC dX10_mark_79 ?_
            rw [nI_add]
            refine q_istore_5 hC dX10_mark_80 ?_
            refine q_inc1_6 hC dX10_mark_82 ?_
            refine q_goto hC 47 dX10_mark_85 (by decide) ?_
            have e : sumY T (owm N g) (p + 1) = sumY T (owm N g) p + tY T p := by simp only [sumY]; rw [hb1, Nat.one_mul]
            rw [← e]
            exact ih (p + 1) _ (by omega)
          · have hb0 : owm N g / 2 ^ p % 2 = 0 := by omega
            rw [hb0]
            refine q_icmp_ne hC 78 dX10_mark_65 (by decide) (fun hb => ?_) (fun hz => absurd hz (by first | decide | exact (show ¬ nI 1 = 0 by decide)))
            refine q_iconst (v := nI 0) hC dX10_mark_78 (by decide) ?_
            refine q_iadd hC dX10_mark_79 ?_
            rw [nI_add]
            refine q_istore_5 hC dX10_mark_80 ?_
            refine q_inc1_6 hC dX10_mark_82 ?_
            refine q_goto hC 47 dX10_mark_85 (by decide) ?_
            have e : sumY T (owm N g) (p + 1) = sumY T (owm N g) p + 0 := by simp only [sumY]; rw [hb0, Nat.zero_mul]
            rw [← e]
            exact ih (p + 1) _ (by omega)
      refine q_istore_4 hC dX10_mark_39 ?_
      refine q_iconst (v := nI 0) hC dX10_mark_41 (by decide) ?_
      refine q_istore_5 hC dX10_mark_42 ?_
      refine q_iconst (v := nI 0) hC dX10_mark_44 (by decide) ?_
      refine q_istore_6 hC dX10_mark_45 ?_
      exact loop (tP T) 0 _ (by omega)
