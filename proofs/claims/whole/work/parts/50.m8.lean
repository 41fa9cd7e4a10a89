def TlR (S : St) (T : Tn) : Prop := ∀ f, f < tF T → ∀ B, B < 2 ^ tP T → S.1 15 (256 * f + B) = orN (yd T f B)
theorem m_tells (θ : Site) (S : St) (T : Tn) (hok : TnOk T) (hT : MTw S T) : Ctv yX10_tells cX10_tells 3 none 2 θ shM [.ref (sA θ 0)] S (fun S' => Fr S S' [14, 15] ∧ TlR S' T) := by
  have h8 := hok.1
  have hF4 := hok.2.1
  have h256 : 2 ^ tP T ≤ 2 ^ 8 := Nat.pow_le_pow_right (by omega) h8
  have mt : ∀ S1, Fr S S1 [14, 15] → MTw S1 T := fun S1 hF => hT.go (by rw [hF.c 0]) (by rw [hF.c 0]) (fun a g1 g2 => hF.1 a (by simp only [List.mem_cons, List.not_mem_nil, or_false, not_or]; omega))
  refine Ctv.mk (own := RX10) 2 [some (.ref (sA θ 0)), none, none] (fun K hC => ?_)
  have fams : ∀ n f S1 l2, f + n = tF T → Fr S S1 [14, 15] → (∀ g, g < f → ∀ B, B < 2 ^ tP T → S1.1 15 (256 * g + B) = orN (yd T g B)) → K 2 [some (.ref (sA θ 0)), some (.int (nI f)), l2] [] S1 := by
    intro n
    induction n with
    | zero =>
      intro f S1 l2 hf hF hL
      have e : f = tF T := by omega
      subst e
      refine q_iload_n hC dX10_tells_2 ?_
      refine q_aload_n hC dX10_tells_3 ?_
      refine q_getI hC (by first | assumption | rfl) flX10_75 dX10_tells_4 ?_
      rw [(mt S1 hF).2.1]
      refine q_icmp_ge hC 52 dX10_tells_7 (by decide) (fun hb => ?_) (fun hz => absurd hz (fun z => z (nI_le (Nat.le_refl _) (by omega))))
      refine q_vret hC dX10_tells_52 ?_
      exact ⟨hF, hL⟩
    | succ n ih =>
      intro f S1 l2 hf hF hL
      have hf4 : f < 4 := by omega
      have sets : ∀ m s S2, s + m = 2 ^ tP T → Fr S S2 [14, 15] → (∀ g, g < f → ∀ B, B < 2 ^ tP T → S2.1 15 (256 * g + B) = orN (yd T g B)) → (∀ B, B < s → S2.1 15 (256 * f + B) = orN (yd T f B)) → K 12 [some (.ref (sA θ 0)), some (.int (nI f)), some (.int (nI s))] [] S2 := by
        intro m
        induction m with
        | zero =>
          intro s S2 hs hF2 hL2 hB2
          have e : s = 2 ^ tP T := by omega
          subst e
          refine q_iload_n hC dX10_tells_12 ?_
          refine q_iconst (v := nI 1) hC dX10_tells_13 (by decide) ?_
          refine q_aload_n hC dX10_tells_14 ?_
          refine q_getI hC (by first | assumption | rfl) flX10_67 dX10_tells_15 ?_
          rw [(mt S2 hF2).1]
          refine q_ishl hC dX10_tells_18 ?_
          rw [sh1 (by omega)]
          refine q_icmp_ge hC 46 dX10_tells_19 (by decide) (fun hb => ?_) (fun hz => absurd hz (fun z => z (nI_le (Nat.le_refl _) (by omega))))
          refine q_inc1_1 hC dX10_tells_46 ?_
          refine q_goto hC 2 dX10_tells_49 (by decide) ?_
          refine ih (f + 1) S2 _ (by omega) hF2 (fun g hg B hB => ?_)
          by_cases e : g = f
          · subst e; exact hB2 B hB
          · exact hL2 g (by omega) B hB
        | succ m ihs =>
          intro s S2 hs hF2 hL2 hB2
          have hs256 : s < 256 := by omega
          refine q_iload_n hC dX10_tells_12 ?_
          refine q_iconst (v := nI 1) hC dX10_tells_13 (by decide) ?_
          refine q_aload_n hC dX10_tells_14 ?_
          refine q_getI hC (by first | assumption | rfl) flX10_67 dX10_tells_15 ?_
          rw [(mt S2 hF2).1]
          refine q_ishl hC dX10_tells_18 ?_
          rw [sh1 (by omega)]
          refine q_icmp_ge hC 46 dX10_tells_19 (by decide) (fun hz => absurd hz (fun z => by have := (nI_leI (by omega) (by omega)).mp z; omega)) (fun hb => ?_)
          refine q_aload_n hC dX10_tells_22 ?_
          refine q_getR hC (by first | assumption | rfl) flX10_52 dX10_tells_23 ?_
          refine q_sipush (v := nI 256) hC dX10_tells_26 (by decide) ?_
          refine q_iload_n hC dX10_tells_29 ?_
          refine q_imul hC dX10_tells_30 ?_
          rw [pk_mul]
          refine q_iload_n hC dX10_tells_31 ?_
          refine q_iadd hC dX10_tells_32 ?_
          rw [nI_add]
          refine q_aload_n hC dX10_tells_33 ?_
          refine q_iload_n hC dX10_tells_34 ?_
          refine q_iload_n hC dX10_tells_35 ?_
          refine q_calliV2 hC (by first | assumption | rfl) cvX10_192 dX10_tells_36 (m_wayOf θ _ f s T hok (mt S2 hF2) (by omega) hs256) (by decide) (fun r3 S3 hr3 => ?_)
          obtain ⟨rfl, hF3, -⟩ := hr3
          have hF3' := hF2.trans (hF3.mono (M := [14, 15]) (by decide))
          refine q_iastn hC (by first | assumption | rfl) (by first | assumption | omega) dX10_tells_39 ?_
          refine q_inc1_2 hC dX10_tells_40 ?_
          refine q_goto hC 12 dX10_tells_43 (by decide) ?_
          refine ihs (s + 1) _ (by omega) (hF3'.trans (Fr.u1.mono (by decide))) (fun g hg B hB => ?_) (fun B hB => ?_)
          · rw [up_of (by omega), hF3.c 15]; exact hL2 g hg B hB
          · by_cases e : B = s
            · subst e; rw [up_s]
            · rw [up_of (by omega), hF3.c 15]; exact hB2 B (by omega)
      refine q_iload_n hC dX10_tells_2 ?_
      refine q_aload_n hC dX10_tells_3 ?_
      refine q_getI hC (by first | assumption | rfl) flX10_75 dX10_tells_4 ?_
      rw [(mt S1 hF).2.1]
      refine q_icmp_ge hC 52 dX10_tells_7 (by decide) (fun hz => absurd hz (fun z => by have := (nI_leI (by omega) (by omega)).mp z; omega)) (fun hb => ?_)
      refine q_iconst (v := nI 0) hC dX10_tells_10 (by decide) ?_
      refine q_istore_2 hC dX10_tells_11 ?_
      exact sets (2 ^ tP T) 0 S1 (by omega) hF hL (fun B hB => by omega)
  refine q_iconst (v := nI 0) hC dX10_tells_0 (by decide) ?_
  refine q_istore_1 hC dX10_tells_1 ?_
  exact fams (tF T) 0 S _ (by omega) Fr.rfl' (fun g hg => by omega)
theorem or_bit (a b p : Nat) : (a ||| b) / 2 ^ p % 2 = if a / 2 ^ p % 2 = 1 ∨ b / 2 ^ p % 2 = 1 then 1 else 0 := by
  have h := Nat.testBit_or a b p
  rw [Nat.testBit_eq_decide_div_mod_eq, Nat.testBit_eq_decide_div_mod_eq, Nat.testBit_eq_decide_div_mod_eq] at h
  have h2 : (a ||| b) / 2 ^ p % 2 < 2 := Nat.mod_lt _ (by omega)
  by_cases hc : a / 2 ^ p % 2 = 1 ∨ b / 2 ^ p % 2 = 1
  · rw [if_pos hc]
    have : decide ((a ||| b) / 2 ^ p % 2 = 1) = true := by
      rw [h]; rcases hc with e | e <;> simp [e]
    simpa using this
  · rw [if_neg hc]
    have : decide ((a ||| b) / 2 ^ p % 2 = 1) = false := by
      rw [h]
      have h3 : ¬ a / 2 ^ p % 2 = 1 := fun z => hc (Or.inl z)
      have h4 : ¬ b / 2 ^ p % 2 = 1 := fun z => hc (Or.inr z)
      simp [h3, h4]
    have : ¬ (a ||| b) / 2 ^ p % 2 = 1 := by simpa using this
    omega
theorem wW_bad {T : Tn} (hT : TnOk T) {w worth f p : Nat} (hf : f < tF T) (h : ¬ yd T f (2 ^ p) < 100000) : 100000 ≤ wW T w worth f p := by
  have hn := (hT.2.2.2 f hf).2.2.1
  unfold wW
  split
  · split <;> omega
  · have : 100000 * 1 ≤ yd T f (2 ^ p) * tN T f := Nat.mul_le_mul (by omega) hn
    omega
theorem wW_fin {T : Tn} (hT : TnOk T) {w worth f p : Nat} (hf : f < tF T) (h : yd T f (2 ^ p) < 100000) (hw : worth ≤ 21645 * f) : wW T w worth f p ≤ 21645 * (f + 1) := by
  have hn := (hT.2.2.2 f hf).2.2.2
  have hy := yd_bd hT f (2 ^ p)
  unfold wW
  split
  · split <;> omega
  · have : yd T f (2 ^ p) * tN T f ≤ 2405 * 9 := Nat.mul_le_mul (by omega) hn
    omega
theorem m_bestOfOne (θ : Site) (S : St) (w : Nat) (T : Tn) (N : Nw) (hok : TnOk T) (hNo : NwOk T N) (hT : MTw S T) (hN : ∀ p, p < tP T → S.1 8 p = mdO (nO N p)) (hw : w < 2) : Cti yX10_bestOfOne cX10_bestOfOne 12 (some .int) 3 θ shM [.ref (sA θ 0), .int (nI w)] S (fun r S' => r = orN (mO T w (stm N)).1 ∧ Fr S S' [14, 15, 16] ∧ ((mO T w (stm N)).1 < 100000 → ∀ j, j < tF T → S'.1 16 j = nI (dgO T (mO T w (stm N)).2 j))) := by
  have h8 := hok.1
  have hF4 := hok.2.1
  have hrw : tP T ^ tF T ≤ 8 ^ 4 := Nat.le_trans (Nat.pow_le_pow_left h8 _) (Nat.pow_le_pow_right (by omega) hF4)
  have hpw : ∀ k, k ≤ tF T → tP T ^ k ≤ 4096 := fun k hk => Nat.le_trans (Nat.pow_le_pow_left h8 _) (Nat.le_trans (Nat.pow_le_pow_right (by omega) (show k ≤ 4 by omega)) (by decide))
  refine Cti.mk (own := RX10) 10 [some (.ref (sA θ 0)), some (.int (nI w)), none, none, none, none, none, none, none, none, none, none] (fun K hC => ?_)
  refine q_aload_n hC dX10_bestOfOne_0 ?_
  refine q_callvV0 hC (by first | assumption | rfl) cvX10_200 dX10_bestOfOne_1 (m_tells θ _ T hok hT) (by decide) (fun S0 hr0 => ?_)
  obtain ⟨hF0, hTl0⟩ := hr0
  have hF0' := hF0.mono (M := [14, 15, 16]) (by decide)
  have mt : ∀ S1, Fr S S1 [14, 15, 16] → MTw S1 T := fun S1 hF => hT.go (by rw [hF.c 0]) (by rw [hF.c 0]) (fun a g1 g2 => hF.1 a (by simp only [List.mem_cons, List.not_mem_nil, or_false, not_or]; omega))
  have rows : ∀ n row S1 l5 l6 l7 l8 l9 l10 l11, row + n = tP T ^ tF T → Fr S S1 [14, 15, 16] → TlR S1 T → ((fdl (mnF (WW T w (tF T) 0 (stm N) 0) 0) row (100000, 0)).1 < 100000 → ∀ j, j < tF T → S1.1 16 j = nI (dgO T (fdl (mnF (WW T w (tF T) 0 (stm N) 0) 0) row (100000, 0)).2 j)) → K 37 [some (.ref (sA θ 0)), some (.int (nI w)), some (.int (orN (fdl (mnF (WW T w (tF T) 0 (stm N) 0) 0) row (100000, 0)).1)), some (.int (nI (tP T ^ tF T))), some (.int (nI row)), l5, l6, l7, l8, l9, l10, l11] [] S1 := by
    intro n
    induction n with
    | zero =>
      intro row S1 l5 l6 l7 l8 l9 l10 l11 hr hF hTl hB
      have e : row = tP T ^ tF T := by omega
      subst e
      refine q_iload hC dX10_bestOfOne_37 ?_
      refine q_iload_n hC dX10_bestOfOne_39 ?_
      refine q_icmp_ge hC 271 dX10_bestOfOne_40 (by decide) (fun hb => ?_) (fun hz => absurd hz (fun z => z (nI_le (Nat.le_refl _) (by omega))))
      refine q_iload_n hC dX10_bestOfOne_271 ?_
      refine q_iret hC dX10_bestOfOne_272 ?_
      exact ⟨rfl, hF, hB⟩
    | succ n ih =>
      intro row S1 l5 l6 l7 l8 l9 l10 l11 hr hF hTl hB
      have hT1 := mt S1 hF
      have hN1 : ∀ p, p < tP T → S1.1 8 p = mdO (nO N p) := fun p hp => by rw [hF.c 8]; exact hN p hp
      have hml := mnF_le (W := WW T w (tF T) 0 (stm N) 0) (off := 0) row (100000, 0) (Nat.le_refl _)
      have hnext : fdl (mnF (WW T w (tF T) 0 (stm N) 0) 0) (row + 1) (100000, 0) = mnF (WW T w (tF T) 0 (stm N) 0) 0 row (fdl (mnF (WW T w (tF T) 0 (stm N) 0) 0) row (100000, 0)) := rfl
      generalize fdl (mnF (WW T w (tF T) 0 (stm N) 0) 0) row (100000, 0) = m at hml hnext hB
      -- a row that isn't taken
      have skip : ∀ l5 l6 l7 l8 l9 l10 l11, m.1 ≤ WW T w (tF T) 0 (stm N) 0 row → K 265 [some (.ref (sA θ 0)), some (.int (nI w)), some (.int (orN m.1)), some (.int (nI (tP T ^ tF T))), some (.int (nI row)), l5, l6, l7, l8, l9, l10, l11] [] S1 := by
        intro l5 l6 l7 l8 l9 l10 l11 hge
        have e : mnF (WW T w (tF T) 0 (stm N) 0) 0 row m = m := by unfold mnF; rw [if_neg (by omega)]
        rw [e] at hnext
        refine q_inc1_4 hC dX10_bestOfOne_265 ?_
        refine q_goto hC 37 dX10_bestOfOne_268 (by decide) ?_
        have := ih (row + 1) S1 l5 l6 l7 l8 l9 l10 l11 (by omega) hF hTl
        rw [hnext] at this
        exact this hB
      -- a row that is
      have take : ∀ l5 l6 sm l9 l10 l11, WW T w (tF T) 0 (stm N) 0 row = sm → sm < m.1 → K 215 [some (.ref (sA θ 0)), some (.int (nI w)), some (.int (orN m.1)), some (.int (nI (tP T ^ tF T))), some (.int (nI row)), l5, l6, some (.int (nI sm)), some (.int (nI 1)), l9, l10, l11] [] S1 := by
        intro l5 l6 sm l9 l10 l11 hW hlt
        have e : mnF (WW T w (tF T) 0 (stm N) 0) 0 row m = (sm, 0 + row) := by unfold mnF; rw [if_pos (by omega), hW]
        rw [e, Nat.zero_add] at hnext
        have digs : ∀ k f S2 l6 l10 l11, f + k = tF T → Fr S S2 [14, 15, 16] → TlR S2 T → (∀ j, j < f → S2.1 16 j = nI (dgO T row j)) → K 224 [some (.ref (sA θ 0)), some (.int (nI w)), some (.int (nI sm)), some (.int (nI (tP T ^ tF T))), some (.int (nI row)), some (.int (nI (tP T ^ k))), l6, some (.int (nI sm)), some (.int (nI 1)), some (.int (nI f)), l10, l11] [] S2 := by
          intro k
          induction k with
          | zero =>
            intro f S2 l6 l10 l11 hf hF2 hTl2 hd
            have e : f = tF T := by omega
            subst e
            refine q_iload hC dX10_bestOfOne_224 ?_
            refine q_aload_n hC dX10_bestOfOne_226 ?_
            refine q_getI hC (by first | assumption | rfl) flX10_75 dX10_bestOfOne_227 ?_
            rw [(mt S2 hF2).2.1]
            refine q_icmp_ge hC 265 dX10_bestOfOne_230 (by decide) (fun hb => ?_) (fun hz => absurd hz (fun z => z (nI_le (Nat.le_refl _) (by omega))))
            refine q_inc1_4 hC dX10_bestOfOne_265 ?_
            refine q_goto hC 37 dX10_bestOfOne_268 (by decide) ?_
            have := ih (row + 1) S2 (some (.int (nI (tP T ^ 0)))) l6 (some (.int (nI sm))) (some (.int (nI 1))) (some (.int (nI (tF T)))) l10 l11 (by omega) hF2 hTl2
            rw [hnext] at this
            have h2 := this (fun _ => hd)
            rw [orN_lt (show sm < 100000 by omega)] at h2
            exact h2
          | succ k ihd =>
            intro f S2 l6 l10 l11 hf hF2 hTl2 hd
            have hf4 : f < 4 := by omega
            have hP0 : 0 < tP T := by
              rcases Nat.eq_zero_or_pos (tP T) with z | z
              · rw [z, Nat.zero_pow (by omega)] at hr; omega
              · exact z
            have hk1 := hpw (k + 1) (by omega)
            have hk0 := hpw k (by omega)
            have hkp : 0 < tP T ^ k := Nat.pow_pos hP0
            have hT2 := mt S2 hF2
            have ed : tP T ^ (k + 1) / tP T = tP T ^ k := by rw [Nat.pow_succ]; exact Nat.mul_div_cancel _ hP0
            have hrb : row / tP T ^ k ≤ row := Nat.div_le_self _ _
            refine q_iload hC dX10_bestOfOne_224 ?_
            refine q_aload_n hC dX10_bestOfOne_226 ?_
            refine q_getI hC (by first | assumption | rfl) flX10_75 dX10_bestOfOne_227 ?_
            rw [hT2.2.1]
            refine q_icmp_ge hC 265 dX10_bestOfOne_230 (by decide) (fun hz => absurd hz (fun z => by have := (nI_leI (by omega) (by omega)).mp z; omega)) (fun hb => ?_)
            refine q_iload hC dX10_bestOfOne_233 ?_
            refine q_aload_n hC dX10_bestOfOne_235 ?_
            refine q_getI hC (by first | assumption | rfl) flX10_67 dX10_bestOfOne_236 ?_
            rw [hT2.1]
            refine q_idiv hC dX10_bestOfOne_239 (nI_ne0 hP0 (by omega)) ?_
            rw [pk_div (by omega) hP0 (by omega), ed]
            refine q_istore_5 hC dX10_bestOfOne_240 ?_
            refine q_aload_n hC dX10_bestOfOne_242 ?_
            refine q_getR hC (by first | assumption | rfl) flX10_55 dX10_bestOfOne_243 ?_
            refine q_iload hC dX10_bestOfOne_246 ?_
            refine q_iload hC dX10_bestOfOne_248 ?_
            refine q_iload hC dX10_bestOfOne_250 ?_
            refine q_idiv hC dX10_bestOfOne_252 (nI_ne0 hkp (by omega)) ?_
            rw [pk_div (by omega) hkp (by omega)]
            refine q_aload_n hC dX10_bestOfOne_253 ?_
            refine q_getI hC (by first | assumption | rfl) flX10_67 dX10_bestOfOne_254 ?_
            rw [hT2.1]
            refine q_irem hC dX10_bestOfOne_257 (nI_ne0 hP0 (by omega)) ?_
            rw [pk_rem (by omega) hP0 (by omega)]
            refine q_iastn hC (by first | assumption | rfl) (by first | assumption | omega) dX10_bestOfOne_258 ?_
            refine q_inc1_9 hC dX10_bestOfOne_259 ?_
            refine q_goto hC 224 dX10_bestOfOne_262 (by decide) ?_
            refine ihd (f + 1) _ _ _ _ (by omega) (hF2.trans (Fr.u1.mono (by decide))) (fun g hg B hB => by rw [up_oc (by decide)]; exact hTl2 g hg B hB) (fun j hj => ?_)
            by_cases e : j = f
            · subst e
              rw [up_s]
              congr 1
              unfold dgO
              rw [show tF T - 1 - j = k by omega]
            · rw [up_of e]; exact hd j (by omega)
        refine q_iload hC dX10_bestOfOne_215 ?_
        refine q_istore_2 hC dX10_bestOfOne_217 ?_
        refine q_iload_n hC dX10_bestOfOne_218 ?_
        refine q_istore_5 hC dX10_bestOfOne_219 ?_
        refine q_iconst (v := nI 0) hC dX10_bestOfOne_221 (by decide) ?_
        refine q_istore_9 hC dX10_bestOfOne_222 ?_
        exact digs (tF T) 0 S1 _ _ _ (by omega) hF hTl (fun j hj => by omega)
      -- the families of the row
      have fams : ∀ k f tk sm l10 l11, f + k = tF T → tk < 256 → sm ≤ 21645 * f → WW T w (tF T) 0 (stm N) 0 row = WW T w k f (stm N ||| tk) sm (row % tP T ^ k) → K 58 [some (.ref (sA θ 0)), some (.int (nI w)), some (.int (orN m.1)), some (.int (nI (tP T ^ tF T))), some (.int (nI row)), some (.int (nI (tP T ^ k))), some (.int (nI tk)), some (.int (nI sm)), some (.int (nI 1)), some (.int (nI f)), l10, l11] [] S1 := by
        intro k
        induction k with
        | zero =>
          intro f tk sm l10 l11 hf htk hsm hW
          have e : f = tF T := by omega
          subst e
          have hW2 : WW T w (tF T) 0 (stm N) 0 row = sm := hW
          refine q_iload hC dX10_bestOfOne_58 ?_
          refine q_aload_n hC dX10_bestOfOne_60 ?_
          refine q_getI hC (by first | assumption | rfl) flX10_75 dX10_bestOfOne_61 ?_
          rw [hT1.2.1]
          refine q_icmp_ge hC 195 dX10_bestOfOne_64 (by decide) (fun hb => ?_) (fun hz => absurd hz (fun z => z (nI_le (Nat.le_refl _) (by omega))))
          refine q_iload hC dX10_bestOfOne_195 ?_
          refine q_if_eq hC 265 dX10_bestOfOne_197 (by decide) (fun hz => absurd hz (by decide)) (fun hb => ?_)
          by_cases hm : m.1 < 100000
          · by_cases hlt : sm < m.1
            · rw [orN_lt hm]
              refine q_iload_n hC dX10_bestOfOne_200 ?_
              refine q_bipush (v := (-9)) hC dX10_bestOfOne_201 (by decide) ?_
              refine q_icmp_eq hC 215 dX10_bestOfOne_203 (by decide) (fun hz => absurd hz (nI_n9 (by omega))) (fun hb => ?_)
              refine q_iload hC dX10_bestOfOne_206 ?_
              refine q_iload_n hC dX10_bestOfOne_208 ?_
              refine q_icmp_lt hC 215 dX10_bestOfOne_209 (by decide) (fun hb => ?_) (fun hz => absurd hz (fun z => z (nI_lt hlt (by omega))))
              rw [← orN_lt hm]
              exact take _ _ sm _ _ _ hW2 hlt
            · rw [orN_lt hm]
              refine q_iload_n hC dX10_bestOfOne_200 ?_
              refine q_bipush (v := (-9)) hC dX10_bestOfOne_201 (by decide) ?_
              refine q_icmp_eq hC 215 dX10_bestOfOne_203 (by decide) (fun hz => absurd hz (nI_n9 (by omega))) (fun hb => ?_)
              refine q_iload hC dX10_bestOfOne_206 ?_
              refine q_iload_n hC dX10_bestOfOne_208 ?_
              refine q_icmp_lt hC 215 dX10_bestOfOne_209 (by decide) (fun hz => absurd hz (fun z => hlt ((nI_ltI (by omega) (by omega)).mp z))) (fun hb => ?_)
              refine q_goto hC 265 dX10_bestOfOne_212 (by decide) ?_
              rw [← orN_lt hm]
              exact skip _ _ _ _ _ _ _ (by omega)
          · rw [orN_ge hm]
            refine q_iload_n hC dX10_bestOfOne_200 ?_
            refine q_bipush (v := (-9)) hC dX10_bestOfOne_201 (by decide) ?_
            refine q_icmp_eq hC 215 dX10_bestOfOne_203 (by decide) (fun hb => ?_) (fun hz => absurd hz (by first | decide | exact (show ¬ nI 1 = 0 by decide)))
            rw [← orN_ge hm]
            exact take _ _ sm _ _ _ hW2 (by omega)
        | succ k ihf =>
          intro f tk sm l10 l11 hf htk hsm hW
          have hf4 : f < 4 := by omega
          have hP0 : 0 < tP T := by
            rcases Nat.eq_zero_or_pos (tP T) with z | z
            · rw [z, Nat.zero_pow (by omega)] at hr; omega
            · exact z
          have hk1 := hpw (k + 1) (by omega)
          have hk0 := hpw k (by omega)
          have hkp : 0 < tP T ^ k := Nat.pow_pos hP0
          have ed : tP T ^ (k + 1) / tP T = tP T ^ k := by rw [Nat.pow_succ]; exact Nat.mul_div_cancel _ hP0
          have hrb : row / tP T ^ k ≤ row := Nat.div_le_self _ _
          have hpp : row / tP T ^ k % tP T < tP T := Nat.mod_lt _ hP0
          have e1 : row % tP T ^ (k + 1) / tP T ^ k = row / tP T ^ k % tP T := by rw [Nat.pow_succ]; exact Nat.mod_mul_right_div_self _ _ _
          have e2 : row % tP T ^ (k + 1) % tP T ^ k = row % tP T ^ k := by rw [Nat.pow_succ]; exact Nat.mod_mul_right_mod _ _ _
          have hW2 : WW T w (tF T) 0 (stm N) 0 row = WW T w k (f + 1) (stm N ||| tk ||| 2 ^ (row / tP T ^ k % tP T)) (if (stm N ||| tk) / 2 ^ (row / tP T ^ k % tP T) % 2 = 0 then wW T w sm f (row / tP T ^ k % tP T) else 100000) (row % tP T ^ k) := by
            rw [hW]
            simp only [WW]
            rw [e1, e2]
          refine q_iload hC dX10_bestOfOne_58 ?_
          refine q_aload_n hC dX10_bestOfOne_60 ?_
          refine q_getI hC (by first | assumption | rfl) flX10_75 dX10_bestOfOne_61 ?_
          rw [hT1.2.1]
          refine q_icmp_ge hC 195 dX10_bestOfOne_64 (by decide) (fun hz => absurd hz (fun z => by have := (nI_leI (by omega) (by omega)).mp z; omega)) (fun hb => ?_)
          refine q_iload hC dX10_bestOfOne_67 ?_
          refine q_if_eq hC 195 dX10_bestOfOne_69 (by decide) (fun hz => absurd hz (by decide)) (fun hb => ?_)
          refine q_iload hC dX10_bestOfOne_72 ?_
          refine q_aload_n hC dX10_bestOfOne_74 ?_
          refine q_getI hC (by first | assumption | rfl) flX10_67 dX10_bestOfOne_75 ?_
          rw [hT1.1]
          refine q_idiv hC dX10_bestOfOne_78 (nI_ne0 hP0 (by omega)) ?_
          rw [pk_div (by omega) hP0 (by omega), ed]
          refine q_istore_5 hC dX10_bestOfOne_79 ?_
          refine q_iload hC dX10_bestOfOne_81 ?_
          refine q_iload hC dX10_bestOfOne_83 ?_
          refine q_idiv hC dX10_bestOfOne_85 (nI_ne0 hkp (by omega)) ?_
          rw [pk_div (by omega) hkp (by omega)]
          refine q_aload_n hC dX10_bestOfOne_86 ?_
          refine q_getI hC (by first | assumption | rfl) flX10_67 dX10_bestOfOne_87 ?_
          rw [hT1.1]
          refine q_irem hC dX10_bestOfOne_90 (nI_ne0 hP0 (by omega)) ?_
          rw [pk_rem (by omega) hP0 (by omega)]
          generalize row / tP T ^ k % tP T = p at hpp hW2
          have hp8 : p < 8 := by omega
          have h2p : 2 ^ p < 2 ^ 8 := Nat.pow_lt_pow_right (by omega) hp8
          have h2P : 2 ^ p < 2 ^ tP T := Nat.pow_lt_pow_right (by omega) hpp
          have htk2 : tk / 2 ^ p % 2 < 2 := Nat.mod_lt _ (by omega)
          have hob := or_bit (stm N) tk p
          rw [bitS N hp8] at hob
          have tnf : S1.1 7 f = nI (tN T f) := (hT1.2.2.2 f (by omega)).2.2
          refine q_istore_10 hC dX10_bestOfOne_91 ?_
          refine q_aload_n hC dX10_bestOfOne_93 ?_
          refine q_getR hC (by first | assumption | rfl) flX10_52 dX10_bestOfOne_94 ?_
          refine q_sipush (v := nI 256) hC dX10_bestOfOne_97 (by decide) ?_
          refine q_iload hC dX10_bestOfOne_100 ?_
          refine q_imul hC dX10_bestOfOne_102 ?_
          rw [pk_mul]
          refine q_iconst (v := nI 1) hC dX10_bestOfOne_103 (by decide) ?_
          refine q_iload hC dX10_bestOfOne_104 ?_
          refine q_ishl hC dX10_bestOfOne_106 ?_
          rw [sh1 (by omega)]
          refine q_iadd hC dX10_bestOfOne_107 ?_
          rw [nI_add]
          refine q_ialdn hC (by first | assumption | rfl) (by first | assumption | omega) dX10_bestOfOne_108 ?_
          rw [hTl f (by omega) _ h2P]
          -- it is out
          have out : ∀ (v5 v6 v7 : Int32) l10 l11, 100000 ≤ WW T w (tF T) 0 (stm N) 0 row → K 58 [some (.ref (sA θ 0)), some (.int (nI w)), some (.int (orN m.1)), some (.int (nI (tP T ^ tF T))), some (.int (nI row)), some (.int (v5)), some (.int (v6)), some (.int (v7)), some (.int (nI 0)), some (.int (nI (f + 1))), l10, l11] [] S1 := by
            intro v5 v6 v7 l10 l11 hge
            refine q_iload hC dX10_bestOfOne_58 ?_
            refine q_aload_n hC dX10_bestOfOne_60 ?_
            refine q_getI hC (by first | assumption | rfl) flX10_75 dX10_bestOfOne_61 ?_
            rw [hT1.2.1]
            refine q_icmp_ge hC 195 dX10_bestOfOne_64 (by decide) (fun hc => ?_) (fun hc => ?_)
            · refine q_iload hC dX10_bestOfOne_195 ?_
              refine q_if_eq hC 265 dX10_bestOfOne_197 (by decide) (fun hb => ?_) (fun hz => absurd hz (by first | decide | exact (show ¬ nI 1 = 0 by decide)))
              exact skip _ _ _ _ _ _ _ (by omega)
            · refine q_iload hC dX10_bestOfOne_67 ?_
              refine q_if_eq hC 195 dX10_bestOfOne_69 (by decide) (fun hb => ?_) (fun hz => absurd hz (by first | decide | exact (show ¬ nI 1 = 0 by decide)))
              refine q_iload hC dX10_bestOfOne_195 ?_
              refine q_if_eq hC 265 dX10_bestOfOne_197 (by decide) (fun hb => ?_) (fun hz => absurd hz (by first | decide | exact (show ¬ nI 1 = 0 by decide)))
              exact skip _ _ _ _ _ _ _ (by omega)
          have tail : ∀ z, z ≤ 1 → (z = 0 → 100000 ≤ WW T w (tF T) 0 (stm N) 0 row) → (z = 1 → (stm N ||| tk) / 2 ^ p % 2 = 0 ∧ yd T f (2 ^ p) < 100000) → K 142 [some (.ref (sA θ 0)), some (.int (nI w)), some (.int (orN m.1)), some (.int (nI (tP T ^ tF T))), some (.int (nI row)), some (.int (nI (tP T ^ k))), some (.int (nI tk)), some (.int (nI sm)), some (.int (nI 1)), some (.int (nI f)), some (.int (nI p)), some (.int (orN (yd T f (2 ^ p))))] [.int (nI z)] S1 := by
            intro z hz hz0 hz1
            refine q_istore_8 hC dX10_bestOfOne_142 ?_
            refine q_iload hC dX10_bestOfOne_144 ?_
            refine q_iconst (v := nI 1) hC dX10_bestOfOne_146 (by decide) ?_
            refine q_iload hC dX10_bestOfOne_147 ?_
            refine q_ishl hC dX10_bestOfOne_149 ?_
            rw [sh1 (by omega)]
            refine q_ior hC dX10_bestOfOne_150 ?_
            rw [or_n]
            have htk' := or_lt256 htk (show 2 ^ p < 256 by omega)
            have hoo : stm N ||| tk ||| 2 ^ p = stm N ||| (tk ||| 2 ^ p) := Nat.or_assoc _ _ _
            rcases (show z = 0 ∨ z = 1 by omega) with rfl | rfl
            · have hge := hz0 rfl
              rcases (show w = 0 ∨ w = 1 by omega) with rfl | rfl
              · refine q_istore_6 hC dX10_bestOfOne_151 ?_
                refine q_iload_n hC dX10_bestOfOne_153 ?_
                refine q_if_ne hC 173 dX10_bestOfOne_154 (by decide) (fun hz => absurd hz (by first | decide | exact (show ¬ nI 1 = 0 by decide))) (fun hb => ?_)
                refine q_iload hC dX10_bestOfOne_157 ?_
                refine q_iload hC dX10_bestOfOne_159 ?_
                refine q_aload_n hC dX10_bestOfOne_161 ?_
                refine q_getR hC (by first | assumption | rfl) flX10_28 dX10_bestOfOne_162 ?_
                refine q_iload hC dX10_bestOfOne_165 ?_
                refine q_ialdn hC (by first | assumption | rfl) (by first | assumption | omega) dX10_bestOfOne_167 ?_
                rw [tnf]
                refine q_imul hC dX10_bestOfOne_168 ?_
                refine q_iadd hC dX10_bestOfOne_169 ?_
                refine q_goto hC 187 dX10_bestOfOne_170 (by decide) ?_
                refine q_istore_7 hC dX10_bestOfOne_187 ?_
                refine q_inc1_9 hC dX10_bestOfOne_189 ?_
                refine q_goto hC 58 dX10_bestOfOne_192 (by decide) ?_
                exact out _ _ _ _ _ hge
              · refine q_istore_6 hC dX10_bestOfOne_151 ?_
                refine q_iload_n hC dX10_bestOfOne_153 ?_
                refine q_if_ne hC 173 dX10_bestOfOne_154 (by decide) (fun hb => ?_) (fun hz => absurd hz (by first | decide | exact (show ¬ nI 1 = 0 by decide)))
                refine q_iload hC dX10_bestOfOne_173 ?_
                refine q_iload hC dX10_bestOfOne_175 ?_
                refine q_icmp_le hC 185 dX10_bestOfOne_177 (by decide) (fun hc => ?_) (fun hc => ?_)
                · refine q_iload hC dX10_bestOfOne_185 ?_
                  refine q_istore_7 hC dX10_bestOfOne_187 ?_
                  refine q_inc1_9 hC dX10_bestOfOne_189 ?_
                  refine q_goto hC 58 dX10_bestOfOne_192 (by decide) ?_
                  exact out _ _ _ _ _ hge
                · refine q_iload hC dX10_bestOfOne_180 ?_
                  refine q_goto hC 187 dX10_bestOfOne_182 (by decide) ?_
                  refine q_istore_7 hC dX10_bestOfOne_187 ?_
                  refine q_inc1_9 hC dX10_bestOfOne_189 ?_
                  refine q_goto hC 58 dX10_bestOfOne_192 (by decide) ?_
                  exact out _ _ _ _ _ hge
            · obtain ⟨hb0, hy⟩ := hz1 rfl
              have hyb := yd_bd hok f (2 ^ p)
              rw [if_pos hb0, hoo] at hW2
              have hfin := wW_fin hok (w := w) (show f < tF T by omega) hy hsm
              rw [orN_lt hy]
              rcases (show w = 0 ∨ w = 1 by omega) with rfl | rfl
              · refine q_istore_6 hC dX10_bestOfOne_151 ?_
                refine q_iload_n hC dX10_bestOfOne_153 ?_
                refine q_if_ne hC 173 dX10_bestOfOne_154 (by decide) (fun hz => absurd hz (by first | decide | exact (show ¬ nI 1 = 0 by decide))) (fun hb => ?_)
                refine q_iload hC dX10_bestOfOne_157 ?_
                refine q_iload hC dX10_bestOfOne_159 ?_
                refine q_aload_n hC dX10_bestOfOne_161 ?_
                refine q_getR hC (by first | assumption | rfl) flX10_28 dX10_bestOfOne_162 ?_
                refine q_iload hC dX10_bestOfOne_165 ?_
                refine q_ialdn hC (by first | assumption | rfl) (by first | assumption | omega) dX10_bestOfOne_167 ?_
                rw [tnf]
                refine q_imul hC dX10_bestOfOne_168 ?_
                rw [pk_mul]
                refine q_iadd hC dX10_bestOfOne_169 ?_
                rw [nI_add]
                refine q_goto hC 187 dX10_bestOfOne_170 (by decide) ?_
                refine q_istore_7 hC dX10_bestOfOne_187 ?_
                refine q_inc1_9 hC dX10_bestOfOne_189 ?_
                refine q_goto hC 58 dX10_bestOfOne_192 (by decide) ?_
                exact ihf (f + 1) _ _ _ _ (by omega) htk' hfin hW2
              · have ew : wW T 1 sm f p = if sm < yd T f (2 ^ p) then yd T f (2 ^ p) else sm := rfl
                refine q_istore_6 hC dX10_bestOfOne_151 ?_
                refine q_iload_n hC dX10_bestOfOne_153 ?_
                refine q_if_ne hC 173 dX10_bestOfOne_154 (by decide) (fun hb => ?_) (fun hz => absurd hz (by first | decide | exact (show ¬ nI 1 = 0 by decide)))
                refine q_iload hC dX10_bestOfOne_173 ?_
                refine q_iload hC dX10_bestOfOne_175 ?_
                refine q_icmp_le hC 185 dX10_bestOfOne_177 (by decide) (fun hc => ?_) (fun hc => ?_)
                · have : ¬ sm < yd T f (2 ^ p) := by have := (nI_leI (by omega) (by omega)).mp hc; omega
                  rw [if_neg this] at ew
                  rw [ew] at hW2 hfin
                  refine q_iload hC dX10_bestOfOne_185 ?_
                  refine q_istore_7 hC dX10_bestOfOne_187 ?_
                  refine q_inc1_9 hC dX10_bestOfOne_189 ?_
                  refine q_goto hC 58 dX10_bestOfOne_192 (by decide) ?_
                  exact ihf (f + 1) _ _ _ _ (by omega) htk' hfin hW2
                · have : sm < yd T f (2 ^ p) := by have : ¬ yd T f (2 ^ p) ≤ sm := fun z => hc (nI_le z (by omega)); omega
                  rw [if_pos this] at ew
                  rw [ew] at hW2 hfin
                  refine q_iload hC dX10_bestOfOne_180 ?_
                  refine q_goto hC 187 dX10_bestOfOne_182 (by decide) ?_
                  refine q_istore_7 hC dX10_bestOfOne_187 ?_
                  refine q_inc1_9 hC dX10_bestOfOne_189 ?_
                  refine q_goto hC 58 dX10_bestOfOne_192 (by decide) ?_
                  exact ihf (f + 1) _ _ _ _ (by omega) htk' hfin hW2
          refine q_istore_11 hC dX10_bestOfOne_109 ?_
          refine q_aload_n hC dX10_bestOfOne_111 ?_
          refine q_iload hC dX10_bestOfOne_112 ?_
          refine q_calliV1 hC (by first | assumption | rfl) cvX10_170 dX10_bestOfOne_114 (m_isStone θ _ p T N hok hNo hN1 hpp) (by decide) (fun r9 S9 hr9 => ?_)
          obtain ⟨rfl, hS9⟩ := hr9
          have hS9 := hS9.symm
          subst hS9
          by_cases h5 : nO N p = 5
          · rw [if_pos h5] at hob ⊢
            rw [if_pos (Or.inl rfl)] at hob
            rw [if_neg (by omega)] at hW2
            refine q_if_ne hC 141 dX10_bestOfOne_117 (by decide) (fun hb => ?_) (fun hz => absurd hz (by first | decide | exact (show ¬ nI 1 = 0 by decide)))
            refine q_iconst (v := nI 0) hC dX10_bestOfOne_141 (by decide) ?_
            exact tail 0 (by omega) (fun _ => by rw [hW2]; exact WW_ge T w k _ _ _ _ 100000 (Nat.le_refl _) (Nat.le_refl _)) (fun z => by omega)
          · rw [if_neg h5] at hob ⊢
            refine q_if_ne hC 141 dX10_bestOfOne_117 (by decide) (fun hz => absurd hz (by first | decide | exact (show ¬ nI 1 = 0 by decide))) (fun hb => ?_)
            refine q_iload hC dX10_bestOfOne_120 ?_
            refine q_iload hC dX10_bestOfOne_122 ?_
            refine q_ishr hC dX10_bestOfOne_124 ?_
            refine q_iconst (v := nI 1) hC dX10_bestOfOne_125 (by decide) ?_
            refine q_iand hC dX10_bestOfOne_126 ?_
            rw [bit_n (by omega) (by omega)]
            by_cases hb1 : tk / 2 ^ p % 2 = 1
            · rw [if_pos (Or.inr hb1)] at hob
              rw [if_neg (by omega)] at hW2
              rw [hb1]
              refine q_if_ne hC 141 dX10_bestOfOne_127 (by decide) (fun hb => ?_) (fun hz => absurd hz (by first | decide | exact (show ¬ nI 1 = 0 by decide)))
              refine q_iconst (v := nI 0) hC dX10_bestOfOne_141 (by decide) ?_
              exact tail 0 (by omega) (fun _ => by rw [hW2]; exact WW_ge T w k _ _ _ _ 100000 (Nat.le_refl _) (Nat.le_refl _)) (fun z => by omega)
            · rw [if_neg (fun z => z.elim (by decide) hb1)] at hob
              rw [show tk / 2 ^ p % 2 = 0 by omega]
              by_cases hy : yd T f (2 ^ p) < 100000
              · rw [orN_lt hy]
                refine q_if_ne hC 141 dX10_bestOfOne_127 (by decide) (fun hz => absurd hz (by decide)) (fun hb => ?_)
                refine q_iload hC dX10_bestOfOne_130 ?_
                refine q_bipush (v := (-9)) hC dX10_bestOfOne_132 (by decide) ?_
                refine q_icmp_eq hC 141 dX10_bestOfOne_134 (by decide) (fun hz => absurd hz (nI_n9 (by omega))) (fun hb => ?_)
                refine q_iconst (v := nI 1) hC dX10_bestOfOne_137 (by decide) ?_
                refine q_goto hC 142 dX10_bestOfOne_138 (by decide) ?_
                rw [← orN_lt hy]
                exact tail 1 (by omega) (fun z => by omega) (fun _ => ⟨hob, hy⟩)
              · rw [orN_ge hy]
                refine q_if_ne hC 141 dX10_bestOfOne_127 (by decide) (fun hz => absurd hz (by first | decide | exact (show ¬ nI 1 = 0 by decide))) (fun hb => ?_)
                refine q_iload hC dX10_bestOfOne_130 ?_
                refine q_bipush (v := (-9)) hC dX10_bestOfOne_132 (by decide) ?_
                refine q_icmp_eq hC 141 dX10_bestOfOne_134 (by decide) (fun hb => ?_) (fun hz => absurd hz (by first | decide | exact (show ¬ nI 1 = 0 by decide)))
                refine q_iconst (v := nI 0) hC dX10_bestOfOne_141 (by decide) ?_
                rw [← orN_ge hy]
                exact tail 0 (by omega) (fun _ => by rw [hW2, if_pos hob]; exact WW_ge T w k _ _ _ _ 100000 (wW_bad hok (by omega) hy) (Nat.le_refl _)) (fun z => by omega)
      refine q_iload hC dX10_bestOfOne_37 ?_
      refine q_iload_n hC dX10_bestOfOne_39 ?_
      refine q_icmp_ge hC 271 dX10_bestOfOne_40 (by decide) (fun hz => absurd hz (fun z => by have := (nI_leI (by omega) (by omega)).mp z; omega)) (fun hb => ?_)
      refine q_iload_n hC dX10_bestOfOne_43 ?_
      refine q_istore_5 hC dX10_bestOfOne_44 ?_
      refine q_iconst (v := nI 0) hC dX10_bestOfOne_46 (by decide) ?_
      refine q_istore_6 hC dX10_bestOfOne_47 ?_
      refine q_iconst (v := nI 0) hC dX10_bestOfOne_49 (by decide) ?_
      refine q_istore_7 hC dX10_bestOfOne_50 ?_
      refine q_iconst (v := nI 1) hC dX10_bestOfOne_52 (by decide) ?_
      refine q_istore_8 hC dX10_bestOfOne_53 ?_
      refine q_iconst (v := nI 0) hC dX10_bestOfOne_55 (by decide) ?_
      refine q_istore_9 hC dX10_bestOfOne_56 ?_
      exact fams (tF T) 0 0 0 _ _ (by omega) (by omega) (by omega) (by rw [Nat.or_zero, Nat.mod_eq_of_lt (show row < tP T ^ tF T by omega)])
  have pw : ∀ n f, f + n = tF T → K 12 [some (.ref (sA θ 0)), some (.int (nI w)), some (.int (-9)), some (.int (nI (tP T ^ f))), some (.int (nI f)), none, none, none, none, none, none, none] [] S0 := by
    intro n
    induction n with
    | zero =>
      intro f hf
      have e : f = tF T := by omega
      subst e
      refine q_iload hC dX10_bestOfOne_12 ?_
      refine q_aload_n hC dX10_bestOfOne_14 ?_
      refine q_getI hC (by first | assumption | rfl) flX10_75 dX10_bestOfOne_15 ?_
      rw [(mt S0 hF0').2.1]
      refine q_icmp_ge hC 34 dX10_bestOfOne_18 (by decide) (fun hb => ?_) (fun hz => absurd hz (fun z => z (nI_le (Nat.le_refl _) (by omega))))
      refine q_iconst (v := nI 0) hC dX10_bestOfOne_34 (by decide) ?_
      refine q_istore_4 hC dX10_bestOfOne_35 ?_
      exact rows (tP T ^ tF T) 0 S0 _ _ _ _ _ _ _ (by omega) hF0' hTl0 (fun z => absurd z (show ¬ 100000 < 100000 by decide))
    | succ n ih =>
      intro f hf
      refine q_iload hC dX10_bestOfOne_12 ?_
      refine q_aload_n hC dX10_bestOfOne_14 ?_
      refine q_getI hC (by first | assumption | rfl) flX10_75 dX10_bestOfOne_15 ?_
      rw [(mt S0 hF0').2.1]
      refine q_icmp_ge hC 34 dX10_bestOfOne_18 (by decide) (fun hz => absurd hz (fun z => by have := (nI_leI (by omega) (by omega)).mp z; omega)) (fun hb => ?_)
      refine q_iload_n hC dX10_bestOfOne_21 ?_
      refine q_aload_n hC dX10_bestOfOne_22 ?_
      refine q_getI hC (by first | assumption | rfl) flX10_67 dX10_bestOfOne_23 ?_
      rw [(mt S0 hF0').1]
      refine q_imul hC dX10_bestOfOne_26 ?_
      rw [pk_mul, ← Nat.pow_succ]
      refine q_istore_3 hC dX10_bestOfOne_27 ?_
      refine q_inc1_4 hC dX10_bestOfOne_28 ?_
      refine q_goto hC 12 dX10_bestOfOne_31 (by decide) ?_
      exact ih (f + 1) (by omega)
  refine q_bipush (v := (-9)) hC dX10_bestOfOne_4 (by decide) ?_
  refine q_istore_2 hC dX10_bestOfOne_6 ?_
  refine q_iconst (v := nI 1) hC dX10_bestOfOne_7 (by decide) ?_
  refine q_istore_3 hC dX10_bestOfOne_8 ?_
  refine q_iconst (v := nI 0) hC dX10_bestOfOne_9 (by decide) ?_
  refine q_istore_4 hC dX10_bestOfOne_10 ?_
  exact pw (tF T) 0 (by omega)
theorem in_m1 {x : Int32} {n : Nat} (hn : n ≤ 1000) : ((-1 : Int64) ≤ x.toInt64 ∧ x.toInt64 ≤ (nI n - nI 1).toInt64) ↔ (x = -1 ∨ (ixN x n).isSome = true) := by
  have e1 : (-1 : Int64).toInt = -1 := by decide
  have e2 : (-1 : Int32).toInt = -1 := by decide
  have e3 : x = -1 ↔ x.toInt = -1 := by rw [← Int32.toInt_inj, e2]
  rw [Int64.le_iff_toInt_le, Int64.le_iff_toInt_le, e1, Int32.toInt_toInt64, Int32.toInt_toInt64, pk_sub_toInt (by omega) (by omega), e3]
  unfold ixN
  constructor
  · intro h
    by_cases e : x.toInt = -1
    · exact Or.inl e
    · right; rw [if_pos (by omega)]; rfl
  · intro h
    rcases h with h | h
    · omega
    · split at h
      · omega
      · cases h
theorem m_one (θ : Site) (S : St) (L : Nat) (x : Nat → Nat) (T : Tn) (N : Nw) (im : Nat → Option Nw) (tr : Int64) (hA : AOk T N im) (hR : RM S L x T N im tr) (z f : Int32) : Cti yX10_one cX10_one 4 (some .int) 20 θ shM [.ref (sA θ 0), .int z, .int f] S (fun r S' => r = oVal T N z f ∧ RM S' L x T N im tr) := by
  obtain ⟨hok, hNo, hIm⟩ := hA
  have hR' := hR
  obtain ⟨hx, hT, hN, hI, htr⟩ := hR
  have h8 := hok.1
  have hF4 := hok.2.1
  refine Cti.mk (own := RX10) 1 [some (.ref (sA θ 0)), some (.int z), some (.int f), none] (fun K hC => ?_)
  have bad : oVal T N z f = -1 → K 28 [some (.ref (sA θ 0)), some (.int (z)), some (.int (f)), none] [] S := by
    intro e
    refine q_iconst (v := (-1)) hC dX10_one_28 (by decide) ?_
    refine q_iret hC dX10_one_29 ?_
    rw [e]
    exact ⟨rfl, hR'⟩
  refine q_iload_n hC dX10_one_0 ?_
  refine q_i2l hC dX10_one_1 ?_
  refine q_lconst (v := lN 0) hC dX10_one_2 (by decide) ?_
  refine q_lconst (v := lN 1) hC dX10_one_3 (by decide) ?_
  refine q_calliS3 hC csX10_71 dX10_one_4 (m_inN θ _ z 1 2 rfl (by decide)) (by decide) (fun r S1 hr => ?_)
  obtain ⟨rfl, hS⟩ := hr
  have hS := hS.symm
  subst hS
  cases hw : ixN z 2 with
  | none =>
    refine q_if_eq hC 28 dX10_one_7 (by decide) (fun hb => ?_) (fun hz => absurd hz (by first | decide | exact (show ¬ nI 1 = 0 by decide)))
    exact bad (by simp [oVal, hw])
  | some k =>
    obtain ⟨hk, rfl⟩ := ixN_some (by decide) hw
    refine q_if_eq hC 28 dX10_one_7 (by decide) (fun hz => absurd hz (by first | decide | exact (show ¬ nI 1 = 0 by decide))) (fun hb => ?_)
    refine q_iload_n hC dX10_one_10 ?_
    refine q_i2l hC dX10_one_11 ?_
    refine q_ldc2 hC klX10_109 dX10_one_12 ?_
    refine q_aload_n hC dX10_one_15 ?_
    refine q_getI hC (by first | assumption | rfl) flX10_75 dX10_one_16 ?_
    rw [hT.2.1]
    refine q_iconst (v := nI 1) hC dX10_one_19 (by decide) ?_
    refine q_isub hC dX10_one_20 ?_
    refine q_i2l hC dX10_one_21 ?_
    refine q_calliS3 hC csX10_71 dX10_one_22 (m_in θ _ _ _ _) (by decide) (fun r S1 hr => ?_)
    obtain ⟨rfl, hS⟩ := hr
    have hS := hS.symm
    subst hS
    have hio := in_m1 (x := f) (n := tF T) (by omega)
    by_cases hf : f = -1 ∨ (ixN f (tF T)).isSome = true
    · rw [if_pos (hio.mpr hf)]
      have esp : oVal T N (nI k) f = if (mO T k (stm N)).1 < 100000 then (if f < 0 then nI (mO T k (stm N)).1 else nI (dgO T (mO T k (stm N)).2 f.toNatClampNeg)) else -9 := by
        simp only [oVal, hw]
        rw [if_pos hf]
      refine q_if_ne hC 30 dX10_one_25 (by decide) (fun hb => ?_) (fun hz => absurd hz (by first | decide | exact (show ¬ nI 1 = 0 by decide)))
      refine q_aload_n hC dX10_one_30 ?_
      refine q_iload_n hC dX10_one_31 ?_
      refine q_calliV1 hC (by first | assumption | rfl) cvX10_203 dX10_one_32 (m_bestOfOne θ _ k T N hok hNo hT (fun p hp => (hN.1 p hp).1) hk) (by decide) (fun r1 S1 hr1 => ?_)
      obtain ⟨rfl, hF1, hB⟩ := hr1
      have hRR := hR'.fr (hF1.mono (M := [14, 15, 16, 17, 18, 19]) (by decide))
      by_cases hm : (mO T k (stm N)).1 < 100000
      · rw [if_pos hm] at esp
        rw [orN_lt hm]
        refine q_istore_3 hC dX10_one_35 ?_
        refine q_iload_n hC dX10_one_36 ?_
        refine q_bipush (v := (-9)) hC dX10_one_37 (by decide) ?_
        refine q_icmp_eq hC 46 dX10_one_39 (by decide) (fun hz => absurd hz (nI_n9 (by omega))) (fun hb => ?_)
        refine q_iload_n hC dX10_one_42 ?_
        refine q_if_ge hC 50 dX10_one_43 (by decide) (fun hc => ?_) (fun hc => ?_)
        · have h0 : ¬ f < 0 := Int32.not_lt.mpr hc
          rw [if_neg h0] at esp
          have hlt := neg1_or (by omega) hf h0
          obtain ⟨j, hj, rfl⟩ := nI_of h0
          have hcl : (nI j).toNatClampNeg = j := by
            have := nI_toInt hj
            show (nI j).toInt.toNat = j
            omega
          rw [hcl] at hlt esp
          have hj8 : j < 8 := by omega
          refine q_aload_n hC dX10_one_50 ?_
          refine q_getR hC (by first | assumption | rfl) flX10_55 dX10_one_51 ?_
          refine q_iload_n hC dX10_one_54 ?_
          refine q_ialdn hC (by first | assumption | rfl) (by first | assumption | omega) dX10_one_55 ?_
          rw [hB hm j hlt]
          refine q_iret hC dX10_one_56 ?_
          exact ⟨esp.symm, hRR⟩
        · rw [if_pos (Int32.not_le.mp hc)] at esp
          refine q_iload_n hC dX10_one_46 ?_
          refine q_goto hC 56 dX10_one_47 (by decide) ?_
          refine q_iret hC dX10_one_56 ?_
          exact ⟨esp.symm, hRR⟩
      · rw [if_neg hm] at esp
        rw [orN_ge hm]
        refine q_istore_3 hC dX10_one_35 ?_
        refine q_iload_n hC dX10_one_36 ?_
        refine q_bipush (v := (-9)) hC dX10_one_37 (by decide) ?_
        refine q_icmp_eq hC 46 dX10_one_39 (by decide) (fun hb => ?_) (fun hz => absurd hz (by first | decide | exact (show ¬ nI 1 = 0 by decide)))
        refine q_iload_n hC dX10_one_46 ?_
        refine q_goto hC 56 dX10_one_47 (by decide) ?_
        refine q_iret hC dX10_one_56 ?_
        exact ⟨esp.symm, hRR⟩
    · rw [if_neg (fun z => hf (hio.mp z))]
      refine q_if_ne hC 30 dX10_one_25 (by decide) (fun hz => absurd hz (by first | decide | exact (show ¬ nI 1 = 0 by decide))) (fun hb => ?_)
      exact bad (by simp only [oVal, hw]; rw [if_neg hf])
