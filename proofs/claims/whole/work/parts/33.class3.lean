theorem RX.now {S S' : St} {L : Nat} {x : Nat → Nat} {T : Tn} {N N' : Nw} {im : Nat → Option Nw} {tr : Int64} (h : RX S L x T N im tr) (hF : Fr S S' [18, 19, 20, 21]) (hN : NwR S' 18 N') : RX S' L x T N' im tr := by
  obtain ⟨h1, h2, h3, h4, h5, h6, h7⟩ := h
  exact ⟨h1.go (hF.c 1) (hF.c 2), h2.fr4 hF rfl, hN, h4.go (fun a g1 g2 => hF.1 a (by simp only [List.mem_cons, List.not_mem_nil, or_false, not_or]; omega)), fun f hf B hB => by rw [hF.c 37]; exact h5 f hf B hB, h6.go (hF.c 39) (hF.c 40) (hF.c 41), by rw [hF.2]; exact h7⟩
theorem RX.tr {S : St} {L : Nat} {x : Nat → Nat} {T : Tn} {N : Nw} {im : Nat → Option Nw} {tr v : Int64} (h : RX S L x T N im tr) : RX (upL S 0 13 v) L x T N im v := by
  obtain ⟨h1, h2, h3, h4, h5, h6, h7⟩ := h
  exact ⟨h1, h2, h3, h4, h5, h6, upL_s⟩
theorem NwR.own {S : St} {b p f : Nat} {N : Nw} (h : NwR S b N) (hp : p < 8) (h5 : nO N p ≠ 5) (hf : f ≠ 5) : NwR (up S (b + 1) p (clO f)) b (nPav N p f) := by
  have hb : stm N / 2 ^ p % 2 = 0 := by unfold stm; rw [msk_bit, if_neg (fun z => h5 (by simpa using z.2))]
  obtain ⟨h1, h2, h3, h4, h6⟩ := h
  refine ⟨fun q hq => ?_, fun q hq => ?_, ?_, ?_, fun f hf => ?_⟩
  · show _ = clO (upN (nO N) p f q)
    by_cases e : q = p
    · subst e; rw [up_s, upN_s]
    · rw [up_of e, upN_o e]; exact h1 q hq
  · rw [up_oc (by omega)]; exact h2 q hq
  · rw [up_oc (by omega), stm_pav N hp hf, hb, Nat.zero_mul, Nat.sub_zero]; exact h3
  · rw [up_oc (by omega)]; exact h4
  · rw [up_oc (by omega)]; exact h6 f hf
theorem NwR.nost {S : St} {b p : Nat} {N : Nw} (h : NwR S b N) (hp : p < 8) : NwR (up S b 2 (nI (stm N - stm N / 2 ^ p % 2 * 2 ^ p))) b (if nO N p = 5 then nPav N p 4 else N) := by
  obtain ⟨h1, h2, h3, h4, h6⟩ := h
  by_cases h5 : nO N p = 5
  · rw [if_pos h5]
    refine ⟨fun q hq => ?_, fun q hq => ?_, ?_, ?_, fun f hf => ?_⟩
    · rw [up_oc (by omega), h1 q hq]
      show _ = clO (upN (nO N) p 4 q)
      by_cases e : q = p
      · subst e; rw [upN_s, h5]; rfl
      · rw [upN_o e]
    · rw [up_oc (by omega)]; exact h2 q hq
    · rw [up_s, stm_pav N hp (by omega)]
    · rw [up_of (by omega)]; exact h4
    · rw [up_oc (by omega)]; exact h6 f hf
  · rw [if_neg h5]
    have hb : stm N / 2 ^ p % 2 = 0 := by unfold stm; rw [msk_bit, if_neg (fun z => h5 (by simpa using z.2))]
    refine ⟨fun q hq => ?_, fun q hq => ?_, ?_, ?_, fun f hf => ?_⟩
    · rw [up_oc (by omega)]; exact h1 q hq
    · rw [up_oc (by omega)]; exact h2 q hq
    · rw [up_s, hb, Nat.zero_mul, Nat.sub_zero]
    · rw [up_of (by omega)]; exact h4
    · rw [up_oc (by omega)]; exact h6 f hf
theorem jC_le {T : Tn} (hT : TnOk T) (N : Nw) : ∀ n, n ≤ tF T → jC T N n ≤ 900000 * n
  | 0, _ => Nat.le_refl _
  | n + 1, hn => by
    have ih := jC_le hT N n (by omega)
    have h1 := yN_le hT (show n < tF T by omega) (owm N n)
    simp only [jC]; omega
theorem jL_le {T : Tn} (hT : TnOk T) (N : Nw) : ∀ n, jL T N n ≤ 100000
  | 0 => Nat.zero_le _
  | n + 1 => by
    have ih := jL_le hT N n
    have h1 := yd_bd hT n (owm N n)
    simp only [jL]; split <;> omega
theorem bitS (N : Nw) {q : Nat} (hq : q < 8) : stm N / 2 ^ q % 2 = if nO N q = 5 then 1 else 0 := by unfold stm; rw [msk_bit]; simp [hq]
theorem and_lt256 {a b : Nat} (h : a < 256) : a &&& b < 256 := Nat.lt_of_le_of_lt Nat.and_le_left h
theorem alS_none {T : Tn} {m n : Nat} (h : alS T m n = none) : ∀ k, alS T m (n + k) = none
  | 0 => h
  | k + 1 => by
    show (match alS T m (n + k) with | none => none | some _ => _) = none
    rw [alS_none h k]
theorem alS_s {T : Tn} {m n k : Nat} (h : alS T m n = some k) : alS T m (n + 1) = if 100000 ≤ yd T n 0 then none else some (k ||| msk (fun p => decide (100000 ≤ yd T n (2 ^ p))) (tP T)) := by
  show (match alS T m n with | none => none | some k => _) = _
  rw [h]
theorem x_pave (θ : Site) (S : St) (L : Nat) (x : Nat → Nat) (T : Tn) (N : Nw) (im : Nat → Option Nw) (tr : Int64) (hA : AOk T N im) (hR : RX S L x T N im tr) (p : Int32) (f : Int32) : Cti yX9_pave cX9_pave 4 (some .int) 20 θ shX [.ref (sA θ 0), .int p, .int f] S (fun r S' => r = (sPave T N p f).1 ∧ RX S' L x T (sPave T N p f).2 im tr) := by
  obtain ⟨hok, hNo, hIm⟩ := hA
  have hR' := hR
  obtain ⟨hx, hT, hN, hI, hKn, hCh, htr⟩ := hR
  have h8 := hok.1
  have hF4 := hok.2.1
  refine Cti.mk (own := RX9) 1 [some (.ref (sA θ 0)), some (.int p), some (.int f), none] (fun K hC => ?_)
  have bad : sPave T N p f = (-1, N) → K 16 [some (.ref (sA θ 0)), some (.int p), some (.int f), none] [] S := by
    intro e
    refine q_iconst (v := (-1)) hC dX9_pave_16 (by decide) ?_
    refine q_iret hC dX9_pave_17 ?_
    rw [e]
    exact ⟨rfl, hR'⟩
  refine q_aload_n hC dX9_pave_0 ?_
  refine q_iload_n hC dX9_pave_1 ?_
  refine q_calliV1 hC (by first | assumption | rfl) cvX9_118 dX9_pave_2 (c_isPiece θ _ p T hok hT) (by decide) (fun r S1 hr => ?_)
  obtain ⟨rfl, rfl⟩ := hr
  cases hp : ixN p (tP T) with
  | none =>
    refine q_if_eq hC 16 dX9_pave_5 (by decide) (fun hb => ?_) (fun hb => ?_)
    · exact bad (by simp [sPave, hp])
    · exact absurd rfl hb
  | some q =>
    obtain ⟨hq, rfl⟩ := ixN_some (by omega) hp
    refine q_if_eq hC 16 dX9_pave_5 (by decide) (fun hb => ?_) (fun hb => ?_)
    · exact absurd hb (show ¬ nI 1 = 0 by decide)
    · refine q_aload_n hC dX9_pave_8 ?_
      refine q_iload_n hC dX9_pave_9 ?_
      refine q_calliV1 hC (by first | assumption | rfl) cvX9_141 dX9_pave_10 (c_isFamily θ _ f T hok hT) (by decide) (fun r S1 hr => ?_)
      obtain ⟨rfl, rfl⟩ := hr
      cases hf : ixN f (tF T) with
      | none =>
        refine q_if_ne hC 18 dX9_pave_13 (by decide) (fun hb2 => ?_) (fun hb2 => ?_)
        · exact absurd rfl hb2
        · exact bad (by simp [sPave, hf])
      | some g =>
        obtain ⟨hg, rfl⟩ := ixN_some (by omega) hf
        refine q_if_ne hC 18 dX9_pave_13 (by decide) (fun hb2 => ?_) (fun hb2 => ?_)
        · refine q_aload_n hC dX9_pave_18 ?_
          refine q_getR hC (by first | assumption | rfl) flX9_29 dX9_pave_19 ?_
          refine q_iload_n hC dX9_pave_22 ?_
          refine q_calliV1 hC (by first | assumption | rfl) cvX9_162 dX9_pave_23 (c_isStone θ _ 18 q _ nowAt18 (by omega) (stm_lt N) hN.2.2.1) (by decide) (fun r S1 hr => ?_)
          obtain ⟨rfl, rfl⟩ := hr
          rw [bitS N (show q < 8 by omega)]
          by_cases h5 : nO N q = 5
          · rw [if_pos h5]
            refine q_if_eq hC 32 dX9_pave_26 (by decide) (fun hb3 => ?_) (fun hb3 => ?_)
            · exact absurd hb3 (by decide)
            · refine q_bipush (v := (-2)) hC dX9_pave_29 (by decide) ?_
              refine q_iret hC dX9_pave_31 ?_
              exact ⟨by simp [sPave, hp, hf, h5], by simpa [sPave, hp, hf, h5] using hR'⟩
          · rw [if_neg h5]
            refine q_if_eq hC 32 dX9_pave_26 (by decide) (fun hb3 => ?_) (fun hb3 => ?_)
            · refine q_aload_n hC dX9_pave_32 ?_
              refine q_getR hC (by first | assumption | rfl) flX9_29 dX9_pave_33 ?_
              refine q_getR hC (by first | assumption | rfl) flX9_132 dX9_pave_36 ?_
              refine q_iload_n hC dX9_pave_39 ?_
              refine q_ialdn hC (by first | assumption | rfl) (by first | assumption | omega) dX9_pave_40 ?_
              rw [hN.1 q (by omega)]
              refine q_istore_3 hC dX9_pave_41 ?_
              refine q_aload_n hC dX9_pave_42 ?_
              refine q_getR hC (by first | assumption | rfl) flX9_29 dX9_pave_43 ?_
              refine q_getR hC (by first | assumption | rfl) flX9_132 dX9_pave_46 ?_
              refine q_iload_n hC dX9_pave_49 ?_
              refine q_iload_n hC dX9_pave_50 ?_
              refine q_iastn hC (by first | assumption | rfl) (by first | assumption | omega) dX9_pave_51 ?_
              refine q_iload_n hC dX9_pave_52 ?_
              refine q_iret hC dX9_pave_53 ?_
              refine ⟨by simp [sPave, hp, hf, h5], ?_⟩
              have e : (sPave T N (nI q) (nI g)).2 = nPav N q g := by simp [sPave, hp, hf, h5]
              rw [e]
              refine hR'.now (Fr.u1.mono (by decide)) ?_
              rw [← clO_lt (show g < 4 by omega)]
              exact hN.own (by omega) h5 (by omega)
            · exact absurd rfl hb3
        · exact absurd hb2 (show ¬ nI 1 = 0 by decide)
theorem x_free (θ : Site) (S : St) (L : Nat) (x : Nat → Nat) (T : Tn) (N : Nw) (im : Nat → Option Nw) (tr : Int64) (hA : AOk T N im) (hR : RX S L x T N im tr) (p : Int32) : Cti yX9_free cX9_free 3 (some .int) 20 θ shX [.ref (sA θ 0), .int p] S (fun r S' => r = (sFree T N p).1 ∧ RX S' L x T (sFree T N p).2 im tr) := by
  obtain ⟨hok, hNo, hIm⟩ := hA
  have hR' := hR
  obtain ⟨hx, hT, hN, hI, hKn, hCh, htr⟩ := hR
  have h8 := hok.1
  have hF4 := hok.2.1
  refine Cti.mk (own := RX9) 1 [some (.ref (sA θ 0)), some (.int p), none] (fun K hC => ?_)
  refine q_aload_n hC dX9_free_0 ?_
  refine q_iload_n hC dX9_free_1 ?_
  refine q_calliV1 hC (by first | assumption | rfl) cvX9_118 dX9_free_2 (c_isPiece θ _ p T hok hT) (by decide) (fun r S1 hr => ?_)
  obtain ⟨rfl, rfl⟩ := hr
  cases hp : ixN p (tP T) with
  | none =>
    refine q_if_ne hC 10 dX9_free_5 (by decide) (fun hb => ?_) (fun hb => ?_)
    · exact absurd rfl hb
    · refine q_iconst (v := (-1)) hC dX9_free_8 (by decide) ?_
      refine q_iret hC dX9_free_9 ?_
      exact ⟨by simp [sFree, hp], by simpa [sFree, hp] using hR'⟩
  | some q =>
    obtain ⟨hq, rfl⟩ := ixN_some (by omega) hp
    refine q_if_ne hC 10 dX9_free_5 (by decide) (fun hb => ?_) (fun hb => ?_)
    · refine q_aload_n hC dX9_free_10 ?_
      refine q_getR hC (by first | assumption | rfl) flX9_29 dX9_free_11 ?_
      refine q_getR hC (by first | assumption | rfl) flX9_132 dX9_free_14 ?_
      refine q_iload_n hC dX9_free_17 ?_
      refine q_ialdn hC (by first | assumption | rfl) (by first | assumption | omega) dX9_free_18 ?_
      rw [hN.1 q (by omega)]
      refine q_istore_2 hC dX9_free_19 ?_
      refine q_iload_n hC dX9_free_20 ?_
      refine q_bipush (v := (-9)) hC dX9_free_21 (by decide) ?_
      refine q_icmp_ne hC 29 dX9_free_23 (by decide) (fun hb2 => ?_) (fun hb2 => ?_)
      · have h4 : nO N q < 4 := by
          rcases Nat.lt_or_ge (nO N q) 4 with h | h
          · exact h
          · exact absurd (clO_none.mpr (by omega)) hb2
        refine q_aload_n hC dX9_free_29 ?_
        refine q_getR hC (by first | assumption | rfl) flX9_29 dX9_free_30 ?_
        refine q_getR hC (by first | assumption | rfl) flX9_132 dX9_free_33 ?_
        refine q_iload_n hC dX9_free_36 ?_
        refine q_bipush (v := (-9)) hC dX9_free_37 (by decide) ?_
        refine q_iastn hC (by first | assumption | rfl) (by first | assumption | omega) dX9_free_39 ?_
        refine q_iload_n hC dX9_free_40 ?_
        refine q_iret hC dX9_free_41 ?_
        refine ⟨by simp [sFree, hp, h4, clO_lt h4], ?_⟩
        have e : (sFree T N (nI q)).2 = nPav N q 4 := by simp [sFree, hp, h4]
        rw [e]
        refine hR'.now (Fr.u1.mono (by decide)) ?_
        exact hN.own (f := 4) (by omega) (by omega) (by omega)
      · have h4 : ¬ nO N q < 4 := clO_none.mp hb2
        refine q_bipush (v := (-2)) hC dX9_free_26 (by decide) ?_
        refine q_iret hC dX9_free_28 ?_
        exact ⟨by simp [sFree, hp, h4], by simpa [sFree, hp, h4] using hR'⟩
    · exact absurd hb (show ¬ nI 1 = 0 by decide)
theorem x_stone (θ : Site) (S : St) (L : Nat) (x : Nat → Nat) (T : Tn) (N : Nw) (im : Nat → Option Nw) (tr : Int64) (hA : AOk T N im) (hR : RX S L x T N im tr) (p : Int32) (z : Int32) : Cti yX9_stone cX9_stone 4 (some .int) 20 θ shX [.ref (sA θ 0), .int p, .int z] S (fun r S' => r = (sStone T N p z).1 ∧ RX S' L x T (sStone T N p z).2 im tr) := by
  obtain ⟨hok, hNo, hIm⟩ := hA
  have hR' := hR
  obtain ⟨hx, hT, hN, hI, hKn, hCh, htr⟩ := hR
  have h8 := hok.1
  have hF4 := hok.2.1
  refine Cti.mk (own := RX9) 1 [some (.ref (sA θ 0)), some (.int p), some (.int z), none] (fun K hC => ?_)
  have bad : sStone T N p z = (-1, N) → K 17 [some (.ref (sA θ 0)), some (.int p), some (.int z), none] [] S := by
    intro e
    refine q_iconst (v := (-1)) hC dX9_stone_17 (by decide) ?_
    refine q_iret hC dX9_stone_18 ?_
    rw [e]
    exact ⟨rfl, hR'⟩
  refine q_aload_n hC dX9_stone_0 ?_
  refine q_iload_n hC dX9_stone_1 ?_
  refine q_calliV1 hC (by first | assumption | rfl) cvX9_118 dX9_stone_2 (c_isPiece θ _ p T hok hT) (by decide) (fun r S1 hr => ?_)
  obtain ⟨rfl, rfl⟩ := hr
  cases hp : ixN p (tP T) with
  | none =>
    refine q_if_eq hC 17 dX9_stone_5 (by decide) (fun hb => ?_) (fun hb => ?_)
    · exact bad (by simp [sStone, hp])
    · exact absurd rfl hb
  | some q =>
    obtain ⟨hq, rfl⟩ := ixN_some (by omega) hp
    have hst := hN.2.2.1
    have hsl := stm_lt N
    refine q_if_eq hC 17 dX9_stone_5 (by decide) (fun hb => ?_) (fun hb => ?_)
    · exact absurd hb (show ¬ nI 1 = 0 by decide)
    · cases hz : ixN z 2 with
      | none =>
        have hzz := ixN_none (by decide) hz
        refine q_iload_n hC dX9_stone_8 ?_
        refine q_if_lt hC 17 dX9_stone_9 (by decide) (fun hb2 => ?_) (fun hb2 => ?_)
        · exact bad (by simp [sStone, hz])
        · refine q_iload_n hC dX9_stone_12 ?_
          refine q_iconst (v := nI 1) hC dX9_stone_13 (by decide) ?_
          refine q_icmp_le hC 19 dX9_stone_14 (by decide) (fun hb3 => ?_) (fun hb3 => ?_)
          · rcases hzz with q1 | q1
            · exact absurd q1 hb2
            · exact absurd (Int32.le_trans q1 hb3) (by decide)
          · exact bad (by simp [sStone, hz])
      | some k =>
        obtain ⟨hk, rfl⟩ := ixN_some (by decide) hz
        refine q_iload_n hC dX9_stone_8 ?_
        refine q_if_lt hC 17 dX9_stone_9 (by decide) (fun hb2 => ?_) (fun hb2 => ?_)
        · exact absurd hb2 (nI_pos (by omega))
        · refine q_iload_n hC dX9_stone_12 ?_
          refine q_iconst (v := nI 1) hC dX9_stone_13 (by decide) ?_
          refine q_icmp_le hC 19 dX9_stone_14 (by decide) (fun hb3 => ?_) (fun hb3 => ?_)
          · refine q_aload_n hC dX9_stone_19 ?_
            refine q_getR hC (by first | assumption | rfl) flX9_29 dX9_stone_20 ?_
            refine q_getI hC (by first | assumption | rfl) flX9_135 dX9_stone_23 ?_
            rw [hst]
            refine q_iload_n hC dX9_stone_26 ?_
            refine q_ishr hC dX9_stone_27 ?_
            refine q_iconst (v := nI 1) hC dX9_stone_28 (by decide) ?_
            refine q_iand hC dX9_stone_29 ?_
            rw [bit_n (by omega) (by omega), bitS N (show q < 8 by omega)]
            rcases (show k = 0 ∨ k = 1 by omega) with rfl | rfl
            · refine q_istore_3 hC dX9_stone_30 ?_
              refine q_iload_n hC dX9_stone_31 ?_
              refine q_iconst (v := nI 1) hC dX9_stone_32 (by decide) ?_
              refine q_icmp_ne hC 47 dX9_stone_33 (by decide) (fun hb4 => ?_) (fun hb4 => ?_)
              · refine q_aload_n hC dX9_stone_47 ?_
                refine q_getR hC (by first | assumption | rfl) flX9_29 dX9_stone_48 ?_
                refine q_iload_n hC dX9_stone_51 ?_
                refine q_callvV1 hC (by first | assumption | rfl) cvX9_169 dX9_stone_52 (c_makeNoStone θ _ 18 q (stm N) nowAt18 (by omega) hsl hst) (by decide) (fun S2 hr2 => ?_)
                subst hr2
                refine q_iload_n hC dX9_stone_55 ?_
                refine q_iret hC dX9_stone_56 ?_
                refine ⟨by simp [sStone, hp, hz], ?_⟩
                have e : (sStone T N (nI q) (nI 0)).2 = if nO N q = 5 then nPav N q 4 else N := by simp [sStone, hp, hz]
                rw [e]
                exact hR'.now (Fr.u1.mono (by decide)) (hN.nost (by omega))
              · exact absurd hb4 (by decide)
            · refine q_istore_3 hC dX9_stone_30 ?_
              refine q_iload_n hC dX9_stone_31 ?_
              refine q_iconst (v := nI 1) hC dX9_stone_32 (by decide) ?_
              refine q_icmp_ne hC 47 dX9_stone_33 (by decide) (fun hb4 => ?_) (fun hb4 => ?_)
              · exact absurd rfl hb4
              · refine q_aload_n hC dX9_stone_36 ?_
                refine q_getR hC (by first | assumption | rfl) flX9_29 dX9_stone_37 ?_
                refine q_iload_n hC dX9_stone_40 ?_
                refine q_callvV1 hC (by first | assumption | rfl) cvX9_165 dX9_stone_41 (c_makeStone θ _ 18 q (stm N) nowAt18 (by omega) hst) (by decide) (fun S2 hr2 => ?_)
                subst hr2
                refine q_goto hC 55 dX9_stone_44 (by decide) ?_
                refine q_iload_n hC dX9_stone_55 ?_
                refine q_iret hC dX9_stone_56 ?_
                refine ⟨by simp [sStone, hp, hz], ?_⟩
                have e : (sStone T N (nI q) (nI 1)).2 = nPav N q 5 := by simp [sStone, hp, hz]
                rw [e]
                exact hR'.now (Fr.trans (Fr.u1.mono (by decide)) (Fr.u1.mono (by decide))) (hN.sto (by omega))
          · exact absurd (nI_le (by omega) (by omega)) hb3
theorem x_flood (θ : Site) (S : St) (L : Nat) (x : Nat → Nat) (T : Tn) (N : Nw) (im : Nat → Option Nw) (tr : Int64) (hA : AOk T N im) (hR : RX S L x T N im tr) (p : Int32) (z : Int32) : Cti yX9_flood cX9_flood 4 (some .int) 20 θ shX [.ref (sA θ 0), .int p, .int z] S (fun r S' => r = (sFlood T N p z).1 ∧ RX S' L x T (sFlood T N p z).2 im tr) := by
  obtain ⟨hok, hNo, hIm⟩ := hA
  have hR' := hR
  obtain ⟨hx, hT, hN, hI, hKn, hCh, htr⟩ := hR
  have h8 := hok.1
  have hF4 := hok.2.1
  refine Cti.mk (own := RX9) 1 [some (.ref (sA θ 0)), some (.int p), some (.int z), none] (fun K hC => ?_)
  have bad : sFlood T N p z = (-1, N) → K 18 [some (.ref (sA θ 0)), some (.int p), some (.int z), none] [] S := by
    intro e
    refine q_iconst (v := (-1)) hC dX9_flood_18 (by decide) ?_
    refine q_iret hC dX9_flood_19 ?_
    rw [e]
    exact ⟨rfl, hR'⟩
  refine q_aload_n hC dX9_flood_0 ?_
  refine q_iload_n hC dX9_flood_1 ?_
  refine q_calliV1 hC (by first | assumption | rfl) cvX9_118 dX9_flood_2 (c_isPiece θ _ p T hok hT) (by decide) (fun r S1 hr => ?_)
  obtain ⟨rfl, rfl⟩ := hr
  cases hp : ixN p (tP T) with
  | none =>
    refine q_if_eq hC 18 dX9_flood_5 (by decide) (fun hb => ?_) (fun hb => ?_)
    · exact bad (by simp [sFlood, hp])
    · exact absurd rfl hb
  | some q =>
    obtain ⟨hq, rfl⟩ := ixN_some (by omega) hp
    refine q_if_eq hC 18 dX9_flood_5 (by decide) (fun hb => ?_) (fun hb => ?_)
    · exact absurd hb (show ¬ nI 1 = 0 by decide)
    · cases hz : ixN z 10 with
      | none =>
        have hzz := ixN_none (by decide) hz
        refine q_iload_n hC dX9_flood_8 ?_
        refine q_if_lt hC 18 dX9_flood_9 (by decide) (fun hb2 => ?_) (fun hb2 => ?_)
        · exact bad (by simp [sFlood, hz])
        · refine q_iload_n hC dX9_flood_12 ?_
          refine q_bipush (v := nI 9) hC dX9_flood_13 (by decide) ?_
          refine q_icmp_le hC 20 dX9_flood_15 (by decide) (fun hb3 => ?_) (fun hb3 => ?_)
          · rcases hzz with q1 | q1
            · exact absurd q1 hb2
            · exact absurd (Int32.le_trans q1 hb3) (by decide)
          · exact bad (by simp [sFlood, hz])
      | some k =>
        obtain ⟨hk, rfl⟩ := ixN_some (by decide) hz
        refine q_iload_n hC dX9_flood_8 ?_
        refine q_if_lt hC 18 dX9_flood_9 (by decide) (fun hb2 => ?_) (fun hb2 => ?_)
        · exact absurd hb2 (nI_pos (by omega))
        · refine q_iload_n hC dX9_flood_12 ?_
          refine q_bipush (v := nI 9) hC dX9_flood_13 (by decide) ?_
          refine q_icmp_le hC 20 dX9_flood_15 (by decide) (fun hb3 => ?_) (fun hb3 => ?_)
          · refine q_aload_n hC dX9_flood_20 ?_
            refine q_getR hC (by first | assumption | rfl) flX9_29 dX9_flood_21 ?_
            refine q_getR hC (by first | assumption | rfl) flX9_138 dX9_flood_24 ?_
            refine q_iload_n hC dX9_flood_27 ?_
            refine q_ialdn hC (by first | assumption | rfl) (by first | assumption | omega) dX9_flood_28 ?_
            rw [hN.2.1 q (by omega)]
            refine q_istore_3 hC dX9_flood_29 ?_
            refine q_aload_n hC dX9_flood_30 ?_
            refine q_getR hC (by first | assumption | rfl) flX9_29 dX9_flood_31 ?_
            refine q_getR hC (by first | assumption | rfl) flX9_138 dX9_flood_34 ?_
            refine q_iload_n hC dX9_flood_37 ?_
            refine q_iload_n hC dX9_flood_38 ?_
            refine q_iastn hC (by first | assumption | rfl) (by first | assumption | omega) dX9_flood_39 ?_
            refine q_iload_n hC dX9_flood_40 ?_
            refine q_iret hC dX9_flood_41 ?_
            refine ⟨by simp [sFlood, hp, hz], ?_⟩
            have e : (sFlood T N (nI q) (nI k)).2 = nFlo N q k := by simp [sFlood, hp, hz]
            rw [e]
            exact hR'.now (Fr.u1.mono (by decide)) hN.flo
          · exact absurd (nI_le (by omega) (by omega)) hb3
theorem x_way (θ : Site) (S : St) (L : Nat) (x : Nat → Nat) (T : Tn) (N : Nw) (im : Nat → Option Nw) (tr : Int64) (hA : AOk T N im) (hR : RX S L x T N im tr) (f : Int32) : Cti yX9_way cX9_way 2 (some .int) 20 θ shX [.ref (sA θ 0), .int f] S (fun r S' => r = sWay T N f ∧ RX S' L x T N im tr) := by
  obtain ⟨hok, hNo, hIm⟩ := hA
  have hR' := hR
  obtain ⟨hx, hT, hN, hI, hKn, hCh, htr⟩ := hR
  have h8 := hok.1
  have hF4 := hok.2.1
  refine Cti.mk (own := RX9) 0 [some (.ref (sA θ 0)), some (.int f)] (fun K hC => ?_)
  refine q_aload_n hC dX9_way_0 ?_
  refine q_iload_n hC dX9_way_1 ?_
  refine q_calliV1 hC (by first | assumption | rfl) cvX9_141 dX9_way_2 (c_isFamily θ _ f T hok hT) (by decide) (fun r S1 hr => ?_)
  obtain ⟨rfl, rfl⟩ := hr
  cases hp : ixN f (tF T) with
  | none =>
    refine q_if_ne hC 10 dX9_way_5 (by decide) (fun hb => ?_) (fun hb => ?_)
    · exact absurd rfl hb
    · refine q_iconst (v := (-1)) hC dX9_way_8 (by decide) ?_
      refine q_iret hC dX9_way_9 ?_
      exact ⟨by simp [sWay, hp], hR'⟩
  | some q =>
    obtain ⟨hq, rfl⟩ := ixN_some (by omega) hp
    have hyb := yd_bd hok q (owm N q)
    refine q_if_ne hC 10 dX9_way_5 (by decide) (fun hb => ?_) (fun hb => ?_)
    · refine q_aload_n hC dX9_way_10 ?_
      refine q_iload_n hC dX9_way_11 ?_
      refine q_calliV1 hC (by first | assumption | rfl) cvX9_172 dX9_way_12 (c_wayNow θ _ q T N hok hT hN hKn hq) (by decide) (fun r1 S1 hr1 => ?_)
      obtain ⟨rfl, hF1, hK1⟩ := hr1
      refine q_calliS1 hC csX9_175 dX9_way_15 (c_orNone θ _ _ (show yd T q (owm N q) < 2 ^ 31 by omega)) (by decide) (fun r S1 hr => ?_)
      obtain ⟨rfl, rfl⟩ := hr
      refine q_iret hC dX9_way_18 ?_
      exact ⟨by simp [sWay, hp, orN], hR'.ways hF1 hK1⟩
    · exact absurd hb (show ¬ nI 1 = 0 by decide)
theorem x_place (θ : Site) (S : St) (L : Nat) (x : Nat → Nat) (T : Tn) (N : Nw) (im : Nat → Option Nw) (tr : Int64) (hA : AOk T N im) (hR : RX S L x T N im tr) (f : Int32) (z : Int32) : Cti yX9_place cX9_place 3 (some .int) 20 θ shX [.ref (sA θ 0), .int f, .int z] S (fun r S' => r = sPlace T N f z ∧ RX S' L x T N im tr) := by
  obtain ⟨hok, hNo, hIm⟩ := hA
  have hR' := hR
  obtain ⟨hx, hT, hN, hI, hKn, hCh, htr⟩ := hR
  have h8 := hok.1
  have hF4 := hok.2.1
  refine Cti.mk (own := RX9) 0 [some (.ref (sA θ 0)), some (.int f), some (.int z)] (fun K hC => ?_)
  have bad : sPlace T N f z = -1 → K 12 [some (.ref (sA θ 0)), some (.int f), some (.int z)] [] S := by
    intro e
    refine q_iconst (v := (-1)) hC dX9_place_12 (by decide) ?_
    refine q_iret hC dX9_place_13 ?_
    exact ⟨by rw [e], hR'⟩
  refine q_aload_n hC dX9_place_0 ?_
  refine q_iload_n hC dX9_place_1 ?_
  refine q_calliV1 hC (by first | assumption | rfl) cvX9_141 dX9_place_2 (c_isFamily θ _ f T hok hT) (by decide) (fun r S1 hr => ?_)
  obtain ⟨rfl, rfl⟩ := hr
  cases hp : ixN f (tF T) with
  | none =>
    refine q_if_eq hC 12 dX9_place_5 (by decide) (fun hb => ?_) (fun hb => ?_)
    · exact bad (by simp [sPlace, hp])
    · exact absurd rfl hb
  | some q =>
    obtain ⟨hq, rfl⟩ := ixN_some (by omega) hp
    refine q_if_eq hC 12 dX9_place_5 (by decide) (fun hb => ?_) (fun hb => ?_)
    · exact absurd hb (show ¬ nI 1 = 0 by decide)
    · refine q_iload_n hC dX9_place_8 ?_
      refine q_if_ge hC 14 dX9_place_9 (by decide) (fun hb2 => ?_) (fun hb2 => ?_)
      · have hz0 : ¬ z < 0 := Int32.not_lt.mpr hb2
        obtain ⟨j, hj, rfl⟩ := nI_of hz0
        refine q_aload_n hC dX9_place_14 ?_
        refine q_getR hC (by first | assumption | rfl) flX9_58 dX9_place_15 ?_
        refine q_iload_n hC dX9_place_18 ?_
        refine q_aload_n hC dX9_place_19 ?_
        refine q_getR hC (by first | assumption | rfl) flX9_29 dX9_place_20 ?_
        refine q_iload_n hC dX9_place_23 ?_
        refine q_calliV1 hC (by first | assumption | rfl) cvX9_153 dX9_place_24 (c_ownedBy θ _ 18 q N nowAt18 hN (by omega)) (by decide) (fun r S1 hr => ?_)
        obtain ⟨rfl, rfl⟩ := hr
        refine q_iload_n hC dX9_place_27 ?_
        refine q_calliV3 hC (by first | assumption | rfl) cvX9_178 dX9_place_28 (c_placeOnWay θ _ q _ j T hok hT hq (owm_lt N q) hj) (by decide) (fun r1 S1 hr1 => ?_)
        obtain ⟨rfl, hF1⟩ := hr1
        refine q_iret hC dX9_place_31 ?_
        refine ⟨by simp [sPlace, hp, hz0, nI_clamp hj], hR'.cache (hF1.L.mono (by decide)) (fun f hf B hB => by rw [hF1.c 37]; exact hKn f hf B hB) (hCh.go (hF1.c 39) (hF1.c 40) (hF1.c 41))⟩
      · have hz0 : z < 0 := Int32.not_le.mp hb2
        exact bad (by simp [sPlace, hp, hz0])
theorem x_pole (θ : Site) (S : St) (L : Nat) (x : Nat → Nat) (T : Tn) (N : Nw) (im : Nat → Option Nw) (tr : Int64) (hA : AOk T N im) (hR : RX S L x T N im tr) (f : Int32) (z : Int32) : Cti yX9_pole cX9_pole 4 (some .int) 20 θ shX [.ref (sA θ 0), .int f, .int z] S (fun r S' => r = sPole T N f z ∧ RX S' L x T N im tr) := by
  obtain ⟨hok, hNo, hIm⟩ := hA
  have hR' := hR
  obtain ⟨hx, hT, hN, hI, hKn, hCh, htr⟩ := hR
  have h8 := hok.1
  have hF4 := hok.2.1
  refine Cti.mk (own := RX9) 1 [some (.ref (sA θ 0)), some (.int f), some (.int z), none] (fun K hC => ?_)
  have bad : sPole T N f z = -1 → K 18 [some (.ref (sA θ 0)), some (.int f), some (.int z), none] [] S := by
    intro e
    refine q_iconst (v := (-1)) hC dX9_pole_18 (by decide) ?_
    refine q_iret hC dX9_pole_19 ?_
    exact ⟨by rw [e], hR'⟩
  refine q_aload_n hC dX9_pole_0 ?_
  refine q_iload_n hC dX9_pole_1 ?_
  refine q_calliV1 hC (by first | assumption | rfl) cvX9_141 dX9_pole_2 (c_isFamily θ _ f T hok hT) (by decide) (fun r S1 hr => ?_)
  obtain ⟨rfl, rfl⟩ := hr
  cases hp : ixN f (tF T) with
  | none =>
    refine q_if_eq hC 18 dX9_pole_5 (by decide) (fun hb => ?_) (fun hb => ?_)
    · exact bad (by simp [sPole, hp])
    · exact absurd rfl hb
  | some q =>
    obtain ⟨hq, rfl⟩ := ixN_some (by omega) hp
    refine q_if_eq hC 18 dX9_pole_5 (by decide) (fun hb => ?_) (fun hb => ?_)
    · exact absurd hb (show ¬ nI 1 = 0 by decide)
    · cases hz : ixN z 31 with
      | none =>
        have hzz := ixN_none (by decide) hz
        refine q_iload_n hC dX9_pole_8 ?_
        refine q_if_lt hC 18 dX9_pole_9 (by decide) (fun hb2 => ?_) (fun hb2 => ?_)
        · exact bad (by simp [sPole, hz])
        · refine q_iload_n hC dX9_pole_12 ?_
          refine q_bipush (v := nI 30) hC dX9_pole_13 (by decide) ?_
          refine q_icmp_le hC 20 dX9_pole_15 (by decide) (fun hb3 => ?_) (fun hb3 => ?_)
          · rcases hzz with q1 | q1
            · exact absurd q1 hb2
            · exact absurd (Int32.le_trans q1 hb3) (by decide)
          · exact bad (by simp [sPole, hz])
      | some k =>
        obtain ⟨hk, rfl⟩ := ixN_some (by decide) hz
        have hal := and_lt256 (b := msk (fun p => decide (k < tY T p)) (tP T)) (owm_lt N q)
        have hyb := yd_bd hok q (owm N q &&& msk (fun p => decide (k < tY T p)) (tP T))
        refine q_iload_n hC dX9_pole_8 ?_
        refine q_if_lt hC 18 dX9_pole_9 (by decide) (fun hb2 => ?_) (fun hb2 => ?_)
        · exact absurd hb2 (nI_pos (by omega))
        · refine q_iload_n hC dX9_pole_12 ?_
          refine q_bipush (v := nI 30) hC dX9_pole_13 (by decide) ?_
          refine q_icmp_le hC 20 dX9_pole_15 (by decide) (fun hb3 => ?_) (fun hb3 => ?_)
          · refine q_aload_n hC dX9_pole_20 ?_
            refine q_getR hC (by first | assumption | rfl) flX9_29 dX9_pole_21 ?_
            refine q_iload_n hC dX9_pole_24 ?_
            refine q_calliV1 hC (by first | assumption | rfl) cvX9_153 dX9_pole_25 (c_ownedBy θ _ 18 q N nowAt18 hN (by omega)) (by decide) (fun r S1 hr => ?_)
            obtain ⟨rfl, rfl⟩ := hr
            refine q_aload_n hC dX9_pole_28 ?_
            refine q_getR hC (by first | assumption | rfl) flX9_19 dX9_pole_29 ?_
            refine q_iload_n hC dX9_pole_32 ?_
            refine q_calliV1 hC (by first | assumption | rfl) cvX9_182 dX9_pole_33 (c_widerThan θ _ 4 k twAt4 T hT h8 (fun p hp => (hok.2.2.1 p hp).2.2.2.2) (by omega)) (by decide) (fun r S1 hr => ?_)
            obtain ⟨rfl, rfl⟩ := hr
            refine q_iand hC dX9_pole_36 ?_
            rw [and_n]
            refine q_istore_3 hC dX9_pole_37 ?_
            refine q_aload_n hC dX9_pole_38 ?_
            refine q_getR hC (by first | assumption | rfl) flX9_58 dX9_pole_39 ?_
            refine q_iload_n hC dX9_pole_42 ?_
            refine q_iload_n hC dX9_pole_43 ?_
            refine q_calliV2 hC (by first | assumption | rfl) cvX9_185 dX9_pole_44 (c_yards θ _ q _ T hok hT hKn hq hal) (by decide) (fun r1 S1 hr1 => ?_)
            obtain ⟨rfl, hF1, hK1⟩ := hr1
            refine q_calliS1 hC csX9_175 dX9_pole_47 (c_orNone θ _ _ (show yd T q (owm N q &&& msk (fun p => decide (k < tY T p)) (tP T)) < 2 ^ 31 by omega)) (by decide) (fun r S1 hr => ?_)
            obtain ⟨rfl, rfl⟩ := hr
            refine q_iret hC dX9_pole_50 ?_
            exact ⟨by simp [sPole, hp, hz, orN], hR'.ways hF1 hK1⟩
          · exact absurd (nI_le (by omega) (by omega)) hb3
theorem x_judge (θ : Site) (S : St) (L : Nat) (x : Nat → Nat) (T : Tn) (N : Nw) (im : Nat → Option Nw) (tr : Int64) (hA : AOk T N im) (hR : RX S L x T N im tr) (z : Int32) : Cti yX9_judge cX9_judge 7 (some .int) 20 θ shX [.ref (sA θ 0), .int z] S (fun r S' => r = sJudge T N z ∧ RX S' L x T N im tr) := by
  obtain ⟨hok, hNo, hIm⟩ := hA
  have hR' := hR
  obtain ⟨hx, hT, hN, hI, hKn, hCh, htr⟩ := hR
  have h8 := hok.1
  have hF4 := hok.2.1
  refine Cti.mk (own := RX9) 5 [some (.ref (sA θ 0)), some (.int z), none, none, none, none, none] (fun K hC => ?_)
  have loop : ∀ n f S1 l6, f + n = tF T → Fr S S1 [37, 38] → KnR S1 T → K 10 [some (.ref (sA θ 0)), some (.int z), some (.int (nI (jC T N f))), some (.int (nI (jL T N f))), some (.int (nI (msk (jM T N) f))), some (.int (nI f)), l6] [] S1 := by
    intro n
    induction n with
    | zero =>
      intro f S1 l6 hf hF1 hK1
      have e : f = tF T := by omega
      subst e
      have hT1 := hT.fr4 hF1 rfl
      have hcl := jC_le hok N (tF T) (Nat.le_refl _)
      have hll := jL_le hok N (tF T)
      have hR1 := hR'.ways hF1 hK1
      refine q_iload hC dX9_judge_10 ?_
      refine q_aload_n hC dX9_judge_12 ?_
      refine q_getR hC (by first | assumption | rfl) flX9_19 dX9_judge_13 ?_
      refine q_getI hC (by first | assumption | rfl) flX9_188 dX9_judge_16 ?_
      rw [hT1.2.1]
      refine q_icmp_ge hC 79 dX9_judge_19 (by decide) (fun hb => ?_) (fun hb => ?_)
      · refine q_iload_n hC dX9_judge_79 ?_
        cases hw : ixN z 3 with
        | none =>
          refine q_tabOut hC 121 dX9_judge_80 (by have := ixN_none (by decide) hw; rw [Int32.lt_iff_toInt_lt, Int32.le_iff_toInt_le, nI_toInt (by omega), Int32.toInt_zero] at this; omega) (by decide) ?_
          refine q_iconst (v := (-1)) hC dX9_judge_121 (by decide) ?_
          refine q_iret hC dX9_judge_122 ?_
          exact ⟨by simp [sJudge, hw], hR1⟩
        | some k =>
          obtain ⟨hk, rfl⟩ := ixN_some (by decide) hw
          rcases (show k = 0 ∨ k = 1 ∨ k = 2 by omega) with rfl | rfl | rfl
          · refine q_tabIn hC (off := 28) 108 dX9_judge_80 (by decide) (by decide) (by decide) (by decide) ?_
            refine q_iload_n hC dX9_judge_108 ?_
            refine q_calliS1 hC csX9_175 dX9_judge_109 (c_orNone θ _ _ (show jC T N (tF T) < 2 ^ 31 by omega)) (by decide) (fun r S1 hr => ?_)
            obtain ⟨rfl, rfl⟩ := hr
            refine q_iret hC dX9_judge_112 ?_
            exact ⟨by simp [sJudge, hw, orN], hR1⟩
          · refine q_tabIn hC (off := 33) 113 dX9_judge_80 (by decide) (by decide) (by decide) (by decide) ?_
            refine q_iload_n hC dX9_judge_113 ?_
            refine q_calliS1 hC csX9_175 dX9_judge_114 (c_orNone θ _ _ (show jL T N (tF T) < 2 ^ 31 by omega)) (by decide) (fun r S1 hr => ?_)
            obtain ⟨rfl, rfl⟩ := hr
            refine q_iret hC dX9_judge_117 ?_
            exact ⟨by simp [sJudge, hw, orN], hR1⟩
          · refine q_tabIn hC (off := 38) 118 dX9_judge_80 (by decide) (by decide) (by decide) (by decide) ?_
            refine q_iload hC dX9_judge_118 ?_
            refine q_iret hC dX9_judge_120 ?_
            exact ⟨by simp [sJudge, hw], hR1⟩
      · exact absurd (nI_le (Nat.le_refl _) (by omega)) hb
    | succ n ih =>
      intro f S1 l6 hf hF1 hK1
      have hT1 := hT.fr4 hF1 rfl
      have hN1 := hN.go (hF1.c 18) (hF1.c 19) (hF1.c 20) (hF1.c 21)
      have hyb := yd_bd hok f (owm N f)
      have hll := jL_le hok N f
      refine q_iload hC dX9_judge_10 ?_
      refine q_aload_n hC dX9_judge_12 ?_
      refine q_getR hC (by first | assumption | rfl) flX9_19 dX9_judge_13 ?_
      refine q_getI hC (by first | assumption | rfl) flX9_188 dX9_judge_16 ?_
      rw [hT1.2.1]
      refine q_icmp_ge hC 79 dX9_judge_19 (by decide) (fun hb => ?_) (fun hb => ?_)
      · exact absurd ((nI_leI (by omega) (by omega)).mp hb) (by omega)
      · refine q_aload_n hC dX9_judge_22 ?_
        refine q_iload hC dX9_judge_23 ?_
        refine q_calliV1 hC (by first | assumption | rfl) cvX9_172 dX9_judge_25 (c_wayNow θ _ f T N hok hT1 hN1 hK1 (by omega)) (by decide) (fun r2 S2 hr2 => ?_)
        obtain ⟨rfl, hF2, hK2⟩ := hr2
        have hF12 := hF1.trans hF2
        have hT2 := hT.fr4 hF12 rfl
        refine q_istore_6 hC dX9_judge_28 ?_
        refine q_iload_n hC dX9_judge_30 ?_
        refine q_iload hC dX9_judge_31 ?_
        refine q_aload_n hC dX9_judge_33 ?_
        refine q_getR hC (by first | assumption | rfl) flX9_19 dX9_judge_34 ?_
        refine q_getR hC (by first | assumption | rfl) flX9_150 dX9_judge_37 ?_
        refine q_iload hC dX9_judge_40 ?_
        refine q_ialdn hC (by first | assumption | rfl) (by first | assumption | omega) dX9_judge_42 ?_
        rw [(hT2.2.2.2 f (by omega)).2.2]
        refine q_imul hC dX9_judge_43 ?_
        rw [pk_mul]
        refine q_iadd hC dX9_judge_44 ?_
        rw [nI_add]
        refine q_istore_2 hC dX9_judge_45 ?_
        refine q_iload_n hC dX9_judge_46 ?_
        refine q_iload hC dX9_judge_47 ?_
        refine q_max hC mlX9_191 (by decide) dX9_judge_49 ?_
        have em : (if nI (jL T N f) < nI (yd T f (owm N f)) then nI (yd T f (owm N f)) else nI (jL T N f)) = nI (jL T N (f + 1)) := by
          simp only [jL]
          by_cases h7 : jL T N f < yd T f (owm N f)
          · rw [if_pos (nI_lt h7 (by omega)), if_pos h7]
          · rw [if_neg (nI_nlt (by omega) (by omega)), if_neg h7]
        rw [em]
        refine q_istore_3 hC dX9_judge_52 ?_
        refine q_iload hC dX9_judge_53 ?_
        refine q_iload hC dX9_judge_55 ?_
        refine q_ldc hC kcX9_196 dX9_judge_57 ?_
        refine q_icmp_lt hC 69 dX9_judge_59 (by decide) (fun hb2 => ?_) (fun hb2 => ?_)
        · have h9 : ¬ jM T N f = true := by
            have := (nI_ltI (by omega) (by omega)).mp hb2
            unfold jM; simp only [decide_eq_true_eq]; omega
          refine q_iconst (v := nI 0) hC dX9_judge_69 (by decide) ?_
          refine q_ior hC dX9_judge_70 ?_
          rw [show nI 0 = (if jM T N f = true then nI (2 ^ f) else nI 0) by rw [if_neg h9], msk_or (jM T N) f]
          refine q_istore_4 hC dX9_judge_71 ?_
          refine q_inc1_5 hC dX9_judge_73 ?_
          refine q_goto hC 10 dX9_judge_76 (by decide) ?_
          exact ih (f + 1) S2 _ (by omega) hF12 hK2
        · have h9 : jM T N f = true := by
            unfold jM; simp only [decide_eq_true_eq]
            rcases Nat.lt_or_ge (yd T f (owm N f)) 100000 with h | h
            · exact absurd (nI_lt h (by omega)) hb2
            · exact h
          refine q_iconst (v := nI 1) hC dX9_judge_62 (by decide) ?_
          refine q_iload hC dX9_judge_63 ?_
          refine q_ishl hC dX9_judge_65 ?_
          rw [sh1 (by omega)]
          refine q_goto hC 70 dX9_judge_66 (by decide) ?_
          refine q_ior hC dX9_judge_70 ?_
          rw [show nI (2 ^ f) = (if jM T N f = true then nI (2 ^ f) else nI 0) by rw [if_pos h9], msk_or (jM T N) f]
          refine q_istore_4 hC dX9_judge_71 ?_
          refine q_inc1_5 hC dX9_judge_73 ?_
          refine q_goto hC 10 dX9_judge_76 (by decide) ?_
          exact ih (f + 1) S2 _ (by omega) hF12 hK2
  refine q_iconst (v := nI 0) hC dX9_judge_0 (by decide) ?_
  refine q_istore_2 hC dX9_judge_1 ?_
  refine q_iconst (v := nI 0) hC dX9_judge_2 (by decide) ?_
  refine q_istore_3 hC dX9_judge_3 ?_
  refine q_iconst (v := nI 0) hC dX9_judge_4 (by decide) ?_
  refine q_istore_4 hC dX9_judge_5 ?_
  refine q_iconst (v := nI 0) hC dX9_judge_7 (by decide) ?_
  refine q_istore_5 hC dX9_judge_8 ?_
  exact loop (tF T) 0 S _ (by omega) Fr.rfl' hKn
