theorem MR_le (T : Tn) (st : Nat) (h4 : tF T ≤ 4) : ∀ k p, MR T st k p ≤ 4 ^ k
  | 0, p => Nat.le_refl _
  | k + 1, p => by
    have ih := MR_le T st h4 k (p + 1)
    simp only [MR]
    rw [Nat.pow_succ, Nat.mul_comm (4 ^ k)]
    exact Nat.mul_le_mul (by split <;> omega) ih
theorem MR_F {T : Tn} {st : Nat} (h0 : tF T = 0) : ∀ k p q, p ≤ q → q < p + k → ¬ st / 2 ^ q % 2 = 1 → MR T st k p = 0
  | 0, p, q, h1, h2, _ => by omega
  | k + 1, p, q, h1, h2, h3 => by
    simp only [MR]
    by_cases e : q = p
    · subst e; rw [if_neg h3, h0, Nat.zero_mul]
    · rw [MR_F h0 k (p + 1) q (by omega) (by omega) h3, Nat.mul_zero]
theorem bit_st {N : Nw} {q : Nat} (hq : q < 8) : (stm N / 2 ^ q % 2 = 1) ↔ nO N q = 5 := by
  rw [bitS N hq]
  split <;> simp_all
theorem m_rowsOfAll (θ : Site) (S : St) (T : Tn) (N : Nw) (hok : TnOk T) (hNo : NwOk T N) (hT : MTw S T) (hN : ∀ p, p < tP T → S.1 8 p = mdO (nO N p)) : Cti yX10_rowsOfAll cX10_rowsOfAll 3 (some .int) 1 θ shM [.ref (sA θ 0)] S (fun r S' => r = nI (MR T (stm N) (tP T) 0) ∧ S' = S) := by
  have h8 := hok.1
  have hF4 := hok.2.1
  refine Cti.mk (own := RX10) 2 [some (.ref (sA θ 0)), none, none] (fun K hC => ?_)
  have loop : ∀ k p r, p + k = tP T → r * MR T (stm N) k p = MR T (stm N) (tP T) 0 → K 4 [some (.ref (sA θ 0)), some (.int (nI r)), some (.int (nI p))] [] S := by
    intro k
    induction k with
    | zero =>
      intro p r hp hr
      have e : p = tP T := by omega
      subst e
      have hr' : r = MR T (stm N) (tP T) 0 := by rw [← hr]; exact (Nat.mul_one r).symm
      refine q_iload_n hC dX10_rowsOfAll_4 ?_
      refine q_aload_n hC dX10_rowsOfAll_5 ?_
      refine q_getI hC (by first | assumption | rfl) flX10_67 dX10_rowsOfAll_6 ?_
      rw [hT.1]
      refine q_icmp_ge hC 37 dX10_rowsOfAll_9 (by decide) (fun hb => ?_) (fun hz => absurd hz (fun z => z (nI_le (Nat.le_refl _) (by omega))))
      refine q_iload_n hC dX10_rowsOfAll_37 ?_
      refine q_iret hC dX10_rowsOfAll_38 ?_
      exact ⟨by rw [hr'], rfl⟩
    | succ k ih =>
      intro p r hp hr
      have hp8 : p < 8 := by omega
      simp only [MR] at hr
      refine q_iload_n hC dX10_rowsOfAll_4 ?_
      refine q_aload_n hC dX10_rowsOfAll_5 ?_
      refine q_getI hC (by first | assumption | rfl) flX10_67 dX10_rowsOfAll_6 ?_
      rw [hT.1]
      refine q_icmp_ge hC 37 dX10_rowsOfAll_9 (by decide) (fun hz => absurd hz (fun z => by have := (nI_leI (by omega) (by omega)).mp z; omega)) (fun hb => ?_)
      refine q_iload_n hC dX10_rowsOfAll_12 ?_
      refine q_aload_n hC dX10_rowsOfAll_13 ?_
      refine q_iload_n hC dX10_rowsOfAll_14 ?_
      refine q_calliV1 hC (by first | assumption | rfl) cvX10_170 dX10_rowsOfAll_15 (m_isStone θ _ p T N hok hNo hN (by omega)) (by decide) (fun r1 S1 hr1 => ?_)
      obtain ⟨rfl, hS⟩ := hr1
      have hS := hS.symm
      subst hS
      by_cases h5 : nO N p = 5
      · rw [if_pos h5]
        rw [if_pos ((bit_st hp8).mpr h5), ← Nat.mul_assoc] at hr
        refine q_if_eq hC 25 dX10_rowsOfAll_18 (by decide) (fun hz => absurd hz (by first | decide | exact (show ¬ nI 1 = 0 by decide))) (fun hb => ?_)
        refine q_iconst (v := nI 1) hC dX10_rowsOfAll_21 (by decide) ?_
        refine q_goto hC 29 dX10_rowsOfAll_22 (by decide) ?_
        refine q_imul hC dX10_rowsOfAll_29 ?_
        rw [pk_mul]
        refine q_istore_1 hC dX10_rowsOfAll_30 ?_
        refine q_inc1_2 hC dX10_rowsOfAll_31 ?_
        refine q_goto hC 4 dX10_rowsOfAll_34 (by decide) ?_
        exact ih (p + 1) _ (by omega) hr
      · rw [if_neg h5]
        rw [if_neg (fun z => h5 ((bit_st hp8).mp z)), ← Nat.mul_assoc] at hr
        refine q_if_eq hC 25 dX10_rowsOfAll_18 (by decide) (fun hb => ?_) (fun hz => absurd hz (by first | decide | exact (show ¬ nI 1 = 0 by decide)))
        refine q_aload_n hC dX10_rowsOfAll_25 ?_
        refine q_getI hC (by first | assumption | rfl) flX10_75 dX10_rowsOfAll_26 ?_
        rw [hT.2.1]
        refine q_imul hC dX10_rowsOfAll_29 ?_
        rw [pk_mul]
        refine q_istore_1 hC dX10_rowsOfAll_30 ?_
        refine q_inc1_2 hC dX10_rowsOfAll_31 ?_
        refine q_goto hC 4 dX10_rowsOfAll_34 (by decide) ?_
        exact ih (p + 1) _ (by omega) hr
  refine q_iconst (v := nI 1) hC dX10_rowsOfAll_0 (by decide) ?_
  refine q_istore_1 hC dX10_rowsOfAll_1 ?_
  refine q_iconst (v := nI 0) hC dX10_rowsOfAll_2 (by decide) ?_
  refine q_istore_2 hC dX10_rowsOfAll_3 ?_
  exact loop (tP T) 0 1 (by omega) (Nat.one_mul _)
theorem m_lays (θ : Site) (S : St) (row : Nat) (T : Tn) (N : Nw) (hok : TnOk T) (hNo : NwOk T N) (hT : MTw S T) (hN : ∀ p, p < tP T → S.1 8 p = mdO (nO N p)) (hr : row < MR T (stm N) (tP T) 0) : Ctv yX10_lays cX10_lays 4 none 1 θ shM [.ref (sA θ 0), .int (nI row)] S (fun S' => Fr S S' [17] ∧ ∀ p, p < tP T → S'.1 17 p = tlA T (stm N) row p) := by
  have h8 := hok.1
  have hF4 := hok.2.1
  have hrow : row < 65536 := by
    have h1 := MR_le T (stm N) hF4 (tP T) 0
    have h2 : 4 ^ tP T ≤ 4 ^ 8 := Nat.pow_le_pow_right (by omega) h8
    have h3 : 4 ^ 8 = 65536 := by decide
    omega
  have hF0 : ∀ p, p < tP T → ¬ nO N p = 5 → 0 < tF T := fun p hp h5 => by
    rcases Nat.eq_zero_or_pos (tF T) with z | z
    · rw [MR_F z (tP T) 0 p (by omega) (by omega) (fun w => h5 ((bit_st (by omega)).mp w))] at hr; omega
    · exact z
  refine Ctv.mk (own := RX10) 2 [some (.ref (sA θ 0)), some (.int (nI row)), none, none] (fun K hC => ?_)
  have loop : ∀ n S1, n ≤ tP T → Fr S S1 [17] → (∀ p, n ≤ p → p < tP T → S1.1 17 p = tlA T (stm N) row p) → K 9 [some (.ref (sA θ 0)), some (.int (nI row)), some (.int (nI (row / MR T (stm N) (tP T - n) n))), some (.int (nI n - nI 1))] [] S1 := by
    intro n
    induction n with
    | zero =>
      intro S1 hn hF hL
      refine q_iload_n hC dX10_lays_9 ?_
      refine q_if_lt hC 54 dX10_lays_10 (by decide) (fun hb => ?_) (fun hz => absurd hz (by first | decide | exact (show ¬ nI 1 = 0 by decide)))
      refine q_vret hC dX10_lays_54 ?_
      exact ⟨hF, fun p hp => hL p (by omega) hp⟩
    | succ n ih =>
      intro S1 hn hF hL
      have hn8 : n < 8 := by omega
      have e0 : nI (n + 1) - nI 1 = nI n := by rw [pk_sub (by omega)]; rfl
      have eM : MR T (stm N) (tP T - n) n = (if stm N / 2 ^ n % 2 = 1 then 1 else tF T) * MR T (stm N) (tP T - (n + 1)) (n + 1) := by
        rw [show tP T - n = (tP T - (n + 1)) + 1 by omega]
        simp only [MR]
      generalize hMM : MR T (stm N) (tP T - (n + 1)) (n + 1) = M at eM
      have hlb : row / M ≤ row := Nat.div_le_self _ _
      have hN1 : ∀ p, p < tP T → (up S1 17 n (-5)).1 8 p = mdO (nO N p) := fun p hp => by rw [up_oc (by decide), hF.c 8]; exact hN p hp
      rw [e0]
      refine q_iload_n hC dX10_lays_9 ?_
      refine q_if_lt hC 54 dX10_lays_10 (by decide) (fun hz => absurd hz (nI_pos (by omega))) (fun hb => ?_)
      refine q_aload_n hC dX10_lays_13 ?_
      refine q_getR hC (by first | assumption | rfl) flX10_58 dX10_lays_14 ?_
      refine q_iload_n hC dX10_lays_17 ?_
      refine q_bipush (v := (-5)) hC dX10_lays_18 (by decide) ?_
      refine q_iastn hC (by first | assumption | rfl) (by first | assumption | omega) dX10_lays_20 ?_
      refine q_aload_n hC dX10_lays_21 ?_
      refine q_iload_n hC dX10_lays_22 ?_
      refine q_calliV1 hC (by first | assumption | rfl) cvX10_170 dX10_lays_23 (m_isStone θ _ n T N hok hNo hN1 (by omega)) (by decide) (fun r1 S2 hr1 => ?_)
      obtain ⟨rfl, hS⟩ := hr1
      subst hS
      by_cases h5 : nO N n = 5
      · rw [if_pos h5]
        rw [if_pos ((bit_st hn8).mpr h5), Nat.one_mul] at eM
        refine q_if_ne hC 48 dX10_lays_26 (by decide) (fun hb => ?_) (fun hz => absurd hz (by first | decide | exact (show ¬ nI 1 = 0 by decide)))
        refine q_iinc_3 (v := nI n - nI 1) hC dX10_lays_48 ?_ ?_
        · rw [Int32.sub_eq_add_neg]; rfl
        refine q_goto hC 9 dX10_lays_51 (by decide) ?_
        have := ih (up S1 17 n (-5)) (by omega) (hF.trans Fr.u1) (fun p h1 h2 => by
          by_cases e : p = n
          · subst e; rw [up_s]; unfold tlA; rw [if_pos ((bit_st hn8).mpr h5)]
          · rw [up_of e]; exact hL p (by omega) h2)
        rw [eM] at this
        exact this
      · have hF0' := hF0 n (by omega) h5
        rw [if_neg h5]
        rw [if_neg (fun z => h5 ((bit_st hn8).mp z))] at eM
        have eD : row / M / tF T = row / (tF T * M) := by rw [Nat.div_div_eq_div_mul, Nat.mul_comm]
        have hT2 : (up S1 17 n (-5)).1 0 6 = nI (tF T) := by rw [up_oc (by decide), hF.c 0]; exact hT.2.1
        refine q_if_ne hC 48 dX10_lays_26 (by decide) (fun hz => absurd hz (by first | decide | exact (show ¬ nI 1 = 0 by decide))) (fun hb => ?_)
        refine q_aload_n hC dX10_lays_29 ?_
        refine q_getR hC (by first | assumption | rfl) flX10_58 dX10_lays_30 ?_
        refine q_iload_n hC dX10_lays_33 ?_
        refine q_iload_n hC dX10_lays_34 ?_
        refine q_aload_n hC dX10_lays_35 ?_
        refine q_getI hC (by first | assumption | rfl) flX10_75 dX10_lays_36 ?_
        rw [hT2]
        refine q_irem hC dX10_lays_39 (nI_ne0 hF0' (by omega)) ?_
        rw [pk_rem (by omega) hF0' (by omega)]
        refine q_iastn hC (by first | assumption | rfl) (by first | assumption | omega) dX10_lays_40 ?_
        refine q_iload_n hC dX10_lays_41 ?_
        refine q_aload_n hC dX10_lays_42 ?_
        refine q_getI hC (by first | assumption | rfl) flX10_75 dX10_lays_43 ?_
        rw [up_oc (by decide), hT2]
        refine q_idiv hC dX10_lays_46 (nI_ne0 hF0' (by omega)) ?_
        rw [pk_div (by omega) hF0' (by omega), eD]
        refine q_istore_2 hC dX10_lays_47 ?_
        refine q_iinc_3 (v := nI n - nI 1) hC dX10_lays_48 ?_ ?_
        · rw [Int32.sub_eq_add_neg]; rfl
        refine q_goto hC 9 dX10_lays_51 (by decide) ?_
        have := ih (up (up S1 17 n (-5)) 17 n (nI (row / M % tF T))) (by omega) (hF.trans (Fr.u1.trans Fr.u1)) (fun p h1 h2 => by
          by_cases e : p = n
          · subst e; rw [up_s]; unfold tlA; rw [if_neg (fun z => h5 ((bit_st hn8).mp z))]; unfold dA; rw [hMM]
          · rw [up_of e, up_of e]; exact hL p (by omega) h2)
        rw [eM] at this
        exact this
  refine q_iload_n hC dX10_lays_0 ?_
  refine q_istore_2 hC dX10_lays_1 ?_
  refine q_aload_n hC dX10_lays_2 ?_
  refine q_getI hC (by first | assumption | rfl) flX10_67 dX10_lays_3 ?_
  rw [hT.1]
  refine q_iconst (v := nI 1) hC dX10_lays_6 (by decide) ?_
  refine q_isub hC dX10_lays_7 ?_
  refine q_istore_3 hC dX10_lays_8 ?_
  have := loop (tP T) S (Nat.le_refl _) Fr.rfl' (fun p h1 h2 => by omega)
  rw [Nat.sub_self] at this
  have e1 : row / MR T (stm N) 0 (tP T) = row := Nat.div_one row
  rw [e1] at this
  exact this
/-- who has what by a row -/
def gA (T : Tn) (st row p f : Nat) : Nat := msk (fun q => decide (¬ st / 2 ^ q % 2 = 1 ∧ dA T st row q = f)) p
theorem gA_lt (T : Tn) (st row f : Nat) (h8 : tP T ≤ 8) : gA T st row (tP T) f < 256 := by
  have h1 := msk_lt (fun q => decide (¬ st / 2 ^ q % 2 = 1 ∧ dA T st row q = f)) (tP T)
  have h2 : 2 ^ tP T ≤ 2 ^ 8 := Nat.pow_le_pow_right (by omega) h8
  unfold gA; omega
theorem gA_lt' (T : Tn) (st row f : Nat) : gA T st row (tP T) f < 2 ^ tP T := msk_lt _ _
theorem msk_succ (g : Nat → Bool) (n : Nat) : msk g (n + 1) = if g n = true then msk g n ||| 2 ^ n else msk g n := by
  apply Nat.eq_of_testBit_eq
  intro i
  rw [msk_tb]
  by_cases hg : g n = true
  · rw [if_pos hg, Nat.testBit_or, msk_tb, Nat.testBit_two_pow]
    by_cases e : n = i
    · subst e; simp [hg]
    · have : decide (i < n + 1) = decide (i < n) := decide_eq_decide.mpr (by omega)
      simp [this, e]
  · rw [if_neg hg, msk_tb]
    by_cases e : n = i
    · subst e
      have : g n = false := by cases h : g n with
        | false => rfl
        | true => exact absurd h hg
      simp [this]
    · have : decide (i < n + 1) = decide (i < n) := decide_eq_decide.mpr (by omega)
      rw [this]
theorem gA_s {T : Tn} {st row p : Nat} (h : st / 2 ^ p % 2 = 1) : gA T st row (p + 1) = gA T st row p := by
  funext f
  unfold gA
  rw [msk_succ, if_neg (by simp [h])]
theorem gA_n {T : Tn} {st row p : Nat} (h : ¬ st / 2 ^ p % 2 = 1) : gA T st row (p + 1) = gvU (gA T st row p) (dA T st row p) p := by
  funext f
  unfold gvU
  by_cases e : f = dA T st row p
  · rw [e, upN_s]
    unfold gA
    rw [msk_succ, if_pos (by simp [h])]
  · rw [upN_o e]
    unfold gA
    rw [msk_succ, if_neg]
    intro z
    have z2 : ¬ st / 2 ^ p % 2 = 1 ∧ dA T st row p = f := of_decide_eq_true z
    exact e z2.2.symm
theorem WA_row (T : Tn) (st row : Nat) : ∀ k p, p + k = tP T → WA T st k p (gA T st row p) (row % MR T st k p) = cstS T (gA T st row (tP T)) (tF T)
  | 0, p, hp => by
    rw [show p = tP T by omega]; rfl
  | k + 1, p, hp => by
    have ih := WA_row T st row k (p + 1) (by omega)
    by_cases h : st / 2 ^ p % 2 = 1
    · have eM : MR T st (k + 1) p = MR T st k (p + 1) := by simp only [MR]; rw [if_pos h, Nat.one_mul]
      rw [eM]
      simp only [WA]
      rw [if_pos h, ← gA_s h]; exact ih
    · have eM : MR T st (k + 1) p = tF T * MR T st k (p + 1) := by simp only [MR]; rw [if_neg h]
      have e1 : row % (tF T * MR T st k (p + 1)) / MR T st k (p + 1) = dA T st row p := by
        rw [Nat.mod_mul_left_div_self]
        unfold dA
        rw [show tP T - (p + 1) = k by omega]
      have e2 : row % (tF T * MR T st k (p + 1)) % MR T st k (p + 1) = row % MR T st k (p + 1) := Nat.mod_mul_left_mod _ _ _
      rw [eM]
      simp only [WA]
      rw [if_neg h, e1, e2, ← gA_n h]; exact ih
theorem tlA_eq {T : Tn} {st row q f : Nat} (h4 : tF T ≤ 4) (hf : f < 4) (h0 : ¬ st / 2 ^ q % 2 = 1 → 0 < tF T) : (tlA T st row q = nI f) ↔ (¬ st / 2 ^ q % 2 = 1 ∧ dA T st row q = f) := by
  unfold tlA
  by_cases h : st / 2 ^ q % 2 = 1
  · rw [if_pos h]
    have : ∀ f, f < 4 → ¬ (-5 : Int32) = nI f := by decide
    exact ⟨fun z => absurd z (this f hf), fun z => absurd h z.1⟩
  · rw [if_neg h]
    have hd : dA T st row q < tF T := Nat.mod_lt _ (h0 h)
    rw [nI_eq (by omega) (by omega)]
    exact ⟨fun z => ⟨h, z⟩, fun z => z.2⟩
theorem MR_pos {T : Tn} {st row : Nat} (hr : row < MR T st (tP T) 0) {q : Nat} (hq : q < tP T) (h : ¬ st / 2 ^ q % 2 = 1) : 0 < tF T := by
  rcases Nat.eq_zero_or_pos (tF T) with z | z
  · rw [MR_F z (tP T) 0 q (by omega) (by omega) h] at hr; omega
  · exact z
theorem m_ownTold (θ : Site) (S : St) (row f : Nat) (T : Tn) (st : Nat) (hok : TnOk T) (hT : S.1 0 2 = nI (tP T)) (hr : row < MR T st (tP T) 0) (hL : ∀ p, p < tP T → S.1 17 p = tlA T st row p) (hf : f < tF T) : Cti yX10_ownBy cX10_ownBy 5 (some .int) 0 θ shM [.ref (sA θ 0), .ref (sA θ 17), .int (nI f)] S (fun r S' => r = nI (gA T st row (tP T) f) ∧ S' = S) := by
  have h4 := hok.2.1
  have e : msk (fun p => decide (S.1 17 p = nI f)) (tP T) = gA T st row (tP T) f := by
    unfold gA
    exact msk_congr (fun p hp => by rw [hL p hp]; exact decide_eq_decide.mpr (tlA_eq h4 (by omega) (MR_pos hr hp)))
  rw [← e]
  exact m_ownBy θ S 17 (nI f) T hok hT rfl
theorem cst_fin {T : Tn} (hT : TnOk T) (gv : Nat → Nat) : ∀ n, n ≤ tF T → (∀ g, g < n → yd T g (gv g) < 100000) → cstS T gv n ≤ 21645 * n
  | 0, _, _ => Nat.le_refl _
  | n + 1, hn, h => by
    have ih := cst_fin hT gv n (by omega) (fun g hg => h g (by omega))
    have h1 := yd_bd hT n (gv n)
    have h2 := h n (by omega)
    have h3 := (hT.2.2.2 n (by omega)).2.2.2
    have h4 : yd T n (gv n) * tN T n ≤ 2405 * 9 := Nat.mul_le_mul (by omega) h3
    simp only [cstS]; omega
theorem m_all (θ : Site) (S : St) (L : Nat) (x : Nat → Nat) (T : Tn) (N : Nw) (im : Nat → Option Nw) (tr : Int64) (hA : AOk T N im) (hR : RM S L x T N im tr) (p : Int32) : Cti yX10_all cX10_all 8 (some .int) 20 θ shM [.ref (sA θ 0), .int p] S (fun r S' => r = aVal T N p ∧ RM S' L x T N im tr) := by
  obtain ⟨hok, hNo, hIm⟩ := hA
  have hR' := hR
  obtain ⟨hx, hT, hN, hI, htr⟩ := hR
  have h8 := hok.1
  have hF4 := hok.2.1
  refine Cti.mk (own := RX10) 6 [some (.ref (sA θ 0)), some (.int p), none, none, none, none, none, none] (fun K hC => ?_)
  refine q_iload_n hC dX10_all_0 ?_
  refine q_i2l hC dX10_all_1 ?_
  refine q_ldc2 hC klX10_109 dX10_all_2 ?_
  refine q_aload_n hC dX10_all_5 ?_
  refine q_getI hC (by first | assumption | rfl) flX10_67 dX10_all_6 ?_
  rw [hT.1]
  refine q_iconst (v := nI 1) hC dX10_all_9 (by decide) ?_
  refine q_isub hC dX10_all_10 ?_
  refine q_i2l hC dX10_all_11 ?_
  refine q_calliS3 hC csX10_71 dX10_all_12 (m_in θ _ _ _ _) (by decide) (fun r S1 hr => ?_)
  obtain ⟨rfl, hS⟩ := hr
  have hS := hS.symm
  subst hS
  have hio := in_m1 (x := p) (n := tP T) (by omega)
  by_cases hp : p = -1 ∨ (ixN p (tP T)).isSome = true
  · rw [if_pos (hio.mpr hp)]
    have esp : aVal T N p = if (mA T (stm N)).1 < 100000 then (if p < 0 then nI (mA T (stm N)).1 else tlA T (stm N) (mA T (stm N)).2 p.toNatClampNeg) else -9 := by
      unfold aVal
      rw [if_pos hp]
    refine q_if_ne hC 20 dX10_all_15 (by decide) (fun hb => ?_) (fun hz => absurd hz (by first | decide | exact (show ¬ nI 1 = 0 by decide)))
    refine q_aload_n hC dX10_all_20 ?_
    refine q_callvV0 hC (by first | assumption | rfl) cvX10_200 dX10_all_21 (m_tells θ _ T hok hT) (by decide) (fun S0 hr0 => ?_)
    obtain ⟨hF0, hTl0⟩ := hr0
    have hF0' := hF0.mono (M := [14, 15, 16, 17]) (by decide)
    have rm : ∀ S1, Fr S S1 [14, 15, 16, 17] → RM S1 L x T N im tr := fun S1 hF => hR'.fr (hF.mono (by decide))
    have hR0 := rm S0 hF0'
    have hMle : MR T (stm N) (tP T) 0 ≤ 65536 := by
      have h1 := MR_le T (stm N) hF4 (tP T) 0
      have h2 : 4 ^ tP T ≤ 4 ^ 8 := Nat.pow_le_pow_right (by omega) h8
      have h3 : 4 ^ 8 = 65536 := by decide
      omega
    have rows : ∀ n row S1 l5 l6 l7, row + n = MR T (stm N) (tP T) 0 → Fr S S1 [14, 15, 16, 17] → TlR S1 T → ((fdl (mnF (WA T (stm N) (tP T) 0 (fun _ => 0)) 0) row (100000, 0)).1 < 100000 → ∀ j, j < tP T → S1.1 16 j = tlA T (stm N) (fdl (mnF (WA T (stm N) (tP T) 0 (fun _ => 0)) 0) row (100000, 0)).2 j) → K 35 [some (.ref (sA θ 0)), some (.int (p)), some (.int (orN (fdl (mnF (WA T (stm N) (tP T) 0 (fun _ => 0)) 0) row (100000, 0)).1)), some (.int (nI (MR T (stm N) (tP T) 0))), some (.int (nI row)), l5, l6, l7] [] S1 := by
      intro n
      induction n with
      | zero =>
        intro row S1 l5 l6 l7 hr hF hTl hB
        have e : row = MR T (stm N) (tP T) 0 := by omega
        subst e
        have em : fdl (mnF (WA T (stm N) (tP T) 0 (fun _ => 0)) 0) (MR T (stm N) (tP T) 0) (100000, 0) = mA T (stm N) := rfl
        rw [em] at hB ⊢
        refine q_iload hC dX10_all_35 ?_
        refine q_iload_n hC dX10_all_37 ?_
        refine q_icmp_ge hC 189 dX10_all_38 (by decide) (fun hb => ?_) (fun hz => absurd hz (fun z => z (nI_le (Nat.le_refl _) (by omega))))
        by_cases hm : (mA T (stm N)).1 < 100000
        · rw [if_pos hm] at esp
          rw [orN_lt hm]
          refine q_iload_n hC dX10_all_189 ?_
          refine q_bipush (v := (-9)) hC dX10_all_190 (by decide) ?_
          refine q_icmp_eq hC 199 dX10_all_192 (by decide) (fun hz => absurd hz (nI_n9 (by omega))) (fun hb => ?_)
          refine q_iload_n hC dX10_all_195 ?_
          refine q_if_ge hC 203 dX10_all_196 (by decide) (fun hc => ?_) (fun hc => ?_)
          · have h0 : ¬ p < 0 := Int32.not_lt.mpr hc
            rw [if_neg h0] at esp
            have hlt := neg1_or (by omega) hp h0
            obtain ⟨j, hj, rfl⟩ := nI_of h0
            have hcl : (nI j).toNatClampNeg = j := by
              have := nI_toInt hj
              show (nI j).toInt.toNat = j
              omega
            rw [hcl] at hlt esp
            have hj8 : j < 8 := by omega
            refine q_aload_n hC dX10_all_203 ?_
            refine q_getR hC (by first | assumption | rfl) flX10_55 dX10_all_204 ?_
            refine q_iload_n hC dX10_all_207 ?_
            refine q_ialdn hC (by first | assumption | rfl) (by first | assumption | omega) dX10_all_208 ?_
            rw [hB hm j hlt]
            refine q_iret hC dX10_all_209 ?_
            exact ⟨esp.symm, rm S1 hF⟩
          · rw [if_pos (Int32.not_le.mp hc)] at esp
            refine q_iload_n hC dX10_all_199 ?_
            refine q_goto hC 209 dX10_all_200 (by decide) ?_
            refine q_iret hC dX10_all_209 ?_
            exact ⟨esp.symm, rm S1 hF⟩
        · rw [if_neg hm] at esp
          rw [orN_ge hm]
          refine q_iload_n hC dX10_all_189 ?_
          refine q_bipush (v := (-9)) hC dX10_all_190 (by decide) ?_
          refine q_icmp_eq hC 199 dX10_all_192 (by decide) (fun hb => ?_) (fun hz => absurd hz (by first | decide | exact (show ¬ nI 1 = 0 by decide)))
          refine q_iload_n hC dX10_all_199 ?_
          refine q_goto hC 209 dX10_all_200 (by decide) ?_
          refine q_iret hC dX10_all_209 ?_
          exact ⟨esp.symm, rm S1 hF⟩
      | succ n ih =>
        intro row S1 l5 l6 l7 hr hF hTl hB
        have hR1 := rm S1 hF
        have hrow : row < MR T (stm N) (tP T) 0 := by omega
        have hml := mnF_le (W := WA T (stm N) (tP T) 0 (fun _ => 0)) (off := 0) row (100000, 0) (Nat.le_refl _)
        have hnext : fdl (mnF (WA T (stm N) (tP T) 0 (fun _ => 0)) 0) (row + 1) (100000, 0) = mnF (WA T (stm N) (tP T) 0 (fun _ => 0)) 0 row (fdl (mnF (WA T (stm N) (tP T) 0 (fun _ => 0)) 0) row (100000, 0)) := rfl
        generalize fdl (mnF (WA T (stm N) (tP T) 0 (fun _ => 0)) 0) row (100000, 0) = m at hml hnext hB
        have hWA : WA T (stm N) (tP T) 0 (fun _ => 0) row = cstS T (gA T (stm N) row (tP T)) (tF T) := by
          have := WA_row T (stm N) row (tP T) 0 (by omega)
          rw [Nat.mod_eq_of_lt hrow] at this
          exact this
        refine q_iload hC dX10_all_35 ?_
        refine q_iload_n hC dX10_all_37 ?_
        refine q_icmp_ge hC 189 dX10_all_38 (by decide) (fun hz => absurd hz (fun z => by have := (nI_leI (by omega) (by omega)).mp z; omega)) (fun hb => ?_)
        refine q_aload_n hC dX10_all_41 ?_
        refine q_iload hC dX10_all_42 ?_
        refine q_callvV1 hC (by first | assumption | rfl) cvX10_209 dX10_all_44 (m_lays θ _ row T N hok hNo hR1.2.1 (fun p hp => (hR1.2.2.1.1 p hp).1) hrow) (by decide) (fun S2 hr2 => ?_)
        obtain ⟨hF2, hL2⟩ := hr2
        have hF2' := hF.trans (hF2.mono (M := [14, 15, 16, 17]) (by decide))
        have hR2 := rm S2 hF2'
        have hTl2 : TlR S2 T := fun g hg B hB => by rw [hF2.c 15]; exact hTl g hg B hB
        have hB2 : m.1 < 100000 → ∀ j, j < tP T → S2.1 16 j = tlA T (stm N) m.2 j := fun h j hj => by rw [hF2.c 16]; exact hB h j hj
        have skip : ∀ l5 l6 l7, m.1 ≤ cstS T (gA T (stm N) row (tP T)) (tF T) → K 183 [some (.ref (sA θ 0)), some (.int (p)), some (.int (orN m.1)), some (.int (nI (MR T (stm N) (tP T) 0))), some (.int (nI row)), l5, l6, l7] [] S2 := by
          intro l5 l6 l7 hge
          have e : mnF (WA T (stm N) (tP T) 0 (fun _ => 0)) 0 row m = m := by unfold mnF; rw [if_neg (by omega)]
          rw [e] at hnext
          refine q_inc1_4 hC dX10_all_183 ?_
          refine q_goto hC 35 dX10_all_186 (by decide) ?_
          have := ih (row + 1) S2 l5 l6 l7 (by omega) hF2' hTl2
          rw [hnext] at this
          exact this hB2
        have take : ∀ sm l6 l7, cstS T (gA T (stm N) row (tP T)) (tF T) = sm → sm < m.1 → K 148 [some (.ref (sA θ 0)), some (.int (p)), some (.int (orN m.1)), some (.int (nI (MR T (stm N) (tP T) 0))), some (.int (nI row)), some (.int (nI sm)), l6, l7] [] S2 := by
          intro sm l6 l7 hW hlt
          have e : mnF (WA T (stm N) (tP T) 0 (fun _ => 0)) 0 row m = (sm, 0 + row) := by unfold mnF; rw [if_pos (by omega), hWA, hW]
          rw [e, Nat.zero_add] at hnext
          have cpy : ∀ k j S3 l7, j + k = tP T → Fr S2 S3 [16] → (∀ y, y < j → S3.1 16 y = tlA T (stm N) row y) → K 154 [some (.ref (sA θ 0)), some (.int (p)), some (.int (nI sm)), some (.int (nI (MR T (stm N) (tP T) 0))), some (.int (nI row)), some (.int (nI sm)), some (.int (nI j)), l7] [] S3 := by
            intro k
            induction k with
            | zero =>
              intro j S3 l7 hj hF3 hd
              have e : j = tP T := by omega
              subst e
              have hF3' := hF2'.trans (hF3.mono (M := [14, 15, 16, 17]) (by decide))
              refine q_iload hC dX10_all_154 ?_
              refine q_aload_n hC dX10_all_156 ?_
              refine q_getI hC (by first | assumption | rfl) flX10_67 dX10_all_157 ?_
              rw [(rm S3 hF3').2.1.1]
              refine q_icmp_ge hC 183 dX10_all_160 (by decide) (fun hb => ?_) (fun hz => absurd hz (fun z => z (nI_le (Nat.le_refl _) (by omega))))
              refine q_inc1_4 hC dX10_all_183 ?_
              refine q_goto hC 35 dX10_all_186 (by decide) ?_
              have := ih (row + 1) S3 (some (.int (nI sm))) (some (.int (nI (tP T)))) l7 (by omega) hF3' (fun g hg B hB => by rw [hF3.c 15]; exact hTl2 g hg B hB)
              rw [hnext] at this
              have h2 := this (fun _ => hd)
              rw [orN_lt (show sm < 100000 by omega)] at h2
              exact h2
            | succ k ihc =>
              intro j S3 l7 hj hF3 hd
              have hj8 : j < 8 := by omega
              have hF3' := hF2'.trans (hF3.mono (M := [14, 15, 16, 17]) (by decide))
              refine q_iload hC dX10_all_154 ?_
              refine q_aload_n hC dX10_all_156 ?_
              refine q_getI hC (by first | assumption | rfl) flX10_67 dX10_all_157 ?_
              rw [(rm S3 hF3').2.1.1]
              refine q_icmp_ge hC 183 dX10_all_160 (by decide) (fun hz => absurd hz (fun z => by have := (nI_leI (by omega) (by omega)).mp z; omega)) (fun hb => ?_)
              refine q_aload_n hC dX10_all_163 ?_
              refine q_getR hC (by first | assumption | rfl) flX10_55 dX10_all_164 ?_
              refine q_iload hC dX10_all_167 ?_
              refine q_aload_n hC dX10_all_169 ?_
              refine q_getR hC (by first | assumption | rfl) flX10_58 dX10_all_170 ?_
              refine q_iload hC dX10_all_173 ?_
              refine q_ialdn hC (by first | assumption | rfl) (by first | assumption | omega) dX10_all_175 ?_
              rw [hF3.c 17, hL2 j (by omega)]
              refine q_iastn hC (by first | assumption | rfl) (by first | assumption | omega) dX10_all_176 ?_
              refine q_inc1_6 hC dX10_all_177 ?_
              refine q_goto hC 154 dX10_all_180 (by decide) ?_
              refine ihc (j + 1) _ _ (by omega) (hF3.trans Fr.u1) (fun y hy => ?_)
              by_cases e : y = j
              · subst e; rw [up_s]
              · rw [up_of e]; exact hd y (by omega)
          refine q_iload hC dX10_all_148 ?_
          refine q_istore_2 hC dX10_all_150 ?_
          refine q_iconst (v := nI 0) hC dX10_all_151 (by decide) ?_
          refine q_istore_6 hC dX10_all_152 ?_
          exact cpy (tP T) 0 S2 _ (by omega) Fr.rfl' (fun y hy => by omega)
        have fams : ∀ k f l7, f + k = tF T → (∀ g, g < f → yd T g (gA T (stm N) row (tP T) g) < 100000) → K 53 [some (.ref (sA θ 0)), some (.int (p)), some (.int (orN m.1)), some (.int (nI (MR T (stm N) (tP T) 0))), some (.int (nI row)), some (.int (nI (cstS T (gA T (stm N) row (tP T)) f))), some (.int (nI f)), l7] [] S2 := by
          intro k
          induction k with
          | zero =>
            intro f l7 hf hall
            have e : f = tF T := by omega
            subst e
            have hb := cst_fin hok (gA T (stm N) row (tP T)) (tF T) (Nat.le_refl _) hall
            refine q_iload hC dX10_all_53 ?_
            refine q_aload_n hC dX10_all_55 ?_
            refine q_getI hC (by first | assumption | rfl) flX10_75 dX10_all_56 ?_
            rw [hR2.2.1.2.1]
            refine q_icmp_ge hC 126 dX10_all_59 (by decide) (fun hb => ?_) (fun hz => absurd hz (fun z => z (nI_le (Nat.le_refl _) (by omega))))
            refine q_iload hC dX10_all_126 ?_
            refine q_bipush (v := (-9)) hC dX10_all_128 (by decide) ?_
            refine q_icmp_eq hC 183 dX10_all_130 (by decide) (fun hz => absurd hz (nI_n9 (by omega))) (fun hb => ?_)
            by_cases hm : m.1 < 100000
            · by_cases hlt : cstS T (gA T (stm N) row (tP T)) (tF T) < m.1
              · rw [orN_lt hm]
                refine q_iload_n hC dX10_all_133 ?_
                refine q_bipush (v := (-9)) hC dX10_all_134 (by decide) ?_
                refine q_icmp_eq hC 148 dX10_all_136 (by decide) (fun hz => absurd hz (nI_n9 (by omega))) (fun hb => ?_)
                refine q_iload hC dX10_all_139 ?_
                refine q_iload_n hC dX10_all_141 ?_
                refine q_icmp_lt hC 148 dX10_all_142 (by decide) (fun hb => ?_) (fun hz => absurd hz (fun z => z (nI_lt hlt (by omega))))
                rw [← orN_lt hm]
                exact take _ _ _ rfl hlt
              · rw [orN_lt hm]
                refine q_iload_n hC dX10_all_133 ?_
                refine q_bipush (v := (-9)) hC dX10_all_134 (by decide) ?_
                refine q_icmp_eq hC 148 dX10_all_136 (by decide) (fun hz => absurd hz (nI_n9 (by omega))) (fun hb => ?_)
                refine q_iload hC dX10_all_139 ?_
                refine q_iload_n hC dX10_all_141 ?_
                refine q_icmp_lt hC 148 dX10_all_142 (by decide) (fun hz => absurd hz (fun z => hlt ((nI_ltI (by omega) (by omega)).mp z))) (fun hb => ?_)
                refine q_goto hC 183 dX10_all_145 (by decide) ?_
                rw [← orN_lt hm]
                exact skip _ _ _ (by omega)
            · rw [orN_ge hm]
              refine q_iload_n hC dX10_all_133 ?_
              refine q_bipush (v := (-9)) hC dX10_all_134 (by decide) ?_
              refine q_icmp_eq hC 148 dX10_all_136 (by decide) (fun hb => ?_) (fun hz => absurd hz (by first | decide | exact (show ¬ nI 1 = 0 by decide)))
              rw [← orN_ge hm]
              exact take _ _ _ rfl (by omega)
          | succ k ihf =>
            intro f l7 hf hall
            have hf4 : f < 4 := by omega
            have hb := cst_fin hok (gA T (stm N) row (tP T)) f (by omega) hall
            have hgl := gA_lt T (stm N) row f h8
            have hgl' := gA_lt' T (stm N) row f
            refine q_iload hC dX10_all_53 ?_
            refine q_aload_n hC dX10_all_55 ?_
            refine q_getI hC (by first | assumption | rfl) flX10_75 dX10_all_56 ?_
            rw [hR2.2.1.2.1]
            refine q_icmp_ge hC 126 dX10_all_59 (by decide) (fun hz => absurd hz (fun z => by have := (nI_leI (by omega) (by omega)).mp z; omega)) (fun hb => ?_)
            refine q_iload hC dX10_all_62 ?_
            refine q_bipush (v := (-9)) hC dX10_all_64 (by decide) ?_
            refine q_icmp_eq hC 126 dX10_all_66 (by decide) (fun hz => absurd hz (nI_n9 (by omega))) (fun hb => ?_)
            refine q_aload_n hC dX10_all_69 ?_
            refine q_getR hC (by first | assumption | rfl) flX10_52 dX10_all_70 ?_
            refine q_sipush (v := nI 256) hC dX10_all_73 (by decide) ?_
            refine q_iload hC dX10_all_76 ?_
            refine q_imul hC dX10_all_78 ?_
            rw [pk_mul]
            refine q_aload_n hC dX10_all_79 ?_
            refine q_aload_n hC dX10_all_80 ?_
            refine q_getR hC (by first | assumption | rfl) flX10_58 dX10_all_81 ?_
            refine q_iload hC dX10_all_84 ?_
            refine q_calliV2 hC (by first | assumption | rfl) cvX10_178 dX10_all_86 (m_ownTold θ _ row f T (stm N) hok hR2.2.1.1 hrow hL2 (by omega)) (by decide) (fun r9 S9 hr9 => ?_)
            obtain ⟨rfl, hS9⟩ := hr9
            have hS9 := hS9.symm
            subst hS9
            refine q_iadd hC dX10_all_89 ?_
            rw [nI_add]
            refine q_ialdn hC (by first | assumption | rfl) (by first | assumption | omega) dX10_all_90 ?_
            rw [hTl2 f (by omega) _ hgl']
            by_cases hy : yd T f (gA T (stm N) row (tP T) f) < 100000
            · rw [orN_lt hy]
              refine q_istore_7 hC dX10_all_91 ?_
              refine q_iload hC dX10_all_93 ?_
              refine q_bipush (v := (-9)) hC dX10_all_95 (by decide) ?_
              refine q_icmp_ne hC 105 dX10_all_97 (by decide) (fun hb => ?_) (fun hz => absurd hz (nI_n9 (by omega)))
              refine q_iload hC dX10_all_105 ?_
              refine q_iload hC dX10_all_107 ?_
              refine q_aload_n hC dX10_all_109 ?_
              refine q_getR hC (by first | assumption | rfl) flX10_28 dX10_all_110 ?_
              refine q_iload hC dX10_all_113 ?_
              refine q_ialdn hC (by first | assumption | rfl) (by first | assumption | omega) dX10_all_115 ?_
              rw [(hR2.2.1.2.2.2 f (by omega)).2.2]
              refine q_imul hC dX10_all_116 ?_
              rw [pk_mul]
              refine q_iadd hC dX10_all_117 ?_
              rw [nI_add]
              refine q_istore_5 hC dX10_all_118 ?_
              refine q_inc1_6 hC dX10_all_120 ?_
              refine q_goto hC 53 dX10_all_123 (by decide) ?_
              refine ihf (f + 1) _ (by omega) (fun g hg => ?_)
              by_cases e : g = f
              · subst e; exact hy
              · exact hall g (by omega)
            · have hge : 100000 ≤ cstS T (gA T (stm N) row (tP T)) (tF T) := by
                have h1 := cst_mem T (gA T (stm N) row (tP T)) (tF T) f (by omega)
                have h3 := (hok.2.2.2 f (by omega)).2.2.1
                have h4 : 100000 * 1 ≤ yd T f (gA T (stm N) row (tP T) f) * tN T f := Nat.mul_le_mul (by omega) h3
                omega
              rw [orN_ge hy]
              refine q_istore_7 hC dX10_all_91 ?_
              refine q_iload hC dX10_all_93 ?_
              refine q_bipush (v := (-9)) hC dX10_all_95 (by decide) ?_
              refine q_icmp_ne hC 105 dX10_all_97 (by decide) (fun hz => absurd hz (by first | decide | exact (show ¬ nI 1 = 0 by decide))) (fun hb => ?_)
              refine q_bipush (v := (-9)) hC dX10_all_100 (by decide) ?_
              refine q_goto hC 118 dX10_all_102 (by decide) ?_
              refine q_istore_5 hC dX10_all_118 ?_
              refine q_inc1_6 hC dX10_all_120 ?_
              refine q_goto hC 53 dX10_all_123 (by decide) ?_
              refine q_iload hC dX10_all_53 ?_
              refine q_aload_n hC dX10_all_55 ?_
              refine q_getI hC (by first | assumption | rfl) flX10_75 dX10_all_56 ?_
              rw [hR2.2.1.2.1]
              refine q_icmp_ge hC 126 dX10_all_59 (by decide) (fun hc => ?_) (fun hc => ?_)
              · refine q_iload hC dX10_all_126 ?_
                refine q_bipush (v := (-9)) hC dX10_all_128 (by decide) ?_
                refine q_icmp_eq hC 183 dX10_all_130 (by decide) (fun hb => ?_) (fun hz => absurd hz (by first | decide | exact (show ¬ nI 1 = 0 by decide)))
                exact skip _ _ _ (by omega)
              · refine q_iload hC dX10_all_62 ?_
                refine q_bipush (v := (-9)) hC dX10_all_64 (by decide) ?_
                refine q_icmp_eq hC 126 dX10_all_66 (by decide) (fun hb => ?_) (fun hz => absurd hz (by first | decide | exact (show ¬ nI 1 = 0 by decide)))
                refine q_iload hC dX10_all_126 ?_
                refine q_bipush (v := (-9)) hC dX10_all_128 (by decide) ?_
                refine q_icmp_eq hC 183 dX10_all_130 (by decide) (fun hb => ?_) (fun hz => absurd hz (by first | decide | exact (show ¬ nI 1 = 0 by decide)))
                exact skip _ _ _ (by omega)
        refine q_iconst (v := nI 0) hC dX10_all_47 (by decide) ?_
        refine q_istore_5 hC dX10_all_48 ?_
        refine q_iconst (v := nI 0) hC dX10_all_50 (by decide) ?_
        refine q_istore_6 hC dX10_all_51 ?_
        exact fams (tF T) 0 _ (by omega) (fun g hg => by omega)
    refine q_bipush (v := (-9)) hC dX10_all_24 (by decide) ?_
    refine q_istore_2 hC dX10_all_26 ?_
    refine q_aload_n hC dX10_all_27 ?_
    refine q_calliV0 hC (by first | assumption | rfl) cvX10_206 dX10_all_28 (m_rowsOfAll θ _ T N hok hNo hR0.2.1 (fun p hp => (hR0.2.2.1.1 p hp).1)) (by decide) (fun r1 S1 hr1 => ?_)
    obtain ⟨rfl, hS1⟩ := hr1
    have hS1 := hS1.symm
    subst hS1
    refine q_istore_3 hC dX10_all_31 ?_
    refine q_iconst (v := nI 0) hC dX10_all_32 (by decide) ?_
    refine q_istore_4 hC dX10_all_33 ?_
    exact rows (MR T (stm N) (tP T) 0) 0 S0 _ _ _ (by omega) hF0' hTl0 (fun z => absurd z (show ¬ 100000 < 100000 by decide))
  · rw [if_neg (fun z => hp (hio.mp z))]
    refine q_if_ne hC 20 dX10_all_15 (by decide) (fun hz => absurd hz (by first | decide | exact (show ¬ nI 1 = 0 by decide))) (fun hb => ?_)
    refine q_iconst (v := (-1)) hC dX10_all_18 (by decide) ?_
    refine q_iret hC dX10_all_19 ?_
    exact ⟨by unfold aVal; rw [if_neg hp], hR'⟩
