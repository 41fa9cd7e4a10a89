/-! ===== chances: made small (pure), and shut of the reference ===== -/
def RI (u D n m : Nat) (z : Nat × Nat) : Prop := ∃ c, 0 < c ∧ z.1 * c = u ∧ z.2 * c = D ∧ (¬ (z.1 % 2 = 0 ∧ z.2 % 2 = 0) ∨ 2 ^ n * z.2 ∣ D) ∧ (¬ (z.1 % 5 = 0 ∧ z.2 % 5 = 0) ∨ 5 ^ m * z.2 ∣ D)
theorem RI_2 {u D n m : Nat} {z : Nat × Nat} (h : RI u D n m z) : RI u D (n + 1) m (dvB 2 z) := by
  obtain ⟨c, h0, h1, h2, h3, h4⟩ := h
  unfold dvB
  by_cases hc : z.1 % 2 = 0 ∧ z.2 % 2 = 0
  · rw [if_pos hc]
    have e1 : z.1 = z.1 / 2 * 2 := by omega
    have e2 : z.2 = z.2 / 2 * 2 := by omega
    refine ⟨2 * c, by omega, ?_, ?_, Or.inr ?_, ?_⟩
    · show z.1 / 2 * (2 * c) = u
      rw [← Nat.mul_assoc, ← e1]; exact h1
    · show z.2 / 2 * (2 * c) = D
      rw [← Nat.mul_assoc, ← e2]; exact h2
    · show 2 ^ (n + 1) * (z.2 / 2) ∣ D
      have e3 : 2 ^ (n + 1) * (z.2 / 2) = 2 ^ n * z.2 := by
        rw [Nat.pow_succ, Nat.mul_assoc, Nat.mul_comm 2, ← e2]
      rw [e3]
      exact h3.resolve_left (fun w => w hc)
    · rcases h4 with h4 | h4
      · left
        intro w
        have w1 : z.1 / 2 % 5 = 0 := w.1
        have w2 : z.2 / 2 % 5 = 0 := w.2
        exact h4 ⟨by omega, by omega⟩
      · right
        exact Nat.dvd_trans (Nat.mul_dvd_mul_left _ ⟨2, e2⟩) h4
  · rw [if_neg hc]
    exact ⟨c, h0, h1, h2, Or.inl hc, h4⟩
theorem RI_5 {u D n m : Nat} {z : Nat × Nat} (h : RI u D n m z) : RI u D n (m + 1) (dvB 5 z) := by
  obtain ⟨c, h0, h1, h2, h3, h4⟩ := h
  unfold dvB
  by_cases hc : z.1 % 5 = 0 ∧ z.2 % 5 = 0
  · rw [if_pos hc]
    have e1 : z.1 = z.1 / 5 * 5 := by omega
    have e2 : z.2 = z.2 / 5 * 5 := by omega
    refine ⟨5 * c, by omega, ?_, ?_, ?_, Or.inr ?_⟩
    · show z.1 / 5 * (5 * c) = u
      rw [← Nat.mul_assoc, ← e1]; exact h1
    · show z.2 / 5 * (5 * c) = D
      rw [← Nat.mul_assoc, ← e2]; exact h2
    · rcases h3 with h3 | h3
      · left
        intro w
        have w1 : z.1 / 5 % 2 = 0 := w.1
        have w2 : z.2 / 5 % 2 = 0 := w.2
        exact h3 ⟨by omega, by omega⟩
      · right
        exact Nat.dvd_trans (Nat.mul_dvd_mul_left _ ⟨5, e2⟩) h3
    · show 5 ^ (m + 1) * (z.2 / 5) ∣ D
      have e3 : 5 ^ (m + 1) * (z.2 / 5) = 5 ^ m * z.2 := by
        rw [Nat.pow_succ, Nat.mul_assoc, Nat.mul_comm 5, ← e2]
      rw [e3]
      exact h4.resolve_left (fun w => w hc)
  · rw [if_neg hc]
    exact ⟨c, h0, h1, h2, h3, Or.inl hc⟩
theorem RI_n (u D : Nat) : ∀ n, RI u D n n (rdc n (u, D))
  | 0 => ⟨1, by omega, Nat.mul_one _, Nat.mul_one _, Or.inr (by rw [Nat.pow_zero, Nat.one_mul]; exact Nat.dvd_refl _), Or.inr (by rw [Nat.pow_zero, Nat.one_mul]; exact Nat.dvd_refl _)⟩
  | n + 1 => RI_5 (RI_2 (RI_n u D n))
theorem gcd10 {g : Nat} (h2 : ¬ g % 2 = 0) (h5 : ¬ g % 5 = 0) : Nat.gcd g 10 = 1 := by
  have h1 : Nat.gcd g 10 ∣ 10 := Nat.gcd_dvd_right g 10
  have h3 : Nat.gcd g 10 ∣ g := Nat.gcd_dvd_left g 10
  have hle : Nat.gcd g 10 ≤ 10 := Nat.le_of_dvd (by omega) h1
  generalize Nat.gcd g 10 = d at h1 h3 hle
  have : ∀ d, d ≤ 10 → d ∣ 10 → d = 1 ∨ d = 2 ∨ d = 5 ∨ d = 10 := by decide
  rcases this d hle h1 with e | e | e | e
  · exact e
  · subst e; exact absurd (Nat.mod_eq_zero_of_dvd h3) h2
  · subst e; exact absurd (Nat.mod_eq_zero_of_dvd h3) h5
  · subst e
    have := Nat.mod_eq_zero_of_dvd h3
    omega
theorem ten_25 (P : Nat) : 10 ^ P = 2 ^ P * 5 ^ P := by rw [← Nat.mul_pow]
theorem odd5 : ∀ P, 5 ^ P % 2 = 1
  | 0 => rfl
  | P + 1 => by have := odd5 P; rw [Nat.pow_succ]; omega
theorem two5 : ∀ P, P ≤ 8 → ¬ 2 ^ P % 5 = 0 := by decide
theorem rdc_gcd (u P : Nat) (hP : P ≤ 8) : rdc P (u, 10 ^ P) = (u / Nat.gcd u (10 ^ P), 10 ^ P / Nat.gcd u (10 ^ P)) := by
  obtain ⟨c, h0, h1, h2, h3, h4⟩ := RI_n u (10 ^ P) P
  generalize hz : rdc P (u, 10 ^ P) = z at h1 h2 h3 h4
  have p2 : 0 < 2 ^ P := Nat.pow_pos (by omega)
  have p5 : 0 < 5 ^ P := Nat.pow_pos (by omega)
  have n2 : ¬ (z.1 % 2 = 0 ∧ z.2 % 2 = 0) := by
    rcases h3 with h | h
    · exact h
    · intro w
      rw [ten_25] at h
      have h' : z.2 ∣ 5 ^ P := Nat.dvd_of_mul_dvd_mul_left p2 h
      have h2' : 2 ∣ 5 ^ P := Nat.dvd_trans (Nat.dvd_of_mod_eq_zero w.2) h'
      have := Nat.mod_eq_zero_of_dvd h2'
      have := odd5 P
      omega
  have n5 : ¬ (z.1 % 5 = 0 ∧ z.2 % 5 = 0) := by
    rcases h4 with h | h
    · exact h
    · intro w
      rw [ten_25, Nat.mul_comm (2 ^ P)] at h
      have h' : z.2 ∣ 2 ^ P := Nat.dvd_of_mul_dvd_mul_left p5 h
      have h2' : 5 ∣ 2 ^ P := Nat.dvd_trans (Nat.dvd_of_mod_eq_zero w.2) h'
      exact two5 P hP (Nat.mod_eq_zero_of_dvd h2')
  have hg1 : Nat.gcd z.1 z.2 ∣ z.1 := Nat.gcd_dvd_left _ _
  have hg2 : Nat.gcd z.1 z.2 ∣ z.2 := Nat.gcd_dvd_right _ _
  have hg3 : Nat.gcd z.1 z.2 ∣ 10 ^ P := Nat.dvd_trans hg2 ⟨c, h2.symm⟩
  have cop : Nat.gcd (Nat.gcd z.1 z.2) 10 = 1 := by
    refine gcd10 (fun w => n2 ?_) (fun w => n5 ?_)
    · have d := Nat.dvd_of_mod_eq_zero w
      exact ⟨Nat.mod_eq_zero_of_dvd (Nat.dvd_trans d hg1), Nat.mod_eq_zero_of_dvd (Nat.dvd_trans d hg2)⟩
    · have d := Nat.dvd_of_mod_eq_zero w
      exact ⟨Nat.mod_eq_zero_of_dvd (Nat.dvd_trans d hg1), Nat.mod_eq_zero_of_dvd (Nat.dvd_trans d hg2)⟩
  have cop2 : Nat.Coprime (Nat.gcd z.1 z.2) (10 ^ P) := Nat.Coprime.pow_right P cop
  have g1 : Nat.gcd z.1 z.2 = 1 := Nat.Coprime.eq_one_of_dvd cop2 hg3
  have hg : Nat.gcd u (10 ^ P) = c := by
    rw [← h1, ← h2, Nat.gcd_mul_right, g1, Nat.one_mul]
  rw [hg]
  have a1 : u / c = z.1 := by rw [← h1]; exact Nat.mul_div_cancel _ h0
  have a2 : 10 ^ P / c = z.2 := by rw [← h2]; exact Nat.mul_div_cancel _ h0
  rw [a1, a2]
theorem m_shut (θ : Site) (S : St) (L : Nat) (x : Nat → Nat) (T : Tn) (N : Nw) (im : Nat → Option Nw) (tr : Int64) (hA : AOk T N im) (hR : RM S L x T N im tr) (f w : Int32) : Ctl yX10_shut cX10_shut 14 (some .long) 20 θ shM [.ref (sA θ 0), .int f, .int w] S (fun r S' => r = sShut T N f w ∧ RM S' L x T N im tr) := by
  obtain ⟨hok, hNo, hIm⟩ := hA
  have hR' := hR
  obtain ⟨hx, hT, hN, hI, htr⟩ := hR
  have h8 := hok.1
  have hF4 := hok.2.1
  refine Ctl.mk (own := RX10) 11 [some (.ref (sA θ 0)), some (.int (f)), some (.int (w)), none, none, none, none, none, none, none, none, none, none, none] (fun K hC => ?_)
  have bad : sShut T N f w = -1 → K 18 [some (.ref (sA θ 0)), some (.int (f)), some (.int (w)), none, none, none, none, none, none, none, none, none, none, none] [] S := by
    intro e
    refine q_ldc2 hC klX10_109 dX10_shut_18 ?_
    refine q_lret hC dX10_shut_21 ?_
    rw [e]
    exact ⟨rfl, hR'⟩
  refine q_aload_n hC dX10_shut_0 ?_
  refine q_iload_n hC dX10_shut_1 ?_
  refine q_calliV1 hC (by first | assumption | rfl) cvX10_173 dX10_shut_2 (m_isFamily θ _ f T hok hT) (by decide) (fun r S1 hr => ?_)
  obtain ⟨rfl, hS⟩ := hr
  have hS := hS.symm
  subst hS
  cases hf : ixN f (tF T) with
  | none =>
    refine q_if_eq hC 18 dX10_shut_5 (by decide) (fun hb => ?_) (fun hz => absurd hz (by first | decide | exact (show ¬ nI 1 = 0 by decide)))
    exact bad (by simp [sShut, hf])
  | some g =>
    obtain ⟨hg, rfl⟩ := ixN_some (by omega) hf
    have hg4 : g < 4 := by omega
    refine q_if_eq hC 18 dX10_shut_5 (by decide) (fun hz => absurd hz (by first | decide | exact (show ¬ nI 1 = 0 by decide))) (fun hb => ?_)
    refine q_iload_n hC dX10_shut_8 ?_
    refine q_i2l hC dX10_shut_9 ?_
    refine q_lconst (v := lN 0) hC dX10_shut_10 (by decide) ?_
    refine q_lconst (v := lN 1) hC dX10_shut_11 (by decide) ?_
    refine q_calliS3 hC csX10_71 dX10_shut_12 (m_inN θ _ w 1 2 rfl (by decide)) (by decide) (fun r S1 hr => ?_)
    obtain ⟨rfl, hS⟩ := hr
    have hS := hS.symm
    subst hS
    cases hw : ixN w 2 with
    | none =>
      refine q_if_ne hC 22 dX10_shut_15 (by decide) (fun hz => absurd hz (by first | decide | exact (show ¬ nI 1 = 0 by decide))) (fun hb => ?_)
      exact bad (by simp [sShut, hw])
    | some k =>
      obtain ⟨hk, rfl⟩ := ixN_some (by decide) hw
      refine q_if_ne hC 22 dX10_shut_15 (by decide) (fun hb => ?_) (fun hz => absurd hz (by first | decide | exact (show ¬ nI 1 = 0 by decide)))
      refine q_aload_n hC dX10_shut_22 ?_
      refine q_aload_n hC dX10_shut_23 ?_
      refine q_getR hC (by first | assumption | rfl) flX10_31 dX10_shut_24 ?_
      refine q_iload_n hC dX10_shut_27 ?_
      refine q_calliV2 hC (by first | assumption | rfl) cvX10_178 dX10_shut_28 (m_own θ _ g T N hok hNo hT.1 (fun p hp => (hN.1 p hp).1) hg4) (by decide) (fun r S1 hr => ?_)
      obtain ⟨rfl, hS⟩ := hr
      have hS := hS.symm
      subst hS
      have hB := owm_lt N g
      generalize hBB : owm N g = B at hB
      have h256 : 2 ^ tP T ≤ 2 ^ 8 := Nat.pow_le_pow_right (by omega) h8
      have h10 : 10 ^ tP T ≤ 10 ^ 8 := Nat.pow_le_pow_right (by omega) h8
      have hD0 : 0 < 10 ^ tP T := Nat.pow_pos (by omega)
      have hfl := hNo.2.1
      have hup := upS_le hok hfl g B
      have hchc : ∀ s n, n ≤ tP T → chc (nF N) s n ≤ 10 ^ 8 := fun s n hn => Nat.le_trans (chc_le hfl s n) (Nat.pow_le_pow_right (by omega) (by omega))
      have esp0 : shF T N g = (upS T (nF N) g B (2 ^ tP T) / Nat.gcd (upS T (nF N) g B (2 ^ tP T)) (10 ^ tP T), 10 ^ tP T / Nat.gcd (upS T (nF N) g B (2 ^ tP T)) (10 ^ tP T)) := by
        unfold shF
        rw [hBB]
        exact rdc_gcd _ _ h8
      have hU := hup (2 ^ tP T)
      -- the divisor
      have eucl : ∀ n y z S1 l12 l13, y ≤ n → y < 2 ^ 60 → z < 2 ^ 60 → Nat.gcd z y = Nat.gcd (upS T (nF N) g B (2 ^ tP T)) (10 ^ tP T) → Fr S S1 [14] → K 176 [some (.ref (sA θ 0)), some (.int (nI g)), some (.int (nI k)), some (.int (nI B)), some (.long (lN (upS T (nF N) g B (2 ^ tP T)))), none, some (.long (lN (10 ^ tP T))), none, some (.long (lN z)), none, some (.long (lN y)), none, l12, l13] [] S1 := by
        intro n
        have atend : ∀ z S1 l10 l11 l12 l13, z = Nat.gcd (upS T (nF N) g B (2 ^ tP T)) (10 ^ tP T) → z < 2 ^ 60 → Fr S S1 [14] → K 201 [some (.ref (sA θ 0)), some (.int (nI g)), some (.int (nI k)), some (.int (nI B)), some (.long (lN (upS T (nF N) g B (2 ^ tP T)))), none, some (.long (lN (10 ^ tP T))), none, some (.long (lN z)), none, l10, l11, l12, l13] [] S1 := by
          intro z S1 l10 l11 l12 l13 hz hz6 hF
          have hz0 : 0 < z := by rw [hz]; exact Nat.gcd_pos_of_pos_right _ hD0
          have hzn : ¬ lN z = 0 := fun e => by
            have := (pk_lEQ (a := z) (b := 0) (by omega) (by omega)).mp e
            omega
          have hRR := hR'.fr (hF.mono (M := [14, 15, 16, 17, 18, 19]) (by decide))
          rcases (show k = 0 ∨ k = 1 by omega) with rfl | rfl
          · refine q_iload_n hC dX10_shut_201 ?_
            refine q_if_ne hC 213 dX10_shut_202 (by decide) (fun hz => absurd hz (by first | decide | exact (show ¬ nI 1 = 0 by decide))) (fun hb => ?_)
            refine q_lload hC dX10_shut_205 ?_
            refine q_lload hC dX10_shut_207 ?_
            refine q_ldiv hC dX10_shut_209 hzn ?_
            rw [pk_lDiv (by omega) hz0 (by omega)]
            refine q_goto hC 218 dX10_shut_210 (by decide) ?_
            refine q_lret hC dX10_shut_218 ?_
            refine ⟨?_, hRR⟩
            simp only [sShut, hf, hw]
            rw [esp0, ← hz]
          · refine q_iload_n hC dX10_shut_201 ?_
            refine q_if_ne hC 213 dX10_shut_202 (by decide) (fun hb => ?_) (fun hz => absurd hz (by first | decide | exact (show ¬ nI 1 = 0 by decide)))
            refine q_lload hC dX10_shut_213 ?_
            refine q_lload hC dX10_shut_215 ?_
            refine q_ldiv hC dX10_shut_217 hzn ?_
            rw [pk_lDiv (by omega) hz0 (by omega)]
            refine q_lret hC dX10_shut_218 ?_
            refine ⟨?_, hRR⟩
            simp only [sShut, hf, hw]
            rw [esp0, ← hz]
        induction n with
        | zero =>
          intro y z S1 l12 l13 hy hy6 hz6 hgc hF
          have e : y = 0 := Nat.le_zero.mp hy
          subst e
          rw [Nat.gcd_zero_right] at hgc
          refine q_lload hC dX10_shut_176 ?_
          refine q_lconst (v := lN 0) hC dX10_shut_178 (by decide) ?_
          refine q_lcmp hC dX10_shut_179 ?_
          refine q_if_eq hC 201 dX10_shut_180 (by decide) (fun hb => ?_) (fun hz => absurd hz (fun z => z ((lg_0 (by omega)).mpr rfl)))
          exact atend z S1 _ _ _ _ hgc hz6 hF
        | succ n ih =>
          intro y z S1 l12 l13 hy hy6 hz6 hgc hF
          by_cases e : y = 0
          · subst e
            rw [Nat.gcd_zero_right] at hgc
            refine q_lload hC dX10_shut_176 ?_
            refine q_lconst (v := lN 0) hC dX10_shut_178 (by decide) ?_
            refine q_lcmp hC dX10_shut_179 ?_
            refine q_if_eq hC 201 dX10_shut_180 (by decide) (fun hb => ?_) (fun hz => absurd hz (fun z => z ((lg_0 (by omega)).mpr rfl)))
            exact atend z S1 _ _ _ _ hgc hz6 hF
          · have hyn : ¬ lN y = 0 := fun e2 => by
              have := (pk_lEQ (a := y) (b := 0) (by omega) (by omega)).mp e2
              omega
            have hm : z % y < y := Nat.mod_lt _ (by omega)
            refine q_lload hC dX10_shut_176 ?_
            refine q_lconst (v := lN 0) hC dX10_shut_178 (by decide) ?_
            refine q_lcmp hC dX10_shut_179 ?_
            refine q_if_eq hC 201 dX10_shut_180 (by decide) (fun hz => absurd hz (fun z => e ((lg_0 (by omega)).mp z))) (fun hb => ?_)
            refine q_lload hC dX10_shut_183 ?_
            refine q_lload hC dX10_shut_185 ?_
            refine q_lrem hC dX10_shut_187 hyn ?_
            rw [pk_lRem (by omega) (by omega) (by omega)]
            refine q_lstore_12 hC dX10_shut_188 ?_
            refine q_lload hC dX10_shut_190 ?_
            refine q_lstore_8 hC dX10_shut_192 ?_
            refine q_lload hC dX10_shut_194 ?_
            refine q_lstore_10 hC dX10_shut_196 ?_
            refine q_goto hC 176 dX10_shut_198 (by decide) ?_
            refine ih (z % y) y S1 _ _ (by omega) (by omega) hy6 ?_ hF
            rw [← hgc, Nat.gcd_comm y, ← Nat.gcd_rec, Nat.gcd_comm]
      -- the sets
      have sets : ∀ n s S1 l9 l10 l11, s + n = 2 ^ tP T → Fr S S1 [14] → K 67 [some (.ref (sA θ 0)), some (.int (nI g)), some (.int (nI k)), some (.int (nI B)), some (.long (lN (upS T (nF N) g B s))), none, some (.long (lN (10 ^ tP T))), none, some (.int (nI s)), l9, l10, l11, none, none] [] S1 := by
        intro n
        induction n with
        | zero =>
          intro s S1 l9 l10 l11 hs hF
          have e : s = 2 ^ tP T := by omega
          subst e
          refine q_iload hC dX10_shut_67 ?_
          refine q_iconst (v := nI 1) hC dX10_shut_69 (by decide) ?_
          refine q_aload_n hC dX10_shut_70 ?_
          refine q_getI hC (by first | assumption | rfl) flX10_67 dX10_shut_71 ?_
          rw [hF.c 0, hT.1]
          refine q_ishl hC dX10_shut_74 ?_
          rw [sh1 (by omega)]
          refine q_icmp_ge hC 168 dX10_shut_75 (by decide) (fun hb => ?_) (fun hz => absurd hz (fun z => z (nI_le (Nat.le_refl _) (by omega))))
          refine q_lload hC dX10_shut_168 ?_
          refine q_lstore_8 hC dX10_shut_170 ?_
          refine q_lload hC dX10_shut_172 ?_
          refine q_lstore_10 hC dX10_shut_174 ?_
          exact eucl (10 ^ tP T) _ _ S1 _ _ (Nat.le_refl _) (by omega) (by omega) rfl hF
        | succ n ih =>
          intro s S1 l9 l10 l11 hs hF
          have hRR := hR'.fr (hF.mono (M := [14, 15, 16, 17, 18, 19]) (by decide))
          have hs256 : s < 256 := by omega
          have prod : ∀ m p, p + m = tP T → K 84 [some (.ref (sA θ 0)), some (.int (nI g)), some (.int (nI k)), some (.int (nI B)), some (.long (lN (upS T (nF N) g B s))), none, some (.long (lN (10 ^ tP T))), none, some (.int (nI s)), some (.long (lN (chc (nF N) s p))), none, some (.int (nI p)), none, none] [] S1 := by
            intro m
            induction m with
            | zero =>
              intro p hp
              have e : p = tP T := by omega
              subst e
              refine q_iload hC dX10_shut_84 ?_
              refine q_aload_n hC dX10_shut_86 ?_
              refine q_getI hC (by first | assumption | rfl) flX10_67 dX10_shut_87 ?_
              rw [hF.c 0, hT.1]
              refine q_icmp_ge hC 137 dX10_shut_90 (by decide) (fun hb => ?_) (fun hz => absurd hz (fun z => z (nI_le (Nat.le_refl _) (by omega))))
              refine q_lload hC dX10_shut_137 ?_
              refine q_aload_n hC dX10_shut_139 ?_
              refine q_iload_n hC dX10_shut_140 ?_
              refine q_iload_n hC dX10_shut_141 ?_
              refine q_iload hC dX10_shut_142 ?_
              refine q_ior hC dX10_shut_144 ?_
              rw [or_n]
              refine q_calliV2 hC (by first | assumption | rfl) cvX10_192 dX10_shut_145 (m_wayOf θ _ g (B ||| s) T hok hRR.2.1 hg (or_lt256 hB hs256)) (by decide) (fun r2 S2 hr2 => ?_)
              obtain ⟨rfl, hF2, -⟩ := hr2
              have hF2' := hF.trans hF2
              by_cases hy : yd T g (B ||| s) < 100000
              · have e2 : upS T (nF N) g B (s + 1) = upS T (nF N) g B s + 0 := by
                  simp only [upS]; rw [if_neg (by omega)]
                rw [orN_lt hy]
                refine q_bipush (v := (-9)) hC dX10_shut_148 (by decide) ?_
                refine q_icmp_ne hC 158 dX10_shut_150 (by decide) (fun hb => ?_) (fun hz => absurd hz (nI_n9 (by omega)))
                refine q_lconst (v := lN 0) hC dX10_shut_158 (by decide) ?_
                refine q_ladd hC dX10_shut_159 ?_
                rw [lN_add]
                refine q_lstore_4 hC dX10_shut_160 ?_
                refine q_inc1_8 hC dX10_shut_162 ?_
                refine q_goto hC 67 dX10_shut_165 (by decide) ?_
                rw [← e2]
                exact ih (s + 1) S2 _ _ _ (by omega) hF2'
              · have e2 : upS T (nF N) g B (s + 1) = upS T (nF N) g B s + chc (nF N) s (tP T) := by
                  simp only [upS]; rw [if_pos (by omega)]
                rw [orN_ge hy]
                refine q_bipush (v := (-9)) hC dX10_shut_148 (by decide) ?_
                refine q_icmp_ne hC 158 dX10_shut_150 (by decide) (fun hz => absurd hz (by first | decide | exact (show ¬ nI 1 = 0 by decide))) (fun hb => ?_)
                refine q_lload hC dX10_shut_153 ?_
                refine q_goto hC 159 dX10_shut_155 (by decide) ?_
                refine q_ladd hC dX10_shut_159 ?_
                rw [lN_add]
                refine q_lstore_4 hC dX10_shut_160 ?_
                refine q_inc1_8 hC dX10_shut_162 ?_
                refine q_goto hC 67 dX10_shut_165 (by decide) ?_
                rw [← e2]
                exact ih (s + 1) S2 _ _ _ (by omega) hF2'
            | succ m ihp =>
              intro p hp
              have hp8 : p < 8 := by omega
              have hb2 : s / 2 ^ p % 2 < 2 := Nat.mod_lt _ (by omega)
              have hfp := hfl p
              refine q_iload hC dX10_shut_84 ?_
              refine q_aload_n hC dX10_shut_86 ?_
              refine q_getI hC (by first | assumption | rfl) flX10_67 dX10_shut_87 ?_
              rw [hF.c 0, hT.1]
              refine q_icmp_ge hC 137 dX10_shut_90 (by decide) (fun hz => absurd hz (fun z => by have := (nI_leI (by omega) (by omega)).mp z; omega)) (fun hb => ?_)
              refine q_lload hC dX10_shut_93 ?_
              refine q_iload hC dX10_shut_95 ?_
              refine q_iload hC dX10_shut_97 ?_
              refine q_ishr hC dX10_shut_99 ?_
              refine q_iconst (v := nI 1) hC dX10_shut_100 (by decide) ?_
              refine q_iand hC dX10_shut_101 ?_
              rw [bit_n (by omega) (by omega)]
              refine q_iconst (v := nI 1) hC dX10_shut_102 (by decide) ?_
              by_cases hb1 : s / 2 ^ p % 2 = 1
              · rw [hb1]
                refine q_icmp_ne hC 117 dX10_shut_103 (by decide) (fun hz => absurd hz (by first | decide | exact (show ¬ nI 1 = 0 by decide))) (fun hb => ?_)
                refine q_aload_n hC dX10_shut_106 ?_
                refine q_getR hC (by first | assumption | rfl) flX10_34 dX10_shut_107 ?_
                refine q_iload hC dX10_shut_110 ?_
                refine q_ialdn hC (by first | assumption | rfl) (by first | assumption | omega) dX10_shut_112 ?_
                rw [(hRR.2.2.1.1 p (by omega)).2]
                refine q_i2l hC dX10_shut_113 ?_
                rw [nI_l (by omega)]
                refine q_goto hC 128 dX10_shut_114 (by decide) ?_
                refine q_lmul hC dX10_shut_128 ?_
                rw [lN_mul, show chc (nF N) s p * nF N p = chc (nF N) s (p + 1) by simp [chc, hb1]]
                refine q_lstore_9 hC dX10_shut_129 ?_
                refine q_inc1_11 hC dX10_shut_131 ?_
                refine q_goto hC 84 dX10_shut_134 (by decide) ?_
                exact ihp (p + 1) (by omega)
              · rw [show s / 2 ^ p % 2 = 0 by omega]
                refine q_icmp_ne hC 117 dX10_shut_103 (by decide) (fun hb => ?_) (fun hz => absurd hz (by first | decide | exact (show ¬ nI 1 = 0 by decide)))
                refine q_bipush (v := nI 10) hC dX10_shut_117 (by decide) ?_
                refine q_aload_n hC dX10_shut_119 ?_
                refine q_getR hC (by first | assumption | rfl) flX10_34 dX10_shut_120 ?_
                refine q_iload hC dX10_shut_123 ?_
                refine q_ialdn hC (by first | assumption | rfl) (by first | assumption | omega) dX10_shut_125 ?_
                rw [(hRR.2.2.1.1 p (by omega)).2]
                refine q_isub hC dX10_shut_126 ?_
                rw [pk_sub (by omega)]
                refine q_i2l hC dX10_shut_127 ?_
                rw [nI_l (by omega)]
                refine q_lmul hC dX10_shut_128 ?_
                rw [lN_mul, show chc (nF N) s p * (10 - nF N p) = chc (nF N) s (p + 1) by simp [chc, hb1]]
                refine q_lstore_9 hC dX10_shut_129 ?_
                refine q_inc1_11 hC dX10_shut_131 ?_
                refine q_goto hC 84 dX10_shut_134 (by decide) ?_
                exact ihp (p + 1) (by omega)
          refine q_iload hC dX10_shut_67 ?_
          refine q_iconst (v := nI 1) hC dX10_shut_69 (by decide) ?_
          refine q_aload_n hC dX10_shut_70 ?_
          refine q_getI hC (by first | assumption | rfl) flX10_67 dX10_shut_71 ?_
          rw [hF.c 0, hT.1]
          refine q_ishl hC dX10_shut_74 ?_
          rw [sh1 (by omega)]
          refine q_icmp_ge hC 168 dX10_shut_75 (by decide) (fun hz => absurd hz (fun z => by have := (nI_leI (by omega) (by omega)).mp z; omega)) (fun hb => ?_)
          refine q_lconst (v := lN 1) hC dX10_shut_78 (by decide) ?_
          refine q_lstore_9 hC dX10_shut_79 ?_
          refine q_iconst (v := nI 0) hC dX10_shut_81 (by decide) ?_
          refine q_istore_11 hC dX10_shut_82 ?_
          exact prod (tP T) 0 (by omega)
      have pows : ∀ n p, p + n = tP T → K 41 [some (.ref (sA θ 0)), some (.int (nI g)), some (.int (nI k)), some (.int (nI B)), some (.long (lN 0)), none, some (.long (lN (10 ^ p))), none, some (.int (nI p)), none, none, none, none, none] [] S := by
        intro n
        induction n with
        | zero =>
          intro p hp
          have e : p = tP T := by omega
          subst e
          refine q_iload hC dX10_shut_41 ?_
          refine q_aload_n hC dX10_shut_43 ?_
          refine q_getI hC (by first | assumption | rfl) flX10_67 dX10_shut_44 ?_
          rw [hT.1]
          refine q_icmp_ge hC 64 dX10_shut_47 (by decide) (fun hb => ?_) (fun hz => absurd hz (fun z => z (nI_le (Nat.le_refl _) (by omega))))
          refine q_iconst (v := nI 0) hC dX10_shut_64 (by decide) ?_
          refine q_istore_8 hC dX10_shut_65 ?_
          exact sets (2 ^ tP T) 0 S _ _ _ (by omega) Fr.rfl'
        | succ n ih =>
          intro p hp
          refine q_iload hC dX10_shut_41 ?_
          refine q_aload_n hC dX10_shut_43 ?_
          refine q_getI hC (by first | assumption | rfl) flX10_67 dX10_shut_44 ?_
          rw [hT.1]
          refine q_icmp_ge hC 64 dX10_shut_47 (by decide) (fun hz => absurd hz (fun z => by have := (nI_leI (by omega) (by omega)).mp z; omega)) (fun hb => ?_)
          refine q_lload hC dX10_shut_50 ?_
          refine q_ldc2 hC klX10_111 dX10_shut_52 ?_
          refine q_lmul hC dX10_shut_55 ?_
          rw [lN_mul, ← Nat.pow_succ]
          refine q_lstore_6 hC dX10_shut_56 ?_
          refine q_inc1_8 hC dX10_shut_58 ?_
          refine q_goto hC 41 dX10_shut_61 (by decide) ?_
          exact ih (p + 1) (by omega)
      refine q_istore_3 hC dX10_shut_31 ?_
      refine q_lconst (v := lN 0) hC dX10_shut_32 (by decide) ?_
      refine q_lstore_4 hC dX10_shut_33 ?_
      refine q_lconst (v := lN 1) hC dX10_shut_35 (by decide) ?_
      refine q_lstore_6 hC dX10_shut_36 ?_
      refine q_iconst (v := nI 0) hC dX10_shut_38 (by decide) ?_
      refine q_istore_8 hC dX10_shut_39 ?_
      exact pows (tP T) 0 (by omega)
