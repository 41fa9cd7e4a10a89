theorem nI_n9 {n : Nat} (h : n < 2 ^ 31) : ¬ nI n = -9 := fun z => by
  have := congrArg Int32.toInt z
  rw [nI_toInt h] at this
  have e : (-9 : Int32).toInt = -9 := by decide
  omega
theorem orN_lt {n : Nat} (h : n < 100000) : orN n = nI n := if_pos h
theorem orN_ge {n : Nat} (h : ¬ n < 100000) : orN n = -9 := if_neg h
theorem yd_fin {T : Tn} {f B : Nat} : dst T f B (tH T f) < 100000 ↔ yd T f B < 100000 := by
  unfold yd
  split <;> omega
theorem nxp_no {T : Tn} {B x n : Nat} {d : Nat → Nat} (h : ¬ (B / 2 ^ n % 2 = 0 ∧ oth T n x < 6 ∧ d (oth T n x) + leg T n = d x)) : nxp T B d x (n + 1) = nxp T B d x n := by
  simp only [nxp]; rw [if_neg h]
theorem nxp_yes {T : Tn} {B x n : Nat} {d : Nat → Nat} (h : B / 2 ^ n % 2 = 0 ∧ oth T n x < 6 ∧ d (oth T n x) + leg T n = d x) : nxp T B d x (n + 1) = if oth T n x < nxp T B d x n then oth T n x else nxp T B d x n := by
  simp only [nxp]; rw [if_pos h]
theorem m_place (θ : Site) (S : St) (L : Nat) (x : Nat → Nat) (T : Tn) (N : Nw) (im : Nat → Option Nw) (tr : Int64) (hA : AOk T N im) (hR : RM S L x T N im tr) (f i : Int32) : Cti yX10_place cX10_place 10 (some .int) 20 θ shM [.ref (sA θ 0), .int f, .int i] S (fun r S' => r = sPlace T N f i ∧ RM S' L x T N im tr) := by
  obtain ⟨hok, hNo, hIm⟩ := hA
  have hR' := hR
  obtain ⟨hx, hT, hN, hI, htr⟩ := hR
  have h8 := hok.1
  have hF4 := hok.2.1
  refine Cti.mk (own := RX10) 7 [some (.ref (sA θ 0)), some (.int f), some (.int i), none, none, none, none, none, none, none] (fun K hC => ?_)
  have bad : sPlace T N f i = -1 → K 12 [some (.ref (sA θ 0)), some (.int (f)), some (.int (i)), none, none, none, none, none, none, none] [] S := by
    intro e
    refine q_iconst (v := (-1)) hC dX10_place_12 (by decide) ?_
    refine q_iret hC dX10_place_13 ?_
    rw [e]
    exact ⟨rfl, hR'⟩
  refine q_aload_n hC dX10_place_0 ?_
  refine q_iload_n hC dX10_place_1 ?_
  refine q_calliV1 hC (by first | assumption | rfl) cvX10_173 dX10_place_2 (m_isFamily θ _ f T hok hT) (by decide) (fun r S1 hr => ?_)
  obtain ⟨rfl, hS⟩ := hr
  have hS := hS.symm
  subst hS
  cases hp : ixN f (tF T) with
  | none =>
    refine q_if_eq hC 12 dX10_place_5 (by decide) (fun hb => ?_) (fun hz => absurd hz (by first | decide | exact (show ¬ nI 1 = 0 by decide)))
    exact bad (by simp [sPlace, hp])
  | some g =>
    obtain ⟨hg, rfl⟩ := ixN_some (by omega) hp
    have hg4 : g < 4 := by omega
    obtain ⟨hh, -, -⟩ := hok.2.2.2 g hg
    obtain ⟨th, -, -⟩ := hT.2.2.2 g hg
    refine q_if_eq hC 12 dX10_place_5 (by decide) (fun hz => absurd hz (by first | decide | exact (show ¬ nI 1 = 0 by decide))) (fun hb => ?_)
    refine q_iload_n hC dX10_place_8 ?_
    refine q_if_ge hC 14 dX10_place_9 (by decide) (fun hi => ?_) (fun hi => ?_)
    · obtain ⟨I, hI31, rfl⟩ := nI_of (Int32.not_lt.mpr hi)
      have hi0 : ¬ nI I < 0 := nI_pos hI31
      have hcl : (nI I).toNatClampNeg = I := by
        have := nI_toInt hI31
        show (nI I).toInt.toNat = I
        omega
      refine q_aload_n hC dX10_place_14 ?_
      refine q_aload_n hC dX10_place_15 ?_
      refine q_getR hC (by first | assumption | rfl) flX10_31 dX10_place_16 ?_
      refine q_iload_n hC dX10_place_19 ?_
      refine q_calliV2 hC (by first | assumption | rfl) cvX10_178 dX10_place_20 (m_own θ _ g T N hok hNo hT.1 (fun p hp => (hN.1 p hp).1) hg4) (by decide) (fun r S1 hr => ?_)
      obtain ⟨rfl, hS⟩ := hr
      have hS := hS.symm
      subst hS
      have hB := owm_lt N g
      generalize hBB : owm N g = B at hB
      refine q_istore_3 hC dX10_place_23 ?_
      refine q_aload_n hC dX10_place_24 ?_
      refine q_iload_n hC dX10_place_25 ?_
      refine q_iload_n hC dX10_place_26 ?_
      refine q_calliV2 hC (by first | assumption | rfl) cvX10_192 dX10_place_27 (m_wayOf θ _ g B T hok hT hg hB) (by decide) (fun r S1 hr => ?_)
      obtain ⟨rfl, hF1, hL⟩ := hr
      have hRR := hR'.fr (hF1.mono (M := [14, 15, 16, 17, 18, 19]) (by decide))
      have hT1 := hRR.2.1
      by_cases hfin : dst T g B (tH T g) < 100000
      · have hyd := yd_fin.mp hfin
        rw [orN_lt hyd]
        have esp : sPlace T N (nI g) (nI I) = if I ≤ dst T g B (tH T g) % 16 then nI (plS T B (dst T g B) (tH T g) I) else -5 := by
          simp only [sPlace, hp, hBB, hcl]
          rw [if_neg hi0, if_pos hfin]
        refine q_bipush (v := (-9)) hC dX10_place_30 (by decide) ?_
        refine q_icmp_ne hC 38 dX10_place_32 (by decide) (fun hb => ?_) (fun hz => absurd hz (nI_n9 (by omega)))
        refine q_aload_n hC dX10_place_38 ?_
        refine q_getR hC (by first | assumption | rfl) flX10_22 dX10_place_39 ?_
        refine q_iload_n hC dX10_place_42 ?_
        refine q_ialdn hC (by first | assumption | rfl) (by first | assumption | omega) dX10_place_43 ?_
        rw [hF1.c 5, th]
        have outer : ∀ m n l6 l7 l8 l9, n + m = dst T g B (tH T g) % 16 → n ≤ I → K 49 [some (.ref (sA θ 0)), some (.int (nI g)), some (.int (nI I)), some (.int (nI B)), some (.int (nI (plS T B (dst T g B) (tH T g) n))), some (.int (nI n)), l6, l7, l8, l9] [] S1 := by
          intro m
          induction m with
          | zero =>
            intro n l6 l7 l8 l9 hn hnI
            obtain ⟨w1, w2⟩ := pl_walk hok g B hh hfin n (by omega)
            have hx := plS_lt T B (dst T g B) hh n
            have w3 := (dst_m5 hok g B hx w1).2 (by omega)
            refine q_iload hC dX10_place_49 ?_
            refine q_iload_n hC dX10_place_51 ?_
            refine q_icmp_ge hC 222 dX10_place_52 (by decide) (fun hc => ?_) (fun hc => ?_)
            · have e : n = I := by have := (nI_leI (by omega) (by omega)).mp hc; omega
              subst e
              refine q_iload hC dX10_place_222 ?_
              refine q_iret hC dX10_place_224 ?_
              exact ⟨by rw [esp, if_pos (by omega)], hRR⟩
            · have e : n < I := by have : ¬ I ≤ n := fun z => hc (nI_le z (by omega)); omega
              refine q_aload_n hC dX10_place_55 ?_
              refine q_getR hC (by first | assumption | rfl) flX10_49 dX10_place_56 ?_
              refine q_iload hC dX10_place_59 ?_
              refine q_ialdn hC (by first | assumption | rfl) (by first | assumption | omega) dX10_place_61 ?_
              rw [hL _ hx, w3]
              refine q_if_ne hC 68 dX10_place_62 (by decide) (fun hz => absurd hz (by first | decide | exact (show ¬ nI 1 = 0 by decide))) (fun hb => ?_)
              refine q_bipush (v := (-5)) hC dX10_place_65 (by decide) ?_
              refine q_iret hC dX10_place_67 ?_
              exact ⟨by rw [esp, if_neg (by omega)], hRR⟩
          | succ m ih =>
            intro n l6 l7 l8 l9 hn hnI
            obtain ⟨w1, w2⟩ := pl_walk hok g B hh hfin n (by omega)
            have hx := plS_lt T B (dst T g B) hh n
            have w4 := dst_nxp hok g B hx w1 (by omega)
            have enx : plS T B (dst T g B) (tH T g) (n + 1) = nxp T B (dst T g B) (plS T B (dst T g B) (tH T g) n) (tP T) := by
              show nxt T B (dst T g B) (plS T B (dst T g B) (tH T g) n) = _
              unfold nxt
              rw [if_pos w4]
            generalize hxx : plS T B (dst T g B) (tH T g) n = y at hx w1 w2 w4 enx
            have hbd := bd_dst hok g B
            have hd6 : ∀ v, dst T g B v ≤ 100000 := fun v => bd_le hbd (by omega)
            have inner : ∀ k p l8 l9, p + k = tP T → n < I → K 75 [some (.ref (sA θ 0)), some (.int (nI g)), some (.int (nI I)), some (.int (nI B)), some (.int (nI y)), some (.int (nI n)), some (.int (nI (nxp T B (dst T g B) y p))), some (.int (nI p)), l8, l9] [] S1 := by
              intro k
              induction k with
              | zero =>
                intro p l8 l9 hp0 hnI
                have e : p = tP T := by omega
                subst e
                refine q_iload hC dX10_place_75 ?_
                refine q_aload_n hC dX10_place_77 ?_
                refine q_getI hC (by first | assumption | rfl) flX10_67 dX10_place_78 ?_
                rw [hT1.1]
                refine q_icmp_ge hC 212 dX10_place_81 (by decide) (fun hb => ?_) (fun hz => absurd hz (fun z => z (nI_le (Nat.le_refl _) (by omega))))
                refine q_iload hC dX10_place_212 ?_
                refine q_istore_4 hC dX10_place_214 ?_
                refine q_inc1_5 hC dX10_place_216 ?_
                refine q_goto hC 49 dX10_place_219 (by decide) ?_
                rw [← enx]
                exact ih (n + 1) _ _ _ _ (by omega) (by omega)
              | succ k ihp =>
                intro p l8 l9 hp0 hnI
                have hp8 : p < 8 := by omega
                obtain ⟨ha, hbb, hab, hy1, hy2⟩ := hok.2.2.1 p (by omega)
                obtain ⟨t1, t2, t3⟩ := hT1.2.2.1 p (by omega)
                have hnx := nxp_le T B (dst T g B) y p
                have no : ∀ v8 : Int32, ¬ (B / 2 ^ p % 2 = 0 ∧ oth T p y < 6 ∧ dst T g B (oth T p y) + leg T p = dst T g B y) → K 182 [some (.ref (sA θ 0)), some (.int (nI g)), some (.int (nI I)), some (.int (nI B)), some (.int (nI y)), some (.int (nI n)), some (.int (nI (nxp T B (dst T g B) y p))), some (.int (nI p)), some (.int (v8)), l9] [] S1 := by
                  intro v8 hc
                  refine q_iconst (v := nI 0) hC dX10_place_182 (by decide) ?_
                  refine q_istore_9 hC dX10_place_183 ?_
                  refine q_iload hC dX10_place_185 ?_
                  refine q_if_eq hC 202 dX10_place_187 (by decide) (fun hb => ?_) (fun hz => absurd hz (by first | decide | exact (show ¬ nI 1 = 0 by decide)))
                  refine q_iload hC dX10_place_202 ?_
                  refine q_istore_6 hC dX10_place_204 ?_
                  refine q_inc1_7 hC dX10_place_206 ?_
                  refine q_goto hC 75 dX10_place_209 (by decide) ?_
                  rw [← nxp_no hc]
                  exact ihp (p + 1) _ _ (by omega) hnI
                have have' : ∀ u, u < 6 → oth T p y = u → K 130 [some (.ref (sA θ 0)), some (.int (nI g)), some (.int (nI I)), some (.int (nI B)), some (.int (nI y)), some (.int (nI n)), some (.int (nI (nxp T B (dst T g B) y p))), some (.int (nI p)), l8, l9] [.int (nI u)] S1 := by
                  intro u hu ho
                  have hdu := hd6 u
                  have hdy := hd6 y
                  have hb2 : B / 2 ^ p % 2 < 2 := Nat.mod_lt _ (by omega)
                  refine q_istore_8 hC dX10_place_130 ?_
                  refine q_iload hC dX10_place_132 ?_
                  refine q_bipush (v := (-9)) hC dX10_place_134 (by decide) ?_
                  refine q_icmp_eq hC 182 dX10_place_136 (by decide) (fun hz => absurd hz (nI_n9 (by omega))) (fun hb => ?_)
                  refine q_iload_n hC dX10_place_139 ?_
                  refine q_iload hC dX10_place_140 ?_
                  refine q_ishr hC dX10_place_142 ?_
                  refine q_iconst (v := nI 1) hC dX10_place_143 (by decide) ?_
                  refine q_iand hC dX10_place_144 ?_
                  rw [bit_n (by omega) (by omega)]
                  refine q_if_ne hC 182 dX10_place_145 (by decide) (fun hc => ?_) (fun hc => ?_)
                  · exact no _ (fun z => hc (by rw [z.1]; rfl))
                  · have hc0 : B / 2 ^ p % 2 = 0 := nI_small (b := 0) (by omega) (by omega) hc
                    refine q_aload_n hC dX10_place_148 ?_
                    refine q_getR hC (by first | assumption | rfl) flX10_49 dX10_place_149 ?_
                    refine q_iload hC dX10_place_152 ?_
                    refine q_ialdn hC (by first | assumption | rfl) (by first | assumption | omega) dX10_place_154 ?_
                    rw [hL u hu]
                    refine q_bipush (v := nI 16) hC dX10_place_155 (by decide) ?_
                    refine q_aload_n hC dX10_place_157 ?_
                    refine q_getR hC (by first | assumption | rfl) flX10_19 dX10_place_158 ?_
                    refine q_iload hC dX10_place_161 ?_
                    refine q_ialdn hC (by first | assumption | rfl) (by first | assumption | omega) dX10_place_163 ?_
                    rw [t3]
                    refine q_imul hC dX10_place_164 ?_
                    rw [pk_mul]
                    refine q_iadd hC dX10_place_165 ?_
                    rw [nI_add]
                    refine q_iconst (v := nI 1) hC dX10_place_166 (by decide) ?_
                    refine q_iadd hC dX10_place_167 ?_
                    rw [nI_add]
                    refine q_aload_n hC dX10_place_168 ?_
                    refine q_getR hC (by first | assumption | rfl) flX10_49 dX10_place_169 ?_
                    refine q_iload hC dX10_place_172 ?_
                    refine q_ialdn hC (by first | assumption | rfl) (by first | assumption | omega) dX10_place_174 ?_
                    rw [hL y hx]
                    have hlg : leg T p = tY T p * 16 + 1 := rfl
                    refine q_icmp_ne hC 182 dX10_place_175 (by decide) (fun hc2 => ?_) (fun hc2 => ?_)
                    · exact no _ (fun z => hc2 (by rw [ho] at z; congr 1; omega))
                    · have e2 : dst T g B u + 16 * tY T p + 1 = dst T g B y := nI_small (by omega) (by omega) hc2
                      have cond : B / 2 ^ p % 2 = 0 ∧ oth T p y < 6 ∧ dst T g B (oth T p y) + leg T p = dst T g B y := by rw [ho]; exact ⟨hc0, hu, by omega⟩
                      have ey := nxp_yes cond
                      rw [ho] at ey
                      refine q_iconst (v := nI 1) hC dX10_place_178 (by decide) ?_
                      refine q_goto hC 183 dX10_place_179 (by decide) ?_
                      refine q_istore_9 hC dX10_place_183 ?_
                      refine q_iload hC dX10_place_185 ?_
                      refine q_if_eq hC 202 dX10_place_187 (by decide) (fun hz => absurd hz (by first | decide | exact (show ¬ nI 1 = 0 by decide))) (fun hb => ?_)
                      refine q_iload hC dX10_place_190 ?_
                      refine q_iload hC dX10_place_192 ?_
                      refine q_icmp_ge hC 202 dX10_place_194 (by decide) (fun hc3 => ?_) (fun hc3 => ?_)
                      · have : ¬ u < nxp T B (dst T g B) y p := by have := (nI_leI (by omega) (by omega)).mp hc3; omega
                        rw [if_neg this] at ey
                        refine q_iload hC dX10_place_202 ?_
                        refine q_istore_6 hC dX10_place_204 ?_
                        refine q_inc1_7 hC dX10_place_206 ?_
                        refine q_goto hC 75 dX10_place_209 (by decide) ?_
                        rw [← ey]
                        exact ihp (p + 1) _ _ (by omega) hnI
                      · have : u < nxp T B (dst T g B) y p := by have : ¬ nxp T B (dst T g B) y p ≤ u := fun z => hc3 (nI_le z (by omega)); omega
                        rw [if_pos this] at ey
                        refine q_iload hC dX10_place_197 ?_
                        refine q_goto hC 204 dX10_place_199 (by decide) ?_
                        refine q_istore_6 hC dX10_place_204 ?_
                        refine q_inc1_7 hC dX10_place_206 ?_
                        refine q_goto hC 75 dX10_place_209 (by decide) ?_
                        rw [← ey]
                        exact ihp (p + 1) _ _ (by omega) hnI
                refine q_iload hC dX10_place_75 ?_
                refine q_aload_n hC dX10_place_77 ?_
                refine q_getI hC (by first | assumption | rfl) flX10_67 dX10_place_78 ?_
                rw [hT1.1]
                refine q_icmp_ge hC 212 dX10_place_81 (by decide) (fun hz => absurd hz (fun z => by have := (nI_leI (by omega) (by omega)).mp z; omega)) (fun hb => ?_)
                refine q_aload_n hC dX10_place_84 ?_
                refine q_getR hC (by first | assumption | rfl) flX10_13 dX10_place_85 ?_
                refine q_iload hC dX10_place_88 ?_
                refine q_ialdn hC (by first | assumption | rfl) (by first | assumption | omega) dX10_place_90 ?_
                rw [t1]
                refine q_iload hC dX10_place_91 ?_
                refine q_icmp_ne hC 106 dX10_place_93 (by decide) (fun hc => ?_) (fun hc => ?_)
                · have e1 : ¬ tA T p = y := fun z => hc (by rw [z])
                  refine q_aload_n hC dX10_place_106 ?_
                  refine q_getR hC (by first | assumption | rfl) flX10_16 dX10_place_107 ?_
                  refine q_iload hC dX10_place_110 ?_
                  refine q_ialdn hC (by first | assumption | rfl) (by first | assumption | omega) dX10_place_112 ?_
                  rw [t2]
                  refine q_iload hC dX10_place_113 ?_
                  refine q_icmp_ne hC 128 dX10_place_115 (by decide) (fun hc2 => ?_) (fun hc2 => ?_)
                  · have e2 : ¬ tB T p = y := fun z => hc2 (by rw [z])
                    have ho : oth T p y = 6 := by unfold oth; rw [if_neg e1, if_neg e2]
                    refine q_bipush (v := (-9)) hC dX10_place_128 (by decide) ?_
                    refine q_istore_8 hC dX10_place_130 ?_
                    refine q_iload hC dX10_place_132 ?_
                    refine q_bipush (v := (-9)) hC dX10_place_134 (by decide) ?_
                    refine q_icmp_eq hC 182 dX10_place_136 (by decide) (fun hb => ?_) (fun hz => absurd hz (by first | decide | exact (show ¬ nI 1 = 0 by decide)))
                    exact no _ (fun z => by rw [ho] at z; omega)
                  · have e2 : tB T p = y := nI_small (by omega) (by omega) hc2
                    refine q_aload_n hC dX10_place_118 ?_
                    refine q_getR hC (by first | assumption | rfl) flX10_13 dX10_place_119 ?_
                    refine q_iload hC dX10_place_122 ?_
                    refine q_ialdn hC (by first | assumption | rfl) (by first | assumption | omega) dX10_place_124 ?_
                    rw [t1]
                    refine q_goto hC 130 dX10_place_125 (by decide) ?_
                    exact have' _ ha (by unfold oth; rw [if_neg e1, if_pos e2])
                · have e1 : tA T p = y := nI_small (by omega) (by omega) hc
                  refine q_aload_n hC dX10_place_96 ?_
                  refine q_getR hC (by first | assumption | rfl) flX10_16 dX10_place_97 ?_
                  refine q_iload hC dX10_place_100 ?_
                  refine q_ialdn hC (by first | assumption | rfl) (by first | assumption | omega) dX10_place_102 ?_
                  rw [t2]
                  refine q_goto hC 130 dX10_place_103 (by decide) ?_
                  exact have' _ hbb (by unfold oth; rw [if_pos e1])
            refine q_iload hC dX10_place_49 ?_
            refine q_iload_n hC dX10_place_51 ?_
            refine q_icmp_ge hC 222 dX10_place_52 (by decide) (fun hc => ?_) (fun hc => ?_)
            · have e : n = I := by have := (nI_leI (by omega) (by omega)).mp hc; omega
              subst e
              refine q_iload hC dX10_place_222 ?_
              refine q_iret hC dX10_place_224 ?_
              exact ⟨by rw [esp, if_pos (by omega), hxx], hRR⟩
            · have e : n < I := by have : ¬ I ≤ n := fun z => hc (nI_le z (by omega)); omega
              have hdy := hd6 y
              refine q_aload_n hC dX10_place_55 ?_
              refine q_getR hC (by first | assumption | rfl) flX10_49 dX10_place_56 ?_
              refine q_iload hC dX10_place_59 ?_
              refine q_ialdn hC (by first | assumption | rfl) (by first | assumption | omega) dX10_place_61 ?_
              rw [hL _ hx]
              refine q_if_ne hC 68 dX10_place_62 (by decide) (fun hb => ?_) (fun hz => absurd hz (nI_ne0 (by omega) (by omega)))
              refine q_bipush (v := nI 6) hC dX10_place_68 (by decide) ?_
              refine q_istore_6 hC dX10_place_70 ?_
              refine q_iconst (v := nI 0) hC dX10_place_72 (by decide) ?_
              refine q_istore_7 hC dX10_place_73 ?_
              exact inner (tP T) 0 _ _ (by omega) e
        refine q_istore_4 hC dX10_place_44 ?_
        refine q_iconst (v := nI 0) hC dX10_place_46 (by decide) ?_
        refine q_istore_5 hC dX10_place_47 ?_
        exact outer _ 0 _ _ _ _ (Nat.zero_add _) (Nat.zero_le _)
      · have hyd : ¬ yd T g B < 100000 := fun z => hfin (yd_fin.mpr z)
        rw [orN_ge hyd]
        refine q_bipush (v := (-9)) hC dX10_place_30 (by decide) ?_
        refine q_icmp_ne hC 38 dX10_place_32 (by decide) (fun hz => absurd hz (by first | decide | exact (show ¬ nI 1 = 0 by decide))) (fun hb => ?_)
        refine q_bipush (v := (-9)) hC dX10_place_35 (by decide) ?_
        refine q_iret hC dX10_place_37 ?_
        refine ⟨?_, hRR⟩
        simp only [sPlace, hp, hBB]
        rw [if_neg hi0, if_neg hfin]
    · exact bad (by
        simp only [sPlace, hp]
        rw [if_pos (Int32.not_le.mp hi)])
theorem m_pole (θ : Site) (S : St) (L : Nat) (x : Nat → Nat) (T : Tn) (N : Nw) (im : Nat → Option Nw) (tr : Int64) (hA : AOk T N im) (hR : RM S L x T N im tr) (f w : Int32) : Cti yX10_pole cX10_pole 5 (some .int) 20 θ shM [.ref (sA θ 0), .int f, .int w] S (fun r S' => r = sPole T N f w ∧ RM S' L x T N im tr) := by
  obtain ⟨hok, hNo, hIm⟩ := hA
  have hR' := hR
  obtain ⟨hx, hT, hN, hI, htr⟩ := hR
  have h8 := hok.1
  have hF4 := hok.2.1
  refine Cti.mk (own := RX10) 2 [some (.ref (sA θ 0)), some (.int f), some (.int w), none, none] (fun K hC => ?_)
  have bad : sPole T N f w = -1 → K 20 [some (.ref (sA θ 0)), some (.int (f)), some (.int (w)), none, none] [] S := by
    intro e
    refine q_iconst (v := (-1)) hC dX10_pole_20 (by decide) ?_
    refine q_iret hC dX10_pole_21 ?_
    rw [e]
    exact ⟨rfl, hR'⟩
  refine q_aload_n hC dX10_pole_0 ?_
  refine q_iload_n hC dX10_pole_1 ?_
  refine q_calliV1 hC (by first | assumption | rfl) cvX10_173 dX10_pole_2 (m_isFamily θ _ f T hok hT) (by decide) (fun r S1 hr => ?_)
  obtain ⟨rfl, hS⟩ := hr
  have hS := hS.symm
  subst hS
  cases hp : ixN f (tF T) with
  | none =>
    refine q_if_eq hC 20 dX10_pole_5 (by decide) (fun hb => ?_) (fun hz => absurd hz (by first | decide | exact (show ¬ nI 1 = 0 by decide)))
    exact bad (by simp [sPole, hp])
  | some g =>
    obtain ⟨hg, rfl⟩ := ixN_some (by omega) hp
    have hg4 : g < 4 := by omega
    refine q_if_eq hC 20 dX10_pole_5 (by decide) (fun hz => absurd hz (by first | decide | exact (show ¬ nI 1 = 0 by decide))) (fun hb => ?_)
    refine q_iload_n hC dX10_pole_8 ?_
    refine q_i2l hC dX10_pole_9 ?_
    refine q_lconst (v := lN 0) hC dX10_pole_10 (by decide) ?_
    refine q_ldc2 hC klX10_196 dX10_pole_11 ?_
    refine q_calliS3 hC csX10_71 dX10_pole_14 (m_inN θ _ w 30 31 rfl (by decide)) (by decide) (fun r S1 hr => ?_)
    obtain ⟨rfl, hS⟩ := hr
    have hS := hS.symm
    subst hS
    cases hw : ixN w 31 with
    | none =>
      refine q_if_ne hC 22 dX10_pole_17 (by decide) (fun hz => absurd hz (by first | decide | exact (show ¬ nI 1 = 0 by decide))) (fun hb => ?_)
      exact bad (by simp [sPole, hw])
    | some k =>
      obtain ⟨hk, rfl⟩ := ixN_some (by decide) hw
      refine q_if_ne hC 22 dX10_pole_17 (by decide) (fun hb => ?_) (fun hz => absurd hz (by first | decide | exact (show ¬ nI 1 = 0 by decide)))
      refine q_aload_n hC dX10_pole_22 ?_
      refine q_aload_n hC dX10_pole_23 ?_
      refine q_getR hC (by first | assumption | rfl) flX10_31 dX10_pole_24 ?_
      refine q_iload_n hC dX10_pole_27 ?_
      refine q_calliV2 hC (by first | assumption | rfl) cvX10_178 dX10_pole_28 (m_own θ _ g T N hok hNo hT.1 (fun p hp => (hN.1 p hp).1) hg4) (by decide) (fun r S1 hr => ?_)
      obtain ⟨rfl, hS⟩ := hr
      have hS := hS.symm
      subst hS
      have loop : ∀ n p, p + n = tP T → K 35 [some (.ref (sA θ 0)), some (.int (nI g)), some (.int (nI k)), some (.int (nI (plB T N g k p))), some (.int (nI p))] [] S := by
        intro n
        induction n with
        | zero =>
          intro p hp0
          have e : p = tP T := by omega
          subst e
          refine q_iload hC dX10_pole_35 ?_
          refine q_aload_n hC dX10_pole_37 ?_
          refine q_getI hC (by first | assumption | rfl) flX10_67 dX10_pole_38 ?_
          rw [hT.1]
          refine q_icmp_ge hC 74 dX10_pole_41 (by decide) (fun hb => ?_) (fun hz => absurd hz (fun z => z (nI_le (Nat.le_refl _) (by omega))))
          refine q_aload_n hC dX10_pole_74 ?_
          refine q_iload_n hC dX10_pole_75 ?_
          refine q_iload_n hC dX10_pole_76 ?_
          refine q_calliV2 hC (by first | assumption | rfl) cvX10_192 dX10_pole_77 (m_wayOf θ _ g _ T hok hT hg (plB_lt T N g k _)) (by decide) (fun r S1 hr => ?_)
          obtain ⟨rfl, hF1, -⟩ := hr
          refine q_iret hC dX10_pole_80 ?_
          refine ⟨?_, hR'.fr (hF1.mono (by decide))⟩
          simp only [sPole, hp, hw]
          rw [plB_P hNo h8 hg4]
        | succ n ih =>
          intro p hp0
          have hp8 : p < 8 := by omega
          obtain ⟨-, -, -, -, hy⟩ := hok.2.2.1 p (by omega)
          have hlt := plB_lt T N g k p
          refine q_iload hC dX10_pole_35 ?_
          refine q_aload_n hC dX10_pole_37 ?_
          refine q_getI hC (by first | assumption | rfl) flX10_67 dX10_pole_38 ?_
          rw [hT.1]
          refine q_icmp_ge hC 74 dX10_pole_41 (by decide) (fun hz => absurd hz (fun z => by have := (nI_leI (by omega) (by omega)).mp z; omega)) (fun hb => ?_)
          refine q_iload_n hC dX10_pole_44 ?_
          refine q_aload_n hC dX10_pole_45 ?_
          refine q_getR hC (by first | assumption | rfl) flX10_19 dX10_pole_46 ?_
          refine q_iload hC dX10_pole_49 ?_
          refine q_ialdn hC (by first | assumption | rfl) (by first | assumption | omega) dX10_pole_51 ?_
          rw [(hT.2.2.1 p (by omega)).2.2]
          refine q_iload_n hC dX10_pole_52 ?_
          refine q_icmp_gt hC 65 dX10_pole_53 (by decide) (fun hc => ?_) (fun hc => ?_)
          · have h1 : k < tY T p := (nI_ltI (by omega) (by omega)).mp hc
            refine q_iconst (v := (-1)) hC dX10_pole_65 (by decide) ?_
            refine q_iand hC dX10_pole_66 ?_
            rw [and_m1 hlt, ← plB_skip h1]
            refine q_istore_3 hC dX10_pole_67 ?_
            refine q_inc1_4 hC dX10_pole_68 ?_
            refine q_goto hC 35 dX10_pole_71 (by decide) ?_
            exact ih (p + 1) (by omega)
          · have h1 : ¬ k < tY T p := fun z => hc ((nI_ltI (by omega) (by omega)).mpr z)
            refine q_iconst (v := nI 1) hC dX10_pole_56 (by decide) ?_
            refine q_iload hC dX10_pole_57 ?_
            refine q_ishl hC dX10_pole_59 ?_
            rw [sh1 (by omega)]
            refine q_iconst (v := (-1)) hC dX10_pole_60 (by decide) ?_
            refine q_ixor hC dX10_pole_61 ?_
            refine q_goto hC 66 dX10_pole_62 (by decide) ?_
            refine q_iand hC dX10_pole_66 ?_
            rw [andnot_n hlt hp8, ← plB_out hp8 h1]
            refine q_istore_3 hC dX10_pole_67 ?_
            refine q_inc1_4 hC dX10_pole_68 ?_
            refine q_goto hC 35 dX10_pole_71 (by decide) ?_
            exact ih (p + 1) (by omega)
      refine q_istore_3 hC dX10_pole_31 ?_
      refine q_iconst (v := nI 0) hC dX10_pole_32 (by decide) ?_
      refine q_istore_4 hC dX10_pole_33 ?_
      rw [← plB_0 T N g k]
      exact loop (tP T) 0 (by omega)
/-- what a way costs, as the reference has it -/
def cN (T : Tn) (f B : Nat) : Int32 := if yd T f B < 100000 then nI (yc T f B) else -9
/-- owners in a cell of the reference -/
def OwM (S : St) (q : Nat) (T : Tn) (ow : Nat → Nat) : Prop := ∀ p, p < tP T → S.1 q p = mdO (ow p)
def OwG (T : Tn) (ow : Nat → Nat) : Prop := ∀ p, ow p ≤ 5 ∧ (tP T ≤ p → ow p = 4) ∧ (ow p < 4 → ow p < tF T)
theorem om_P {T : Tn} {ow : Nat → Nat} (hG : OwG T ow) (h8 : tP T ≤ 8) {f : Nat} (hf : f ≠ 4) : om ow f = msk (fun p => decide (ow p = f)) (tP T) :=
  msk_ext _ _ 8 h8 (fun p h1 _ => by rw [(hG p).2.1 h1]; simp; omega)
theorem m_omBy (θ : Site) (S : St) (q g : Nat) (T : Tn) (ow : Nat → Nat) (hok : TnOk T) (hG : OwG T ow) (hT : S.1 0 2 = nI (tP T)) (hO : OwM S q T ow) (hg : g < 4) (hq : shM[q]? = some (.inl (0, 8))) : Cti yX10_ownBy cX10_ownBy 5 (some .int) 0 θ shM [.ref (sA θ 0), .ref (sA θ q), .int (nI g)] S (fun r S' => r = nI (om ow g) ∧ S' = S) := by
  have e : msk (fun p => decide (S.1 q p = nI g)) (tP T) = om ow g := by
    rw [om_P hG hok.1 (by omega)]
    exact msk_congr (fun p hp => by rw [hO p hp]; exact decide_eq_decide.mpr (mdO_eq hg))
  rw [← e]
  exact m_ownBy θ S q (nI g) T hok hT hq
theorem m_costBy (θ : Site) (S : St) (q g : Nat) (T : Tn) (ow : Nat → Nat) (hok : TnOk T) (hG : OwG T ow) (hT : MTw S T) (hO : OwM S q T ow) (hg : g < tF T) (hq : shM[q]? = some (.inl (0, 8))) : Cti yX10_costBy cX10_costBy 4 (some .int) 2 θ shM [.ref (sA θ 0), .ref (sA θ q), .int (nI g)] S (fun r S' => r = cN T g (om ow g) ∧ Fr S S' [14]) := by
  have hF4 := hok.2.1
  have hg4 : g < 4 := by omega
  refine Cti.mk (own := RX10) 1 [some (.ref (sA θ 0)), some (.ref (sA θ q)), some (.int (nI g)), none] (fun K hC => ?_)
  refine q_aload_n hC dX10_costBy_0 ?_
  refine q_iload_n hC dX10_costBy_1 ?_
  refine q_aload_n hC dX10_costBy_2 ?_
  refine q_aload_n hC dX10_costBy_3 ?_
  refine q_iload_n hC dX10_costBy_4 ?_
  refine q_calliV2 hC (by first | assumption | rfl) cvX10_178 dX10_costBy_5 (m_omBy θ _ q g T ow hok hG hT.1 hO hg4 hq) (by decide) (fun r S1 hr => ?_)
  obtain ⟨rfl, hS⟩ := hr
  have hS := hS.symm
  subst hS
  refine q_calliV2 hC (by first | assumption | rfl) cvX10_192 dX10_costBy_8 (m_wayOf θ _ g _ T hok hT hg (om_lt ow g)) (by decide) (fun r S1 hr => ?_)
  obtain ⟨rfl, hF1, -⟩ := hr
  by_cases hy : yd T g (om ow g) < 100000
  · rw [orN_lt hy]
    refine q_istore_3 hC dX10_costBy_11 ?_
    refine q_iload_n hC dX10_costBy_12 ?_
    refine q_bipush (v := (-9)) hC dX10_costBy_13 (by decide) ?_
    refine q_icmp_ne hC 23 dX10_costBy_15 (by decide) (fun hb => ?_) (fun hz => absurd hz (nI_n9 (by omega)))
    refine q_iload_n hC dX10_costBy_23 ?_
    refine q_aload_n hC dX10_costBy_24 ?_
    refine q_getR hC (by first | assumption | rfl) flX10_28 dX10_costBy_25 ?_
    refine q_iload_n hC dX10_costBy_28 ?_
    refine q_ialdn hC (by first | assumption | rfl) (by first | assumption | omega) dX10_costBy_29 ?_
    rw [hF1.c 7, (hT.2.2.2 g hg).2.2]
    refine q_imul hC dX10_costBy_30 ?_
    rw [pk_mul]
    refine q_iret hC dX10_costBy_31 ?_
    exact ⟨by unfold cN; rw [if_pos hy]; rfl, hF1⟩
  · rw [orN_ge hy]
    refine q_istore_3 hC dX10_costBy_11 ?_
    refine q_iload_n hC dX10_costBy_12 ?_
    refine q_bipush (v := (-9)) hC dX10_costBy_13 (by decide) ?_
    refine q_icmp_ne hC 23 dX10_costBy_15 (by decide) (fun hz => absurd hz (by first | decide | exact (show ¬ nI 1 = 0 by decide))) (fun hb => ?_)
    refine q_bipush (v := (-9)) hC dX10_costBy_18 (by decide) ?_
    refine q_goto hC 31 dX10_costBy_20 (by decide) ?_
    refine q_iret hC dX10_costBy_31 ?_
    exact ⟨by unfold cN; rw [if_neg hy], hF1⟩
theorem msk_0 (g : Nat → Bool) : ∀ n, msk g n = 0 ↔ ∀ i, i < n → g i = false := fun n => by
  constructor
  · intro h i hi
    have := msk_bit g n i
    rw [h] at this
    cases hg : g i with
    | false => rfl
    | true => rw [if_pos ⟨hi, hg⟩] at this; simp at this
  · intro h
    apply Nat.eq_of_testBit_eq
    intro i
    rw [msk_tb, Nat.zero_testBit]
    by_cases hi : i < n
    · rw [h i hi]; simp
    · simp [hi]
theorem jC_fin {T : Tn} (hT : TnOk T) (N : Nw) : ∀ n, n ≤ tF T → (∀ g, g < n → yd T g (owm N g) < 100000) → jC T N n ≤ 21645 * n
  | 0, _, _ => Nat.le_refl _
  | n + 1, hn, h => by
    have ih := jC_fin hT N n (by omega) (fun g hg => h g (by omega))
    have h1 := yd_bd hT n (owm N n)
    have h2 := h n (by omega)
    have h3 := (hT.2.2.2 n (by omega)).2.2.2
    have h4 : yd T n (owm N n) * tN T n ≤ 2405 * 9 := Nat.mul_le_mul (by omega) h3
    simp only [jC]; omega
theorem jC_inf {T : Tn} (hT : TnOk T) (N : Nw) {g : Nat} (hg : ¬ yd T g (owm N g) < 100000) : ∀ n, n ≤ tF T → g < n → 100000 ≤ jC T N n
  | 0, _, h => by omega
  | n + 1, hn, h => by
    simp only [jC]
    by_cases e : g = n
    · subst e
      have h3 := (hT.2.2.2 g (by omega)).2.2.1
      have h4 : 100000 * 1 ≤ yd T g (owm N g) * tN T g := Nat.mul_le_mul (by omega) h3
      omega
    · have := jC_inf hT N hg n (by omega) (by omega); omega
theorem jL_fin {T : Tn} (N : Nw) : ∀ n, (∀ g, g < n → yd T g (owm N g) < 100000) → jL T N n < 100000
  | 0, _ => by simp [jL]
  | n + 1, h => by
    have ih := jL_fin N n (fun g hg => h g (by omega))
    have h2 := h n (by omega)
    simp only [jL]; split <;> omega
theorem jL_inf {T : Tn} (N : Nw) {g : Nat} (hg : ¬ yd T g (owm N g) < 100000) : ∀ n, g < n → 100000 ≤ jL T N n
  | 0, h => by omega
  | n + 1, h => by
    simp only [jL]
    by_cases e : g = n
    · subst e; split <;> omega
    · have := jL_inf N hg n (by omega); split <;> omega
theorem m_judge (θ : Site) (S : St) (L : Nat) (x : Nat → Nat) (T : Tn) (N : Nw) (im : Nat → Option Nw) (tr : Int64) (hA : AOk T N im) (hR : RM S L x T N im tr) (w : Int32) : Cti yX10_judge cX10_judge 7 (some .int) 20 θ shM [.ref (sA θ 0), .int w] S (fun r S' => r = sJudge T N w ∧ RM S' L x T N im tr) := by
  obtain ⟨hok, hNo, hIm⟩ := hA
  have hR' := hR
  obtain ⟨hx, hT, hN, hI, htr⟩ := hR
  have h8 := hok.1
  have hF4 := hok.2.1
  refine Cti.mk (own := RX10) 5 [some (.ref (sA θ 0)), some (.int w), none, none, none, none, none] (fun K hC => ?_)
  refine q_iload_n hC dX10_judge_0 ?_
  refine q_i2l hC dX10_judge_1 ?_
  refine q_lconst (v := lN 0) hC dX10_judge_2 (by decide) ?_
  refine q_ldc2 hC klX10_198 dX10_judge_3 ?_
  refine q_calliS3 hC csX10_71 dX10_judge_6 (m_inN θ _ w 2 3 rfl (by decide)) (by decide) (fun r S1 hr => ?_)
  obtain ⟨rfl, hS⟩ := hr
  have hS := hS.symm
  subst hS
  cases hw : ixN w 3 with
  | none =>
    refine q_if_ne hC 14 dX10_judge_9 (by decide) (fun hz => absurd hz (by first | decide | exact (show ¬ nI 1 = 0 by decide))) (fun hb => ?_)
    refine q_iconst (v := (-1)) hC dX10_judge_12 (by decide) ?_
    refine q_iret hC dX10_judge_13 ?_
    exact ⟨by simp [sJudge, hw], hR'⟩
  | some k =>
    obtain ⟨hk, rfl⟩ := ixN_some (by decide) hw
    have loop : ∀ n f s l l6 S1, f + n = tF T → Fr S S1 [14] → ((∀ g, g < f → yd T g (owm N g) < 100000) → s = nI (jC T N f) ∧ l = nI (jL T N f)) → K 24 [some (.ref (sA θ 0)), some (.int (nI k)), some (.int (s)), some (.int (l)), some (.int (nI (msk (jM T N) f))), some (.int (nI f)), l6] [] S1 := by
      intro n
      induction n with
      | zero =>
        intro f s l l6 S1 hf hF hs
        have e : f = tF T := by omega
        subst e
        have hRR := hR'.fr (hF.mono (M := [14, 15, 16, 17, 18, 19]) (by decide))
        have hml := msk_lt (jM T N) (tF T)
        have hm16 : 2 ^ tF T ≤ 2 ^ 4 := Nat.pow_le_pow_right (by omega) hF4
        refine q_iload hC dX10_judge_24 ?_
        refine q_aload_n hC dX10_judge_26 ?_
        refine q_getI hC (by first | assumption | rfl) flX10_75 dX10_judge_27 ?_
        rw [hF.c 0, hT.2.1]
        refine q_icmp_ge hC 103 dX10_judge_30 (by decide) (fun hb => ?_) (fun hz => absurd hz (fun z => z (nI_le (Nat.le_refl _) (by omega))))
        by_cases hz : msk (jM T N) (tF T) = 0
        · have hall : ∀ g, g < tF T → yd T g (owm N g) < 100000 := fun g hg => by
            have := (msk_0 _ _).mp hz g hg
            unfold jM at this
            have : ¬ 100000 ≤ yd T g (owm N g) := by simpa using this
            omega
          obtain ⟨rfl, rfl⟩ := hs hall
          rw [hz]
          have c1 := jC_fin hok N (tF T) (Nat.le_refl _) hall
          have c2 := jL_fin (T := T) N (tF T) hall
          rcases (show k = 0 ∨ k = 1 ∨ k = 2 by omega) with rfl | rfl | rfl
          · refine q_iload_n hC dX10_judge_103 ?_
            refine q_iconst (v := nI 2) hC dX10_judge_104 (by decide) ?_
            refine q_icmp_ne hC 113 dX10_judge_105 (by decide) (fun hb => ?_) (fun hz => absurd hz (by first | decide | exact (show ¬ nI 1 = 0 by decide)))
            refine q_iload hC dX10_judge_113 ?_
            refine q_if_eq hC 123 dX10_judge_115 (by decide) (fun hb => ?_) (fun hz => absurd hz (by first | decide | exact (show ¬ nI 1 = 0 by decide)))
            refine q_iload_n hC dX10_judge_123 ?_
            refine q_if_ne hC 131 dX10_judge_124 (by decide) (fun hz => absurd hz (by first | decide | exact (show ¬ nI 1 = 0 by decide))) (fun hb => ?_)
            refine q_iload_n hC dX10_judge_127 ?_
            refine q_goto hC 132 dX10_judge_128 (by decide) ?_
            refine q_iret hC dX10_judge_132 ?_
            refine ⟨?_, hRR⟩
            simp only [sJudge, hw]
            rw [orN_lt (by omega)]
          · refine q_iload_n hC dX10_judge_103 ?_
            refine q_iconst (v := nI 2) hC dX10_judge_104 (by decide) ?_
            refine q_icmp_ne hC 113 dX10_judge_105 (by decide) (fun hb => ?_) (fun hz => absurd hz (by first | decide | exact (show ¬ nI 1 = 0 by decide)))
            refine q_iload hC dX10_judge_113 ?_
            refine q_if_eq hC 123 dX10_judge_115 (by decide) (fun hb => ?_) (fun hz => absurd hz (by first | decide | exact (show ¬ nI 1 = 0 by decide)))
            refine q_iload_n hC dX10_judge_123 ?_
            refine q_if_ne hC 131 dX10_judge_124 (by decide) (fun hb => ?_) (fun hz => absurd hz (by first | decide | exact (show ¬ nI 1 = 0 by decide)))
            refine q_iload_n hC dX10_judge_131 ?_
            refine q_iret hC dX10_judge_132 ?_
            refine ⟨?_, hRR⟩
            simp only [sJudge, hw]
            rw [orN_lt c2]
          · refine q_iload_n hC dX10_judge_103 ?_
            refine q_iconst (v := nI 2) hC dX10_judge_104 (by decide) ?_
            refine q_icmp_ne hC 113 dX10_judge_105 (by decide) (fun hz => absurd hz (by first | decide | exact (show ¬ nI 1 = 0 by decide))) (fun hb => ?_)
            refine q_iload hC dX10_judge_108 ?_
            refine q_goto hC 132 dX10_judge_110 (by decide) ?_
            refine q_iret hC dX10_judge_132 ?_
            refine ⟨?_, hRR⟩
            simp only [sJudge, hw]
            rw [hz]
        · have hex : ∃ g, g < tF T ∧ ¬ yd T g (owm N g) < 100000 := by
            refine Classical.byContradiction (fun hn => hz ((msk_0 _ _).mpr (fun i hi => ?_)))
            have : yd T i (owm N i) < 100000 := Classical.byContradiction (fun z => hn ⟨i, hi, z⟩)
            unfold jM
            have h2 : ¬ 100000 ≤ yd T i (owm N i) := by omega
            simpa using h2
          obtain ⟨g, hg1, hg2⟩ := hex
          have c1 := jC_inf hok N hg2 (tF T) (Nat.le_refl _) hg1
          have c2 := jL_inf (T := T) N hg2 (tF T) hg1
          rcases (show k = 0 ∨ k = 1 ∨ k = 2 by omega) with rfl | rfl | rfl
          · refine q_iload_n hC dX10_judge_103 ?_
            refine q_iconst (v := nI 2) hC dX10_judge_104 (by decide) ?_
            refine q_icmp_ne hC 113 dX10_judge_105 (by decide) (fun hb => ?_) (fun hz => absurd hz (by decide))
            refine q_iload hC dX10_judge_113 ?_
            refine q_if_eq hC 123 dX10_judge_115 (by decide) (fun hz => absurd hz (nI_ne0 (by omega) (by omega))) (fun hb => ?_)
            refine q_bipush (v := (-9)) hC dX10_judge_118 (by decide) ?_
            refine q_goto hC 132 dX10_judge_120 (by decide) ?_
            refine q_iret hC dX10_judge_132 ?_
            refine ⟨?_, hRR⟩
            simp only [sJudge, hw]
            rw [orN_ge (by omega)]
          · refine q_iload_n hC dX10_judge_103 ?_
            refine q_iconst (v := nI 2) hC dX10_judge_104 (by decide) ?_
            refine q_icmp_ne hC 113 dX10_judge_105 (by decide) (fun hb => ?_) (fun hz => absurd hz (by decide))
            refine q_iload hC dX10_judge_113 ?_
            refine q_if_eq hC 123 dX10_judge_115 (by decide) (fun hz => absurd hz (nI_ne0 (by omega) (by omega))) (fun hb => ?_)
            refine q_bipush (v := (-9)) hC dX10_judge_118 (by decide) ?_
            refine q_goto hC 132 dX10_judge_120 (by decide) ?_
            refine q_iret hC dX10_judge_132 ?_
            refine ⟨?_, hRR⟩
            simp only [sJudge, hw]
            rw [orN_ge (by omega)]
          · refine q_iload_n hC dX10_judge_103 ?_
            refine q_iconst (v := nI 2) hC dX10_judge_104 (by decide) ?_
            refine q_icmp_ne hC 113 dX10_judge_105 (by decide) (fun hz => absurd hz (by first | decide | exact (show ¬ nI 1 = 0 by decide))) (fun hb => ?_)
            refine q_iload hC dX10_judge_108 ?_
            refine q_goto hC 132 dX10_judge_110 (by decide) ?_
            refine q_iret hC dX10_judge_132 ?_
            refine ⟨?_, hRR⟩
            simp only [sJudge, hw]
      | succ n ih =>
        intro f s l l6 S1 hf hF hs
        have hf4 : f < 4 := by omega
        have hRR := hR'.fr (hF.mono (M := [14, 15, 16, 17, 18, 19]) (by decide))
        have tn := (hRR.2.1.2.2.2 f (by omega)).2.2
        refine q_iload hC dX10_judge_24 ?_
        refine q_aload_n hC dX10_judge_26 ?_
        refine q_getI hC (by first | assumption | rfl) flX10_75 dX10_judge_27 ?_
        rw [hF.c 0, hT.2.1]
        refine q_icmp_ge hC 103 dX10_judge_30 (by decide) (fun hz => absurd hz (fun z => by have := (nI_leI (by omega) (by omega)).mp z; omega)) (fun hb => ?_)
        refine q_aload_n hC dX10_judge_33 ?_
        refine q_iload hC dX10_judge_34 ?_
        refine q_aload_n hC dX10_judge_36 ?_
        refine q_aload_n hC dX10_judge_37 ?_
        refine q_getR hC (by first | assumption | rfl) flX10_31 dX10_judge_38 ?_
        refine q_iload hC dX10_judge_41 ?_
        refine q_calliV2 hC (by first | assumption | rfl) cvX10_178 dX10_judge_43 (m_own θ _ f T N hok hNo hRR.2.1.1 (fun p hp => (hRR.2.2.1.1 p hp).1) hf4) (by decide) (fun r S1 hr => ?_)
        obtain ⟨rfl, hS⟩ := hr
        have hS := hS.symm
        subst hS
        refine q_calliV2 hC (by first | assumption | rfl) cvX10_192 dX10_judge_46 (m_wayOf θ _ f _ T hok hRR.2.1 (by omega) (owm_lt N f)) (by decide) (fun r S2 hr => ?_)
        obtain ⟨rfl, hF2, -⟩ := hr
        have hF3 := hF.trans hF2
        have htn : S2.1 7 f = nI (tN T f) := by rw [hF3.c 7]; exact (hT.2.2.2 f (by omega)).2.2
        have hyb := yd_bd hok f (owm N f)
        by_cases hy : yd T f (owm N f) < 100000
        · rw [orN_lt hy]
          have hjm : jM T N f = false := by unfold jM; have : ¬ 100000 ≤ yd T f (owm N f) := by omega
                                            simpa using this
          refine q_istore_6 hC dX10_judge_49 ?_
          refine q_iload hC dX10_judge_51 ?_
          refine q_iload hC dX10_judge_53 ?_
          refine q_bipush (v := (-9)) hC dX10_judge_55 (by decide) ?_
          refine q_icmp_ne hC 67 dX10_judge_57 (by decide) (fun hb => ?_) (fun hz => absurd hz (nI_n9 (by omega)))
          refine q_iconst (v := nI 0) hC dX10_judge_67 (by decide) ?_
          refine q_ior hC dX10_judge_68 ?_
          rw [show nI 0 = (if jM T N f = true then nI (2 ^ f) else nI 0) by rw [hjm]; rfl, msk_or (jM T N) f]
          refine q_istore_4 hC dX10_judge_69 ?_
          refine q_iload_n hC dX10_judge_71 ?_
          refine q_iload hC dX10_judge_72 ?_
          refine q_aload_n hC dX10_judge_74 ?_
          refine q_getR hC (by first | assumption | rfl) flX10_28 dX10_judge_75 ?_
          refine q_iload hC dX10_judge_78 ?_
          refine q_ialdn hC (by first | assumption | rfl) (by first | assumption | omega) dX10_judge_80 ?_
          rw [htn]
          refine q_imul hC dX10_judge_81 ?_
          refine q_iadd hC dX10_judge_82 ?_
          refine q_istore_2 hC dX10_judge_83 ?_
          refine q_iload hC dX10_judge_84 ?_
          refine q_iload_n hC dX10_judge_86 ?_
          refine q_icmp_le hC 95 dX10_judge_87 (by decide) (fun hc => ?_) (fun hc => ?_)
          · refine q_iload_n hC dX10_judge_95 ?_
            refine q_istore_3 hC dX10_judge_96 ?_
            refine q_inc1_5 hC dX10_judge_97 ?_
            refine q_goto hC 24 dX10_judge_100 (by decide) ?_
            refine ih (f + 1) _ _ _ _ (by omega) hF3 (fun hall => ?_)
            obtain ⟨e1, e2⟩ := hs (fun g hg => hall g (by omega))
            subst e1 e2
            have hjl := jL_fin (T := T) N f (fun g hg => hall g (by omega))
            refine ⟨?_, ?_⟩
            · rw [pk_mul, nI_add]; rfl
            · have := (nI_leI (by omega) (by omega)).mp hc
              simp only [jL]; rw [if_neg (by omega)]
          · refine q_iload hC dX10_judge_90 ?_
            refine q_goto hC 96 dX10_judge_92 (by decide) ?_
            refine q_istore_3 hC dX10_judge_96 ?_
            refine q_inc1_5 hC dX10_judge_97 ?_
            refine q_goto hC 24 dX10_judge_100 (by decide) ?_
            refine ih (f + 1) _ _ _ _ (by omega) hF3 (fun hall => ?_)
            obtain ⟨e1, e2⟩ := hs (fun g hg => hall g (by omega))
            subst e1 e2
            have hjl := jL_fin (T := T) N f (fun g hg => hall g (by omega))
            refine ⟨?_, ?_⟩
            · rw [pk_mul, nI_add]; rfl
            · have : ¬ yd T f (owm N f) ≤ jL T N f := fun z => hc (nI_le z (by omega))
              simp only [jL]; rw [if_pos (by omega)]
        · rw [orN_ge hy]
          have hjm : jM T N f = true := by unfold jM; have : 100000 ≤ yd T f (owm N f) := by omega
                                           simpa using this
          refine q_istore_6 hC dX10_judge_49 ?_
          refine q_iload hC dX10_judge_51 ?_
          refine q_iload hC dX10_judge_53 ?_
          refine q_bipush (v := (-9)) hC dX10_judge_55 (by decide) ?_
          refine q_icmp_ne hC 67 dX10_judge_57 (by decide) (fun hz => absurd hz (by first | decide | exact (show ¬ nI 1 = 0 by decide))) (fun hb => ?_)
          refine q_iconst (v := nI 1) hC dX10_judge_60 (by decide) ?_
          refine q_iload hC dX10_judge_61 ?_
          refine q_ishl hC dX10_judge_63 ?_
          rw [sh1 (by omega)]
          refine q_goto hC 68 dX10_judge_64 (by decide) ?_
          refine q_ior hC dX10_judge_68 ?_
          rw [show nI (2 ^ f) = (if jM T N f = true then nI (2 ^ f) else nI 0) by rw [hjm]; rfl, msk_or (jM T N) f]
          refine q_istore_4 hC dX10_judge_69 ?_
          refine q_iload_n hC dX10_judge_71 ?_
          refine q_iload hC dX10_judge_72 ?_
          refine q_aload_n hC dX10_judge_74 ?_
          refine q_getR hC (by first | assumption | rfl) flX10_28 dX10_judge_75 ?_
          refine q_iload hC dX10_judge_78 ?_
          refine q_ialdn hC (by first | assumption | rfl) (by first | assumption | omega) dX10_judge_80 ?_
          rw [htn]
          refine q_imul hC dX10_judge_81 ?_
          refine q_iadd hC dX10_judge_82 ?_
          refine q_istore_2 hC dX10_judge_83 ?_
          refine q_iload hC dX10_judge_84 ?_
          refine q_iload_n hC dX10_judge_86 ?_
          refine q_icmp_le hC 95 dX10_judge_87 (by decide) (fun hc => ?_) (fun hc => ?_)
          · refine q_iload_n hC dX10_judge_95 ?_
            refine q_istore_3 hC dX10_judge_96 ?_
            refine q_inc1_5 hC dX10_judge_97 ?_
            refine q_goto hC 24 dX10_judge_100 (by decide) ?_
            exact ih (f + 1) _ _ _ _ (by omega) hF3 (fun hall => absurd (hall f (by omega)) hy)
          · refine q_iload hC dX10_judge_90 ?_
            refine q_goto hC 96 dX10_judge_92 (by decide) ?_
            refine q_istore_3 hC dX10_judge_96 ?_
            refine q_inc1_5 hC dX10_judge_97 ?_
            refine q_goto hC 24 dX10_judge_100 (by decide) ?_
            exact ih (f + 1) _ _ _ _ (by omega) hF3 (fun hall => absurd (hall f (by omega)) hy)
    refine q_if_ne hC 14 dX10_judge_9 (by decide) (fun hb => ?_) (fun hz => absurd hz (by first | decide | exact (show ¬ nI 1 = 0 by decide)))
    refine q_iconst (v := nI 0) hC dX10_judge_14 (by decide) ?_
    refine q_istore_2 hC dX10_judge_15 ?_
    refine q_iconst (v := nI 0) hC dX10_judge_16 (by decide) ?_
    refine q_istore_3 hC dX10_judge_17 ?_
    refine q_iconst (v := nI 0) hC dX10_judge_18 (by decide) ?_
    refine q_istore_4 hC dX10_judge_19 ?_
    refine q_iconst (v := nI 0) hC dX10_judge_21 (by decide) ?_
    refine q_istore_5 hC dX10_judge_22 ?_
    exact loop (tF T) 0 _ _ _ S (by omega) Fr.rfl' (fun _ => ⟨rfl, rfl⟩)
