theorem c_startAnew (θ : Site) (S : St) (T : Tn) (hF4 : tF T ≤ 4) : Ctv yX8_startAnew cX8_startAnew 1 none 1 θ shX [.ref (sA θ 36)] S (fun S' => Fr S S' [37] ∧ KnR S' T) := by
  refine Ctv.mk (own := RX8) 0 [some (.ref (sA θ 36))] (fun K hC => ?_)
  refine q_aload_n hC dX8_startAnew_0 ?_
  refine q_getR hC (by first | assumption | rfl) flX8_9 dX8_startAnew_1 ?_
  refine q_iconst (v := nI 0) hC dX8_startAnew_4 (by decide) ?_
  refine q_callvS2 hC csX8_22 dX8_startAnew_5 (c_fill θ _ 37 1024 _ (by decide) rfl) (by decide) (fun S1 hr => ?_)
  refine q_vret hC dX8_startAnew_8 ?_
  subst hr
  refine ⟨Fr.uA, fun f hf B hB => Or.inl ?_⟩
  rw [upA_s, if_pos (by omega)]
theorem c_leg (θ : Site) (S : St) (p : Nat) (T : Tn) (hok : TnOk T) (hT : TwR S 4 T) (hp : p < tP T) : Cti yX8_leg cX8_leg 2 (some .int) 0 θ shX [.ref (sA θ 36), .int (nI p)] S (fun r S' => r = nI (leg T p) ∧ S' = S) := by
  obtain ⟨n1, n2, n3, n4⟩ := hT
  have h8 := hok.1
  refine Cti.mk (own := RX8) 0 [some (.ref (sA θ 36)), some (.int (nI p))] (fun K hC => ?_)
  refine q_aload_n hC dX8_leg_0 ?_
  refine q_getR hC (by first | assumption | rfl) flX8_18 dX8_leg_1 ?_
  refine q_getR hC (by first | assumption | rfl) flX8_70 dX8_leg_4 ?_
  refine q_iload_n hC dX8_leg_7 ?_
  refine q_ialdn hC (by first | assumption | rfl) (by first | assumption | omega) dX8_leg_8 ?_
  rw [(n3 p hp).2.2]
  refine q_bipush (v := nI 16) hC dX8_leg_9 (by decide) ?_
  refine q_imul hC dX8_leg_11 ?_
  rw [pk_mul]
  refine q_iconst (v := nI 1) hC dX8_leg_12 (by decide) ?_
  refine q_iadd hC dX8_leg_13 ?_
  rw [nI_add]
  refine q_iret hC dX8_leg_14 ?_
  exact ⟨rfl, rfl⟩
theorem c_shorten (θ : Site) (S : St) (u v w Kb : Nat) (d : Nat → Nat) (hd : LfR S d) (hu : u < 6) (hv : v < 6) (hw : w ≤ 481) (hb2 : bd d Kb) (hK : Kb ≤ 90000) : Cti yX8_shorten cX8_shorten 4 (some .boolean) 0 θ shX [.ref (sA θ 36), .int (nI u), .int (nI v), .int (nI w)] S (fun r S' => r = nI (if d v + w < d u then 1 else 0) ∧ Fr S S' [38] ∧ LfR S' (rlx d u v w)) := by
  refine Cti.mkz (own := RX8) 0 [some (.ref (sA θ 36)), some (.int (nI u)), some (.int (nI v)), some (.int (nI w))] (fun K hC => ?_)
  have pv := phi_le (d := d) (v := v)
  have pu := phi_le (d := d) (v := u)
  refine q_aload_n hC dX8_shorten_0 ?_
  refine q_getR hC (by first | assumption | rfl) flX8_15 dX8_shorten_1 ?_
  refine q_iload_n hC dX8_shorten_4 ?_
  refine q_ialdn hC (by first | assumption | rfl) (by first | assumption | omega) dX8_shorten_5 ?_
  rw [hd v hv]
  refine q_iload_n hC dX8_shorten_6 ?_
  refine q_iadd hC dX8_shorten_7 ?_
  rw [nI_add]
  refine q_aload_n hC dX8_shorten_8 ?_
  refine q_getR hC (by first | assumption | rfl) flX8_15 dX8_shorten_9 ?_
  refine q_iload_n hC dX8_shorten_12 ?_
  refine q_ialdn hC (by first | assumption | rfl) (by first | assumption | omega) dX8_shorten_13 ?_
  rw [hd u hu]
  refine q_icmp_lt hC 19 dX8_shorten_14 (by decide) (fun hb => ?_) (fun hb => ?_)
  · have h1 : d v + w < d u := (phi_lt hb2 hK hw).mp ((nI_ltI (by omega) (by omega)).mp hb)
    refine q_aload_n hC dX8_shorten_19 ?_
    refine q_getR hC (by first | assumption | rfl) flX8_15 dX8_shorten_20 ?_
    refine q_iload_n hC dX8_shorten_23 ?_
    refine q_aload_n hC dX8_shorten_24 ?_
    refine q_getR hC (by first | assumption | rfl) flX8_15 dX8_shorten_25 ?_
    refine q_iload_n hC dX8_shorten_28 ?_
    refine q_ialdn hC (by first | assumption | rfl) (by first | assumption | omega) dX8_shorten_29 ?_
    rw [hd v hv]
    refine q_iload_n hC dX8_shorten_30 ?_
    refine q_iadd hC dX8_shorten_31 ?_
    rw [nI_add]
    refine q_iastn hC (by first | assumption | rfl) (by first | assumption | omega) dX8_shorten_32 ?_
    refine q_iconst (v := nI 1) hC dX8_shorten_33 (by decide) ?_
    refine q_iret hC dX8_shorten_34 ?_
    refine ⟨⟨by rw [if_pos h1], Fr.u1, fun x hx => ?_⟩, by decide⟩
    unfold rlx
    rw [if_pos h1]
    by_cases e : x = u
    · subst e; rw [up_s, upN_s, phi_rlx hb2 hK hw h1]
    · rw [up_of e, upN_o e, hd x hx]
  · have h1 : ¬ d v + w < d u := fun z => hb ((nI_ltI (by omega) (by omega)).mpr ((phi_lt hb2 hK hw).mpr z))
    refine q_iconst (v := nI 0) hC dX8_shorten_17 (by decide) ?_
    refine q_iret hC dX8_shorten_18 ?_
    exact ⟨⟨by rw [if_neg h1], Fr.rfl', by rw [rlx_eq h1]; exact hd⟩, by decide⟩
theorem c_measure (θ : Site) (S : St) (f B : Nat) (T : Tn) (hok : TnOk T) (hT : TwR S 4 T) (hf : f < tF T) (hB : B < 256) : Ctv yX8_measure cX8_measure 6 none 1 θ shX [.ref (sA θ 36), .int (nI f), .int (nI B)] S (fun S' => Fr S S' [38] ∧ LfR S' (dst T f B)) := by
  have h8 := hok.1
  have hF4 := hok.2.1
  have hg := (hok.2.2.2 f hf).2.1
  refine Ctv.mk (own := RX8) 3 [some (.ref (sA θ 36)), some (.int (nI f)), some (.int (nI B)), none, none, none] (fun K hC => ?_)
  -- the rounds
  have rounds : ∀ m r z S1 l5, r + m = 5 → z ≤ 1 → Fr S S1 [38] → LfR S1 (rds T B (ini (tG T f)) r) → (z = 0 → rnd T B (rds T B (ini (tG T f)) r) (tP T) = rds T B (ini (tG T f)) r) → K 29 [some (.ref (sA θ 36)), some (.int (nI f)), some (.int (nI B)), some (.int (nI z)), some (.int (nI (r + 1))), l5] [] S1 := by
    intro m
    induction m with
    | zero =>
      intro r z S1 l5 hr hz hF hL hfix
      have e : r = 5 := by omega
      subst e
      refine q_iload_n hC dX8_measure_29 ?_
      refine q_if_eq hC 144 dX8_measure_30 (by decide) (fun hb => ?_) (fun hb => ?_)
      · refine q_vret hC dX8_measure_144 ?_
        exact ⟨hF, hL⟩
      · refine q_iload hC dX8_measure_33 ?_
        refine q_bipush (v := nI 6) hC dX8_measure_35 (by decide) ?_
        refine q_icmp_ge hC 144 dX8_measure_37 (by decide) (fun hb => ?_) (fun hb => ?_)
        · refine q_vret hC dX8_measure_144 ?_
          exact ⟨hF, hL⟩
        · exact absurd (by decide) hb
    | succ m ih =>
      intro r z S1 l5 hr hz hF hL hfix
      refine q_iload_n hC dX8_measure_29 ?_
      refine q_if_eq hC 144 dX8_measure_30 (by decide) (fun hb => ?_) (fun hb => ?_)
      · refine q_vret hC dX8_measure_144 ?_
        have z0 : z = 0 := nI_small (by omega) (by omega) hb
        refine ⟨hF, ?_⟩
        have := rds_fix (hfix z0) (m + 1)
        rw [hr] at this
        unfold dst
        rw [this]; exact hL
      · refine q_iload hC dX8_measure_33 ?_
        refine q_bipush (v := nI 6) hC dX8_measure_35 (by decide) ?_
        refine q_icmp_ge hC 144 dX8_measure_37 (by decide) (fun hb => ?_) (fun hb => ?_)
        · exact absurd ((nI_leI (by omega) (by omega)).mp hb) (by omega)
        · have hbd := bd_rds hok (B := B) (t := tG T f) r (by omega)
          -- the pieces
          have pieces : ∀ k p y S2, p + k = tP T → y ≤ 1 → Fr S S2 [38] → LfR S2 (rnd T B (rds T B (ini (tG T f)) r) p) → (y = 0 → rnd T B (rds T B (ini (tG T f)) r) p = rds T B (ini (tG T f)) r) → K 45 [some (.ref (sA θ 36)), some (.int (nI f)), some (.int (nI B)), some (.int (nI y)), some (.int (nI (r + 1))), some (.int (nI p))] [] S2 := by
            intro k
            induction k with
            | zero =>
              intro p y S2 hp hy hF2 hL2 hx2
              have e : p = tP T := by omega
              subst e
              have hT2 := hT.fr4 hF2 rfl
              refine q_iload hC dX8_measure_45 ?_
              refine q_aload_n hC dX8_measure_47 ?_
              refine q_getR hC (by first | assumption | rfl) flX8_18 dX8_measure_48 ?_
              refine q_getI hC (by first | assumption | rfl) flX8_44 dX8_measure_51 ?_
              rw [hT2.1]
              refine q_icmp_ge hC 138 dX8_measure_54 (by decide) (fun hb => ?_) (fun hb => ?_)
              · refine q_inc1_4 hC dX8_measure_138 ?_
                refine q_goto hC 29 dX8_measure_141 (by decide) ?_
                exact ih (r + 1) y S2 _ (by omega) hy hF2 hL2 (fun y0 => by
                  have h9 := hx2 y0
                  show rnd T B (rnd T B (rds T B (ini (tG T f)) r) (tP T)) (tP T) = rnd T B (rds T B (ini (tG T f)) r) (tP T)
                  rw [h9, h9])
              · exact absurd (nI_le (Nat.le_refl _) (by omega)) hb
            | succ k ihp =>
              intro p y S2 hp hy hF2 hL2 hx2
              have hT2 := hT.fr4 hF2 rfl
              have hpo := hok.2.2.1 p (by omega)
              have hbp := bd_rnd hok (B := B) hbd (by omega) p (by omega)
              have hlg := leg_le hok (p := p) (by omega)
              refine q_iload hC dX8_measure_45 ?_
              refine q_aload_n hC dX8_measure_47 ?_
              refine q_getR hC (by first | assumption | rfl) flX8_18 dX8_measure_48 ?_
              refine q_getI hC (by first | assumption | rfl) flX8_44 dX8_measure_51 ?_
              rw [hT2.1]
              refine q_icmp_ge hC 138 dX8_measure_54 (by decide) (fun hb => ?_) (fun hb => ?_)
              · exact absurd ((nI_leI (by omega) (by omega)).mp hb) (by omega)
              · refine q_iload_n hC dX8_measure_57 ?_
                refine q_iload hC dX8_measure_58 ?_
                refine q_ishr hC dX8_measure_60 ?_
                refine q_iconst (v := nI 1) hC dX8_measure_61 (by decide) ?_
                refine q_iand hC dX8_measure_62 ?_
                rw [bit_n (by omega) (by omega)]
                have hb2 : B / 2 ^ p % 2 < 2 := Nat.mod_lt _ (by omega)
                refine q_if_ne hC 132 dX8_measure_63 (by decide) (fun hb => ?_) (fun hb => ?_)
                · have hbit : ¬ B / 2 ^ p % 2 = 0 := fun z => hb (by rw [z]; rfl)
                  have he : rnd T B (rds T B (ini (tG T f)) r) (p + 1) = rnd T B (rds T B (ini (tG T f)) r) p := by
                    show edg T B _ p = _
                    exact if_neg hbit
                  refine q_inc1_5 hC dX8_measure_132 ?_
                  refine q_goto hC 45 dX8_measure_135 (by decide) ?_
                  exact ihp (p + 1) y S2 (by omega) hy hF2 (by rw [he]; exact hL2) (by rw [he]; exact hx2)
                · have hbit : B / 2 ^ p % 2 = 0 := nI_small (by omega) (by omega) hb
                  refine q_iload_n hC dX8_measure_66 ?_
                  refine q_aload_n hC dX8_measure_67 ?_
                  refine q_aload_n hC dX8_measure_68 ?_
                  refine q_getR hC (by first | assumption | rfl) flX8_18 dX8_measure_69 ?_
                  refine q_getR hC (by first | assumption | rfl) flX8_56 dX8_measure_72 ?_
                  refine q_iload hC dX8_measure_75 ?_
                  refine q_ialdn hC (by first | assumption | rfl) (by first | assumption | omega) dX8_measure_77 ?_
                  rw [(hT2.2.2.1 p (by omega)).1]
                  refine q_aload_n hC dX8_measure_78 ?_
                  refine q_getR hC (by first | assumption | rfl) flX8_18 dX8_measure_79 ?_
                  refine q_getR hC (by first | assumption | rfl) flX8_59 dX8_measure_82 ?_
                  refine q_iload hC dX8_measure_85 ?_
                  refine q_ialdn hC (by first | assumption | rfl) (by first | assumption | omega) dX8_measure_87 ?_
                  rw [(hT2.2.2.1 p (by omega)).2.1]
                  refine q_aload_n hC dX8_measure_88 ?_
                  refine q_iload hC dX8_measure_89 ?_
                  refine q_calliV1 hC (by first | assumption | rfl) cvX8_62 dX8_measure_91 (c_leg θ _ p T hok hT2 (by omega)) (by decide) (fun r S1 hr => ?_)
                  obtain ⟨rfl, rfl⟩ := hr
                  refine q_calliV3 hC (by first | assumption | rfl) cvX8_66 dX8_measure_94 (c_shorten θ _ _ _ _ _ _ hL2 hpo.1 hpo.2.1 hlg hbp (by omega)) (by decide) (fun r3 S3 hr3 => ?_)
                  obtain ⟨rfl, hF3, hL3⟩ := hr3
                  refine q_ior hC dX8_measure_97 ?_
                  rw [or_n]
                  have hF23 := hF2.trans hF3
                  have hT3 := hT.fr4 hF23 rfl
                  have hbq := bd_rlx (u := tA T p) (v := tB T p) hbp hlg (by omega)
                  refine q_istore_3 hC dX8_measure_98 ?_
                  refine q_iload_n hC dX8_measure_99 ?_
                  refine q_aload_n hC dX8_measure_100 ?_
                  refine q_aload_n hC dX8_measure_101 ?_
                  refine q_getR hC (by first | assumption | rfl) flX8_18 dX8_measure_102 ?_
                  refine q_getR hC (by first | assumption | rfl) flX8_59 dX8_measure_105 ?_
                  refine q_iload hC dX8_measure_108 ?_
                  refine q_ialdn hC (by first | assumption | rfl) (by first | assumption | omega) dX8_measure_110 ?_
                  rw [(hT3.2.2.1 p (by omega)).2.1]
                  refine q_aload_n hC dX8_measure_111 ?_
                  refine q_getR hC (by first | assumption | rfl) flX8_18 dX8_measure_112 ?_
                  refine q_getR hC (by first | assumption | rfl) flX8_56 dX8_measure_115 ?_
                  refine q_iload hC dX8_measure_118 ?_
                  refine q_ialdn hC (by first | assumption | rfl) (by first | assumption | omega) dX8_measure_120 ?_
                  rw [(hT3.2.2.1 p (by omega)).1]
                  refine q_aload_n hC dX8_measure_121 ?_
                  refine q_iload hC dX8_measure_122 ?_
                  refine q_calliV1 hC (by first | assumption | rfl) cvX8_62 dX8_measure_124 (c_leg θ _ p T hok hT3 (by omega)) (by decide) (fun r S1 hr => ?_)
                  obtain ⟨rfl, rfl⟩ := hr
                  refine q_calliV3 hC (by first | assumption | rfl) cvX8_66 dX8_measure_127 (c_shorten θ _ _ _ _ _ _ hL3 hpo.2.1 hpo.1 hlg hbq (by omega)) (by decide) (fun r4 S4 hr4 => ?_)
                  obtain ⟨rfl, hF4', hL4⟩ := hr4
                  refine q_ior hC dX8_measure_130 ?_
                  rw [or_n]
                  refine q_istore_3 hC dX8_measure_131 ?_
                  refine q_inc1_5 hC dX8_measure_132 ?_
                  refine q_goto hC 45 dX8_measure_135 (by decide) ?_
                  have he : rnd T B (rds T B (ini (tG T f)) r) (p + 1) = rlx (rlx (rnd T B (rds T B (ini (tG T f)) r) p) (tA T p) (tB T p) (leg T p)) (tB T p) (tA T p) (leg T p) := by
                    show edg T B _ p = _
                    exact if_pos hbit
                  refine ihp (p + 1) _ S4 (by omega) ?_ (hF23.trans hF4') (by rw [he]; exact hL4) ?_
                  · rcases (show y = 0 ∨ y = 1 by omega) with rfl | rfl <;> (repeat' split) <;> decide
                  · intro y0
                    rw [he]
                    have y1 : y = 0 := by
                      rcases (show y = 0 ∨ y = 1 by omega) with rfl | rfl
                      · rfl
                      · revert y0; (repeat' split) <;> decide
                    subst y1
                    by_cases c1 : rnd T B (rds T B (ini (tG T f)) r) p (tB T p) + leg T p < rnd T B (rds T B (ini (tG T f)) r) p (tA T p)
                    · rw [if_pos c1] at y0
                      exfalso; revert y0; split <;> decide
                    · rw [if_neg c1] at y0
                      rw [rlx_eq c1] at y0 ⊢
                      by_cases c2 : rnd T B (rds T B (ini (tG T f)) r) p (tA T p) + leg T p < rnd T B (rds T B (ini (tG T f)) r) p (tB T p)
                      · rw [if_pos c2] at y0
                        exact absurd y0 (by decide)
                      · rw [rlx_eq c2]; exact hx2 rfl
          refine q_iconst (v := nI 0) hC dX8_measure_40 (by decide) ?_
          refine q_istore_3 hC dX8_measure_41 ?_
          refine q_iconst (v := nI 0) hC dX8_measure_42 (by decide) ?_
          refine q_istore_5 hC dX8_measure_43 ?_
          exact pieces (tP T) 0 0 S1 (by omega) (by omega) hF hL (fun _ => rfl)
  refine q_aload_n hC dX8_measure_0 ?_
  refine q_getR hC (by first | assumption | rfl) flX8_15 dX8_measure_1 ?_
  refine q_ldc hC kcX8_49 dX8_measure_4 ?_
  refine q_callvS2 hC csX8_22 dX8_measure_6 (c_fill θ _ 38 6 _ (by decide) rfl) (by decide) (fun S1 hr => ?_)
  subst hr
  have hT1 := hT.fr4 (Fr.uA (S := S) (k := 38) (f := fun j => if j < 6 then nI 1600000 else S.1 38 j)) rfl
  refine q_aload_n hC dX8_measure_9 ?_
  refine q_getR hC (by first | assumption | rfl) flX8_15 dX8_measure_10 ?_
  refine q_aload_n hC dX8_measure_13 ?_
  refine q_getR hC (by first | assumption | rfl) flX8_18 dX8_measure_14 ?_
  refine q_getR hC (by first | assumption | rfl) flX8_53 dX8_measure_17 ?_
  refine q_iload_n hC dX8_measure_20 ?_
  refine q_ialdn hC (by first | assumption | rfl) (by first | assumption | omega) dX8_measure_21 ?_
  rw [(hT1.2.2.2 f hf).2.1]
  refine q_iconst (v := nI 0) hC dX8_measure_22 (by decide) ?_
  refine q_iastn hC (by first | assumption | rfl) (by first | assumption | omega) dX8_measure_23 ?_
  refine q_iconst (v := nI 1) hC dX8_measure_24 (by decide) ?_
  refine q_istore_3 hC dX8_measure_25 ?_
  refine q_iconst (v := nI 1) hC dX8_measure_26 (by decide) ?_
  refine q_istore_4 hC dX8_measure_27 ?_
  refine rounds 5 0 1 _ _ rfl (Nat.le_refl _) (Fr.trans Fr.uA Fr.u1) (fun v hv => ?_) (fun h => absurd h (by decide))
  show _ = nI (phi (ini (tG T f) v))
  by_cases e : v = tG T f
  · subst e; rw [up_s]; simp [ini, phi]
  · rw [up_of e, upA_s, if_pos hv]; simp [ini, phi, e]
