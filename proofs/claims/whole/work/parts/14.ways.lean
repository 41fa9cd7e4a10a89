theorem c_startAnew (θ : Site) (S : St) (T : Tn) (hF4 : tF T ≤ 4) : Ctv yX8_startAnew cX8_startAnew 1 none 1 θ shX [.ref (sA θ 36)] S (fun S' => Fr S S' [37] ∧ KnR S' T) := by
  refine Ctv.mk (own := RX8) 0 [some (.ref (sA θ 36))] (fun K hC => ?_)
  refine q_aload_n hC dX8_startAnew_0 ?_
  refine q_getR hC (by first | assumption | rfl) flX8_9 dX8_startAnew_1 ?_
  refine q_iconst (v := nI 0) hC dX8_startAnew_4 (by decide) ?_
  refine q_callvS2 hC csX8_22 dX8_startAnew_5 (c_fill θ _ 37 1024 _ (by decide) rfl) (by decide) (fun S1 hr => ?_)
  refine q_vret hC dX8_startAnew_8 ?_
  subst hr
  refine ⟨Fr.uA, fun f hf B hB => Or.inl ?_⟩
  rw [upA_s, if_pos (by omega)]
theorem c_leg (θ : Site) (S : St) (p : Nat) (T : Tn) (hok : TnOk T) (hT : TwR S 4 T) (hp : p < tP T) : Cti yX8_leg cX8_leg 2 (some .int) 0 θ shX [.ref (sA θ 36), .int (nI p)] S (fun r S' => r = nI (leg T p) ∧ S' = S) := by
  obtain ⟨n1, n2, n3, n4⟩ := hT
  have h8 := hok.1
  refine Cti.mk (own := RX8) 0 [some (.ref (sA θ 36)), some (.int (nI p))] (fun K hC => ?_)
  refine q_aload_n hC dX8_leg_0 ?_
  refine q_getR hC (by first | assumption | rfl) flX8_18 dX8_leg_1 ?_
  refine q_getR hC (by first | assumption | rfl) flX8_70 dX8_leg_4 ?_
  refine q_iload_n hC dX8_leg_7 ?_
  refine q_ialdn hC (by first | assumption | rfl) (by first | assumption | omega) dX8_leg_8 ?_
  rw [(n3 p hp).2.2]
  refine q_bipush (v := nI 16) hC dX8_leg_9 (by decide) ?_
  refine q_imul hC dX8_leg_11 ?_
  rw [pk_mul]
  refine q_iconst (v := nI 1) hC dX8_leg_12 (by decide) ?_
  refine q_iadd hC dX8_leg_13 ?_
  rw [nI_add]
  refine q_iret hC dX8_leg_14 ?_
  exact ⟨rfl, rfl⟩
theorem c_shorten (θ : Site) (S : St) (u v w Kb : Nat) (d : Nat → Nat) (hd : LfR S d) (hu : u < 6) (hv : v < 6) (hw : w ≤ 481) (hb2 : bd d Kb) (hK : Kb ≤ 90000) : Cti yX8_shorten cX8_shorten 4 (some .boolean) 0 θ shX [.ref (sA θ 36), .int (nI u), .int (nI v), .int (nI w)] S (fun r S' => r = nI (if d v + w < d u then 1 else 0) ∧ Fr S S' [38] ∧ LfR S' (rlx d u v w)) := by
  refine Cti.mkz (own := RX8) 0 [some (.ref (sA θ 36)), some (.int (nI u)), some (.int (nI v)), some (.int (nI w))] (fun K hC => ?_)
  have pv := phi_le (d := d) (v := v)
  have pu := phi_le (d := d) (v := u)
  refine q_aload_n hC dX8_shorten_0 ?_
  refine q_getR hC (by first | assumption | rfl) flX8_15 dX8_shorten_1 ?_
  refine q_iload_n hC dX8_shorten_4 ?_
  refine q_ialdn hC (by first | assumption | rfl) (by first | assumption | omega) dX8_shorten_5 ?_
  rw [hd v hv]
  refine q_iload_n hC dX8_shorten_6 ?_
  refine q_iadd hC dX8_shorten_7 ?_
  rw [nI_add]
  refine q_aload_n hC dX8_shorten_8 ?_
  refine q_getR hC (by first | assumption | rfl) flX8_15 dX8_shorten_9 ?_
  refine q_iload_n hC dX8_shorten_12 ?_
  refine q_ialdn hC (by first | assumption | rfl) (by first | assumption | omega) dX8_shorten_13 ?_
  rw [hd u hu]
  refine q_icmp_lt hC 19 dX8_shorten_14 (by decide) (fun hb => ?_) (fun hb => ?_)
  · have h1 : d v + w < d u := (phi_lt hb2 hK hw).mp ((nI_ltI (by omega) (by omega)).mp hb)
    refine q_aload_n hC dX8_shorten_19 ?_
    refine q_getR hC (by first | assumption | rfl) flX8_15 dX8_shorten_20 ?_
    refine q_iload_n hC dX8_shorten_23 ?_
    refine q_aload_n hC dX8_shorten_24 ?_
    refine q_getR hC (by first | assumption | rfl) flX8_15 dX8_shorten_25 ?_
    refine q_iload_n hC dX8_shorten_28 ?_
    refine q_ialdn hC (by first | assumption | rfl) (by first | assumption | omega) dX8_shorten_29 ?_
    rw [hd v hv]
    refine q_iload_n hC dX8_shorten_30 ?_
    refine q_iadd hC dX8_shorten_31 ?_
    rw [nI_add]
    refine q_iastn hC (by first | assumption | rfl) (by first | assumption | omega) dX8_shorten_32 ?_
    refine q_iconst (v := nI 1) hC dX8_shorten_33 (by decide) ?_
    refine q_iret hC dX8_shorten_34 ?_
    refine ⟨⟨by rw [if_pos h1], Fr.u1, fun x hx => ?_⟩, by decide⟩
    unfold rlx
    rw [if_pos h1]
    by_cases e : x = u
    · subst e; rw [up_s, upN_s, phi_rlx hb2 hK hw h1]
    · rw [up_of e, upN_o e, hd x hx]
  · have h1 : ¬ d v + w < d u := fun z => hb ((nI_ltI (by omega) (by omega)).mpr ((phi_lt hb2 hK hw).mpr z))
    refine q_iconst (v := nI 0) hC dX8_shorten_17 (by decide) ?_
    refine q_iret hC dX8_shorten_18 ?_
    exact ⟨⟨by rw [if_neg h1], Fr.rfl', by rw [rlx_eq h1]; exact hd⟩, by decide⟩
theorem c_measure (θ : Site) (S : St) (f B : Nat) (T : Tn) (hok : TnOk T) (hT : TwR S 4 T) (hf : f < tF T) (hB : B < 256) : Ctv yX8_measure cX8_measure 6 none 1 θ shX [.ref (sA θ 36), .int (nI f), .int (nI B)] S (fun S' => Fr S S' [38] ∧ LfR S' (dst T f B)) := by
  have h8 := hok.1
  have hF4 := hok.2.1
  have hg := (hok.2.2.2 f hf).2.1
  refine Ctv.mk (own := RX8) 3 [some (.ref (sA θ 36)), some (.int (nI f)), some (.int (nI B)), none, none, none] (fun K hC => ?_)
  -- the rounds
  have rounds : ∀ m r z S1 l5, r + m = 5 → z ≤ 1 → Fr S S1 [38] → LfR S1 (rds T B (ini (tG T f)) r) → (z = 0 → rnd T B (rds T B (ini (tG T f)) r) (tP T) = rds T B (ini (tG T f)) r) → K 29 [some (.ref (sA θ 36)), some (.int (nI f)), some (.int (nI B)), some (.int (nI z)), some (.int (nI (r + 1))), l5] [] S1 := by
    intro m
    induction m with
    | zero =>
      intro r z S1 l5 hr hz hF hL hfix
      have e : r = 5 := by omega
      subst e
      refine q_iload_n hC dX8_measure_29 ?_
      refine q_if_eq hC 144 dX8_measure_30 (by decide) (fun hb => ?_) (fun hb => ?_)
      · refine q_vret hC dX8_measure_144 ?_
        exact ⟨hF, hL⟩
      · refine q_iload hC dX8_measure_33 ?_
        refine q_bipush (v := nI 6) hC dX8_measure_35 (by decide) ?_
        refine q_icmp_ge hC 144 dX8_measure_37 (by decide) (fun hb => ?_) (fun hb => ?_)
        · refine q_vret hC dX8_measure_144 ?_
          exact ⟨hF, hL⟩
        · exact absurd (by decide) hb
    | succ m ih =>
      intro r z S1 l5 hr hz hF hL hfix
      refine q_iload_n hC dX8_measure_29 ?_
      refine q_if_eq hC 144 dX8_measure_30 (by decide) (fun hb => ?_) (fun hb => ?_)
      · refine q_vret hC dX8_measure_144 ?_
        have z0 : z = 0 := nI_small (by omega) (by omega) hb
        refine ⟨hF, ?_⟩
        have := rds_fix (hfix z0) (m + 1)
        rw [hr] at this
        unfold dst
        rw [this]; exact hL
      · refine q_iload hC dX8_measure_33 ?_
        refine q_bipush (v := nI 6) hC dX8_measure_35 (by decide) ?_
        refine q_icmp_ge hC 144 dX8_measure_37 (by decide) (fun hb => ?_) (fun hb => ?_)
        · exact absurd ((nI_leI (by omega) (by omega)).mp hb) (by omega)
        · have hbd := bd_rds hok (B := B) (t := tG T f) r (by omega)
          -- the pieces
          have pieces : ∀ k p y S2, p + k = tP T → y ≤ 1 → Fr S S2 [38] → LfR S2 (rnd T B (rds T B (ini (tG T f)) r) p) → (y = 0 → rnd T B (rds T B (ini (tG T f)) r) p = rds T B (ini (tG T f)) r) → K 45 [some (.ref (sA θ 36)), some (.int (nI f)), some (.int (nI B)), some (.int (nI y)), some (.int (nI (r + 1))), some (.int (nI p))] [] S2 := by
            intro k
            induction k with
            | zero =>
              intro p y S2 hp hy hF2 hL2 hx2
              have e : p = tP T := by omega
              subst e
              have hT2 := hT.fr4 hF2 rfl
              refine q_iload hC dX8_measure_45 ?_
              refine q_aload_n hC dX8_measure_47 ?_
              refine q_getR hC (by first | assumption | rfl) flX8_18 dX8_measure_48 ?_
              refine q_getI hC (by first | assumption | rfl) flX8_44 dX8_measure_51 ?_
              rw [hT2.1]
              refine q_icmp_ge hC 138 dX8_measure_54 (by decide) (fun hb => ?_) (fun hb => ?_)
              · refine q_inc1_4 hC dX8_measure_138 ?_
                refine q_goto hC 29 dX8_measure_141 (by decide) ?_
                exact ih (r + 1) y S2 _ (by omega) hy hF2 hL2 (fun y0 => by
                  have h9 := hx2 y0
                  show rnd T B (rnd T B (rds T B (ini (tG T f)) r) (tP T)) (tP T) = rnd T B (rds T B (ini (tG T f)) r) (tP T)
                  rw [h9, h9])
              · exact absurd (nI_le (Nat.le_refl _) (by omega)) hb
            | succ k ihp =>
              intro p y S2 hp hy hF2 hL2 hx2
              have hT2 := hT.fr4 hF2 rfl
              have hpo := hok.2.2.1 p (by omega)
              have hbp := bd_rnd hok (B := B) hbd (by omega) p (by omega)
              have hlg := leg_le hok (p := p) (by omega)
              refine q_iload hC dX8_measure_45 ?_
              refine q_aload_n hC dX8_measure_47 ?_
              refine q_getR hC (by first | assumption | rfl) flX8_18 dX8_measure_48 ?_
              refine q_getI hC (by first | assumption | rfl) flX8_44 dX8_measure_51 ?_
              rw [hT2.1]
              refine q_icmp_ge hC 138 dX8_measure_54 (by decide) (fun hb => ?_) (fun hb => ?_)
              · exact absurd ((nI_leI (by omega) (by omega)).mp hb) (by omega)
              · refine q_iload_n hC dX8_measure_57 ?_
                refine q_iload hC dX8_measure_58 ?_
                refine q_ishr hC dX8_measure_60 ?_
                refine q_iconst (v := nI 1) hC dX8_measure_61 (by decide) ?_
                refine q_iand hC dX8_measure_62 ?_
                rw [bit_n (by omega) (by omega)]
                have hb2 : B / 2 ^ p % 2 < 2 := Nat.mod_lt _ (by omega)
                refine q_if_ne hC 132 dX8_measure_63 (by decide) (fun hb => ?_) (fun hb => ?_)
                · have hbit : ¬ B / 2 ^ p % 2 = 0 := fun z => hb (by rw [z]; rfl)
                  have he : rnd T B (rds T B (ini (tG T f)) r) (p + 1) = rnd T B (rds T B (ini (tG T f)) r) p := by
                    show edg T B _ p = _
                    exact if_neg hbit
                  refine q_inc1_5 hC dX8_measure_132 ?_
                  refine q_goto hC 45 dX8_measure_135 (by decide) ?_
                  exact ihp (p + 1) y S2 (by omega) hy hF2 (by rw [he]; exact hL2) (by rw [he]; exact hx2)
                · have hbit : B / 2 ^ p % 2 = 0 := nI_small (by omega) (by omega) hb
                  refine q_iload_n hC dX8_measure_66 ?_
                  refine q_aload_n hC dX8_measure_67 ?_
                  refine q_aload_n hC dX8_measure_68 ?_
                  refine q_getR hC (by first | assumption | rfl) flX8_18 dX8_measure_69 ?_
                  refine q_getR hC (by first | assumption | rfl) flX8_56 dX8_measure_72 ?_
                  refine q_iload hC dX8_measure_75 ?_
                  refine q_ialdn hC (by first | assumption | rfl) (by first | assumption | omega) dX8_measure_77 ?_
                  rw [(hT2.2.2.1 p (by omega)).1]
                  refine q_aload_n hC dX8_measure_78 ?_
                  refine q_getR hC (by first | assumption | rfl) flX8_18 dX8_measure_79 ?_
                  refine q_getR hC (by first | assumption | rfl) flX8_59 dX8_measure_82 ?_
                  refine q_iload hC dX8_measure_85 ?_
                  refine q_ialdn hC (by first | assumption | rfl) (by first | assumption | omega) dX8_measure_87 ?_
                  rw [(hT2.2.2.1 p (by omega)).2.1]
                  refine q_aload_n hC dX8_measure_88 ?_
                  refine q_iload hC dX8_measure_89 ?_
                  refine q_calliV1 hC (by first | assumption | rfl) cvX8_62 dX8_measure_91 (c_leg θ _ p T hok hT2 (by omega)) (by decide) (fun r S1 hr => ?_)
                  obtain ⟨rfl, rfl⟩ := hr
                  refine q_calliV3 hC (by first | assumption | rfl) cvX8_66 dX8_measure_94 (c_shorten θ _ _ _ _ _ _ hL2 hpo.1 hpo.2.1 hlg hbp (by omega)) (by decide) (fun r3 S3 hr3 => ?_)
                  obtain ⟨rfl, hF3, hL3⟩ := hr3
                  refine q_ior hC dX8_measure_97 ?_
                  rw [or_n]
                  have hF23 := hF2.trans hF3
                  have hT3 := hT.fr4 hF23 rfl
                  have hbq := bd_rlx (u := tA T p) (v := tB T p) hbp hlg (by omega)
                  refine q_istore_3 hC dX8_measure_98 ?_
                  refine q_iload_n hC dX8_measure_99 ?_
                  refine q_aload_n hC dX8_measure_100 ?_
                  refine q_aload_n hC dX8_measure_101 ?_
                  refine q_getR hC (by first | assumption | rfl) flX8_18 dX8_measure_102 ?_
                  refine q_getR hC (by first | assumption | rfl) flX8_59 dX8_measure_105 ?_
                  refine q_iload hC dX8_measure_108 ?_
                  refine q_ialdn hC (by first | assumption | rfl) (by first | assumption | omega) dX8_measure_110 ?_
                  rw [(hT3.2.2.1 p (by omega)).2.1]
                  refine q_aload_n hC dX8_measure_111 ?_
                  refine q_getR hC (by first | assumption | rfl) flX8_18 dX8_measure_112 ?_
                  refine q_getR hC (by first | assumption | rfl) flX8_56 dX8_measure_115 ?_
                  refine q_iload hC dX8_measure_118 ?_
                  refine q_ialdn hC (by first | assumption | rfl) (by first | assumption | omega) dX8_measure_120 ?_
                  rw [(hT3.2.2.1 p (by omega)).1]
                  refine q_aload_n hC dX8_measure_121 ?_
                  refine q_iload hC dX8_measure_122 ?_
                  refine q_calliV1 hC (by first | assumption | rfl) cvX8_62 dX8_measure_124 (c_leg θ _ p T hok hT3 (by omega)) (by decide) (fun r S1 hr => ?_)
                  obtain ⟨rfl, rfl⟩ := hr
                  refine q_calliV3 hC (by first | assumption | rfl) cvX8_66 dX8_measure_127 (c_shorten θ _ _ _ _ _ _ hL3 hpo.2.1 hpo.1 hlg hbq (by omega)) (by decide) (fun r4 S4 hr4 => ?_)
                  obtain ⟨rfl, hF4', hL4⟩ := hr4
                  refine q_ior hC dX8_measure_130 ?_
                  rw [or_n]
                  refine q_istore_3 hC dX8_measure_131 ?_
                  refine q_inc1_5 hC dX8_measure_132 ?_
                  refine q_goto hC 45 dX8_measure_135 (by decide) ?_
                  have he : rnd T B (rds T B (ini (tG T f)) r) (p + 1) = rlx (rlx (rnd T B (rds T B (ini (tG T f)) r) p) (tA T p) (tB T p) (leg T p)) (tB T p) (tA T p) (leg T p) := by
                    show edg T B _ p = _
                    exact if_pos hbit
                  refine ihp (p + 1) _ S4 (by omega) ?_ (hF23.trans hF4') (by rw [he]; exact hL4) ?_
                  · rcases (show y = 0 ∨ y = 1 by omega) with rfl | rfl <;> (repeat' split) <;> decide
                  · intro y0
                    rw [he]
                    have y1 : y = 0 := by
                      rcases (show y = 0 ∨ y = 1 by omega) with rfl | rfl
                      · rfl
                      · revert y0; (repeat' split) <;> decide
                    subst y1
                    by_cases c1 : rnd T B (rds T B (ini (tG T f)) r) p (tB T p) + leg T p < rnd T B (rds T B (ini (tG T f)) r) p (tA T p)
                    · rw [if_pos c1] at y0
                      exfalso; revert y0; split <;> decide
                    · rw [if_neg c1] at y0
                      rw [rlx_eq c1] at y0 ⊢
                      by_cases c2 : rnd T B (rds T B (ini (tG T f)) r) p (tA T p) + leg T p < rnd T B (rds T B (ini (tG T f)) r) p (tB T p)
                      · rw [if_pos c2] at y0
                        exact absurd y0 (by decide)
                      · rw [rlx_eq c2]; exact hx2 rfl
          refine q_iconst (v := nI 0) hC dX8_measure_40 (by decide) ?_
          refine q_istore_3 hC dX8_measure_41 ?_
          refine q_iconst (v := nI 0) hC dX8_measure_42 (by decide) ?_
          refine q_istore_5 hC dX8_measure_43 ?_
          exact pieces (tP T) 0 0 S1 (by omega) (by omega) hF hL (fun _ => rfl)
  refine q_aload_n hC dX8_measure_0 ?_
  refine q_getR hC (by first | assumption | rfl) flX8_15 dX8_measure_1 ?_
  refine q_ldc hC kcX8_49 dX8_measure_4 ?_
  refine q_callvS2 hC csX8_22 dX8_measure_6 (c_fill θ _ 38 6 _ (by decide) rfl) (by decide) (fun S1 hr => ?_)
  subst hr
  have hT1 := hT.fr4 (Fr.uA (S := S) (k := 38) (f := fun j => if j < 6 then nI 1600000 else S.1 38 j)) rfl
  refine q_aload_n hC dX8_measure_9 ?_
  refine q_getR hC (by first | assumption | rfl) flX8_15 dX8_measure_10 ?_
  refine q_aload_n hC dX8_measure_13 ?_
  refine q_getR hC (by first | assumption | rfl) flX8_18 dX8_measure_14 ?_
  refine q_getR hC (by first | assumption | rfl) flX8_53 dX8_measure_17 ?_
  refine q_iload_n hC dX8_measure_20 ?_
  refine q_ialdn hC (by first | assumption | rfl) (by first | assumption | omega) dX8_measure_21 ?_
  rw [(hT1.2.2.2 f hf).2.1]
  refine q_iconst (v := nI 0) hC dX8_measure_22 (by decide) ?_
  refine q_iastn hC (by first | assumption | rfl) (by first | assumption | omega) dX8_measure_23 ?_
  refine q_iconst (v := nI 1) hC dX8_measure_24 (by decide) ?_
  refine q_istore_3 hC dX8_measure_25 ?_
  refine q_iconst (v := nI 1) hC dX8_measure_26 (by decide) ?_
  refine q_istore_4 hC dX8_measure_27 ?_
  refine rounds 5 0 1 _ _ rfl (Nat.le_refl _) (Fr.trans Fr.uA Fr.u1) (fun v hv => ?_) (fun h => absurd h (by decide))
  show _ = nI (phi (ini (tG T f) v))
  by_cases e : v = tG T f
  · subst e; rw [up_s]; simp [ini, phi]
  · rw [up_of e, upA_s, if_pos hv]; simp [ini, phi, e]
/-- Ways.yards(f, banned) -/
theorem c_yards (θ : Site) (S : St) (f B : Nat) (T : Tn) (hok : TnOk T) (hT : TwR S 4 T) (hKn : KnR S T) (hf : f < tF T) (hB : B < 256) : Cti yX8_yards cX8_yards 4 (some .int) 2 θ shX [.ref (sA θ 36), .int (nI f), .int (nI B)] S (fun r S' => r = nI (yd T f B) ∧ Fr S S' [37, 38] ∧ KnR S' T) := by
  have h8 := hok.1
  have hF4 := hok.2.1
  have hh := (hok.2.2.2 f hf).1
  have hyb := yd_bd hok f B
  refine Cti.mk (own := RX8) 1 [some (.ref (sA θ 36)), some (.int (nI f)), some (.int (nI B)), none] (fun K hC => ?_)
  have last : ∀ S1, S1.1 37 (f * 256 + B) = nI (yd T f B + 1) → Fr S S1 [37, 38] → KnR S1 T → K 47 [some (.ref (sA θ 36)), some (.int (nI f)), some (.int (nI B)), some (.int (nI (f * 256 + B)))] [] S1 := by
    intro S1 h1 h2 h3
    refine q_aload_n hC dX8_yards_47 ?_
    refine q_getR hC (by first | assumption | rfl) flX8_9 dX8_yards_48 ?_
    refine q_iload_n hC dX8_yards_51 ?_
    refine q_ialdn hC (by first | assumption | rfl) (by first | assumption | omega) dX8_yards_52 ?_
    rw [h1]
    refine q_iconst (v := nI 1) hC dX8_yards_53 (by decide) ?_
    refine q_isub hC dX8_yards_54 ?_
    rw [pk_sub (by omega), Nat.add_sub_cancel]
    refine q_iret hC dX8_yards_55 ?_
    exact ⟨rfl, h2, h3⟩
  refine q_iload_n hC dX8_yards_0 ?_
  refine q_bipush (v := nI 8) hC dX8_yards_1 (by decide) ?_
  refine q_ishl hC dX8_yards_3 ?_
  rw [pk_shlN (n := f) (nI 8 &&& 31) 8 (by decide) (by omega)]
  refine q_iload_n hC dX8_yards_4 ?_
  refine q_iadd hC dX8_yards_5 ?_
  rw [nI_add]
  refine q_istore_3 hC dX8_yards_6 ?_
  refine q_aload_n hC dX8_yards_7 ?_
  refine q_getR hC (by first | assumption | rfl) flX8_9 dX8_yards_8 ?_
  refine q_iload_n hC dX8_yards_11 ?_
  refine q_ialdn hC (by first | assumption | rfl) (by first | assumption | omega) dX8_yards_12 ?_
  rcases hKn f hf B hB with h0 | h0
  · rw [h0]
    refine q_if_ne hC 47 dX8_yards_13 (by decide) (fun hb => ?_) (fun hb => ?_)
    · exact absurd rfl hb
    · refine q_aload_n hC dX8_yards_16 ?_
      refine q_iload_n hC dX8_yards_17 ?_
      refine q_iload_n hC dX8_yards_18 ?_
      refine q_callvV2 hC (by first | assumption | rfl) cvX8_28 dX8_yards_19 (c_measure θ _ f B T hok hT hf hB) (by decide) (fun S1 hr => ?_)
      obtain ⟨hF1, hL1⟩ := hr
      have hT1 := hT.fr4 hF1 rfl
      refine q_aload_n hC dX8_yards_22 ?_
      refine q_getR hC (by first | assumption | rfl) flX8_9 dX8_yards_23 ?_
      refine q_iload_n hC dX8_yards_26 ?_
      refine q_aload_n hC dX8_yards_27 ?_
      refine q_getR hC (by first | assumption | rfl) flX8_15 dX8_yards_28 ?_
      refine q_aload_n hC dX8_yards_31 ?_
      refine q_getR hC (by first | assumption | rfl) flX8_18 dX8_yards_32 ?_
      refine q_getR hC (by first | assumption | rfl) flX8_32 dX8_yards_35 ?_
      refine q_iload_n hC dX8_yards_38 ?_
      refine q_ialdn hC (by first | assumption | rfl) (by first | assumption | omega) dX8_yards_39 ?_
      rw [(hT1.2.2.2 f hf).1]
      refine q_ialdn hC (by first | assumption | rfl) (by first | assumption | omega) dX8_yards_40 ?_
      rw [hL1 _ hh]
      refine q_bipush (v := nI 16) hC dX8_yards_41 (by decide) ?_
      refine q_idiv hC dX8_yards_43 (by decide) ?_
      rw [pk_div (by have := phi_le (d := dst T f B) (v := tH T f); omega) (by omega) (by omega), yd_phi]
      refine q_iconst (v := nI 1) hC dX8_yards_44 (by decide) ?_
      refine q_iadd hC dX8_yards_45 ?_
      rw [nI_add]
      refine q_iastn hC (by first | assumption | rfl) (by first | assumption | omega) dX8_yards_46 ?_
      refine last _ up_s (Fr.trans (hF1.mono (by decide)) (Fr.u1.mono (by decide))) (fun f2 hf2 B2 hB2 => ?_)
      by_cases e : f2 * 256 + B2 = f * 256 + B
      · have e1 : f2 = f := by omega
        have e2 : B2 = B := by omega
        subst e1; subst e2
        right; exact up_s
      · rw [up_of e, hF1.c 37]
        exact hKn f2 hf2 B2 hB2
  · rw [h0]
    refine q_if_ne hC 47 dX8_yards_13 (by decide) (fun hb => ?_) (fun hb => ?_)
    · exact last S h0 Fr.rfl' hKn
    · exact absurd hb (nI_ne0 (by omega) (by omega))
theorem c_cost (θ : Site) (S : St) (f B : Nat) (T : Tn) (hok : TnOk T) (hT : TwR S 4 T) (hKn : KnR S T) (hf : f < tF T) (hB : B < 256) : Cti yX8_cost cX8_cost 3 (some .int) 3 θ shX [.ref (sA θ 36), .int (nI f), .int (nI B)] S (fun r S' => r = nI (yd T f B * tN T f) ∧ Fr S S' [37, 38] ∧ KnR S' T) := by
  have hF4 := hok.2.1
  refine Cti.mk (own := RX8) 0 [some (.ref (sA θ 36)), some (.int (nI f)), some (.int (nI B))] (fun K hC => ?_)
  refine q_aload_n hC dX8_cost_0 ?_
  refine q_iload_n hC dX8_cost_1 ?_
  refine q_iload_n hC dX8_cost_2 ?_
  refine q_calliV2 hC (by first | assumption | rfl) cvX8_37 dX8_cost_3 (c_yards θ _ f B T hok hT hKn hf hB) (by decide) (fun r S1 hr => ?_)
  obtain ⟨rfl, hF1, hK1⟩ := hr
  have hT1 := hT.fr4 hF1 rfl
  refine q_aload_n hC dX8_cost_6 ?_
  refine q_getR hC (by first | assumption | rfl) flX8_18 dX8_cost_7 ?_
  refine q_getR hC (by first | assumption | rfl) flX8_41 dX8_cost_10 ?_
  refine q_iload_n hC dX8_cost_13 ?_
  refine q_ialdn hC (by first | assumption | rfl) (by first | assumption | omega) dX8_cost_14 ?_
  rw [(hT1.2.2.2 f hf).2.2]
  refine q_imul hC dX8_cost_15 ?_
  rw [pk_mul]
  refine q_iret hC dX8_cost_16 ?_
  exact ⟨rfl, hF1, hK1⟩
theorem c_neededBy (θ : Site) (S : St) (f : Nat) (T : Tn) (hok : TnOk T) (hT : TwR S 4 T) (hKn : KnR S T) (hf : f < tF T) : Cti yX8_neededBy cX8_neededBy 4 (some .int) 3 θ shX [.ref (sA θ 36), .int (nI f)] S (fun r S' => r = nI (msk (fun p => decide (100000 ≤ yd T f (2 ^ p))) (tP T)) ∧ Fr S S' [37, 38] ∧ KnR S' T) := by
  have h8 := hok.1
  refine Cti.mk (own := RX8) 2 [some (.ref (sA θ 36)), some (.int (nI f)), none, none] (fun K hC => ?_)
  have loop : ∀ n p S1, p + n = tP T → Fr S S1 [37, 38] → KnR S1 T → K 4 [some (.ref (sA θ 36)), some (.int (nI f)), some (.int (nI (msk (fun p => decide (100000 ≤ yd T f (2 ^ p))) p))), some (.int (nI p))] [] S1 := by
    intro n
    induction n with
    | zero =>
      intro p S1 hp hF1 hK1
      have e : p = tP T := by omega
      subst e
      have hT1 := hT.fr4 hF1 rfl
      refine q_iload_n hC dX8_neededBy_4 ?_
      refine q_aload_n hC dX8_neededBy_5 ?_
      refine q_getR hC (by first | assumption | rfl) flX8_18 dX8_neededBy_6 ?_
      refine q_getI hC (by first | assumption | rfl) flX8_44 dX8_neededBy_9 ?_
      rw [hT1.1]
      refine q_icmp_ge hC 44 dX8_neededBy_12 (by decide) (fun hb => ?_) (fun hb => ?_)
      · refine q_iload_n hC dX8_neededBy_44 ?_
        refine q_iret hC dX8_neededBy_45 ?_
        exact ⟨rfl, hF1, hK1⟩
      · exact absurd (nI_le (Nat.le_refl _) (by omega)) hb
    | succ n ih =>
      intro p S1 hp hF1 hK1
      have hT1 := hT.fr4 hF1 rfl
      have hyb := yd_bd hok f (2 ^ p)
      refine q_iload_n hC dX8_neededBy_4 ?_
      refine q_aload_n hC dX8_neededBy_5 ?_
      refine q_getR hC (by first | assumption | rfl) flX8_18 dX8_neededBy_6 ?_
      refine q_getI hC (by first | assumption | rfl) flX8_44 dX8_neededBy_9 ?_
      rw [hT1.1]
      refine q_icmp_ge hC 44 dX8_neededBy_12 (by decide) (fun hb => ?_) (fun hb => ?_)
      · exact absurd ((nI_leI (by omega) (by omega)).mp hb) (by omega)
      · refine q_iload_n hC dX8_neededBy_15 ?_
        refine q_aload_n hC dX8_neededBy_16 ?_
        refine q_iload_n hC dX8_neededBy_17 ?_
        refine q_iconst (v := nI 1) hC dX8_neededBy_18 (by decide) ?_
        refine q_iload_n hC dX8_neededBy_19 ?_
        refine q_ishl hC dX8_neededBy_20 ?_
        rw [sh1 (by omega)]
        refine q_calliV2 hC (by first | assumption | rfl) cvX8_37 dX8_neededBy_21 (c_yards θ _ f (2 ^ p) T hok hT1 hK1 hf (Nat.pow_lt_pow_right (by omega) (show p < 8 by omega))) (by decide) (fun r S2 hr => ?_)
        obtain ⟨rfl, hF2, hK2⟩ := hr
        refine q_ldc hC kcX8_48 dX8_neededBy_24 ?_
        refine q_icmp_lt hC 35 dX8_neededBy_26 (by decide) (fun hb => ?_) (fun hb => ?_)
        · have h9 : ¬ 100000 ≤ yd T f (2 ^ p) := by have := (nI_ltI (by omega) (by omega)).mp hb; omega
          refine q_iconst (v := nI 0) hC dX8_neededBy_35 (by decide) ?_
          refine q_ior hC dX8_neededBy_36 ?_
          rw [show nI 0 = (if decide (100000 ≤ yd T f (2 ^ p)) = true then nI (2 ^ p) else nI 0) by simp [h9], msk_or (fun p => decide (100000 ≤ yd T f (2 ^ p))) p]
          refine q_istore_2 hC dX8_neededBy_37 ?_
          refine q_inc1_3 hC dX8_neededBy_38 ?_
          refine q_goto hC 4 dX8_neededBy_41 (by decide) ?_
          exact ih (p + 1) S2 (by omega) (hF1.trans hF2) hK2
        · have h9 : 100000 ≤ yd T f (2 ^ p) := by
            rcases Nat.lt_or_ge (yd T f (2 ^ p)) 100000 with h | h
            · exact absurd (nI_lt h (by omega)) hb
            · exact h
          refine q_iconst (v := nI 1) hC dX8_neededBy_29 (by decide) ?_
          refine q_iload_n hC dX8_neededBy_30 ?_
          refine q_ishl hC dX8_neededBy_31 ?_
          rw [sh1 (by omega)]
          refine q_goto hC 36 dX8_neededBy_32 (by decide) ?_
          refine q_ior hC dX8_neededBy_36 ?_
          rw [show nI (2 ^ p) = (if decide (100000 ≤ yd T f (2 ^ p)) = true then nI (2 ^ p) else nI 0) by simp [h9], msk_or (fun p => decide (100000 ≤ yd T f (2 ^ p))) p]
          refine q_istore_2 hC dX8_neededBy_37 ?_
          refine q_inc1_3 hC dX8_neededBy_38 ?_
          refine q_goto hC 4 dX8_neededBy_41 (by decide) ?_
          exact ih (p + 1) S2 (by omega) (hF1.trans hF2) hK2
  refine q_iconst (v := nI 0) hC dX8_neededBy_0 (by decide) ?_
  refine q_istore_2 hC dX8_neededBy_1 ?_
  refine q_iconst (v := nI 0) hC dX8_neededBy_2 (by decide) ?_
  refine q_istore_3 hC dX8_neededBy_3 ?_
  exact loop (tP T) 0 S (by omega) Fr.rfl' hKn
theorem c_otherEnd (θ : Site) (S : St) (p x : Nat) (T : Tn) (hok : TnOk T) (hT : TwR S 4 T) (hp : p < tP T) (hx : x < 6) : Cti yX8_otherEnd cX8_otherEnd 3 (some .int) 0 θ shX [.ref (sA θ 36), .int (nI p), .int (nI x)] S (fun r S' => r = (if oth T p x < 6 then nI (oth T p x) else -1) ∧ S' = S) := by
  obtain ⟨n1, n2, n3, n4⟩ := hT
  have h8 := hok.1
  have hpo := hok.2.2.1 p hp
  refine Cti.mk (own := RX8) 0 [some (.ref (sA θ 36)), some (.int (nI p)), some (.int (nI x))] (fun K hC => ?_)
  refine q_aload_n hC dX8_otherEnd_0 ?_
  refine q_getR hC (by first | assumption | rfl) flX8_18 dX8_otherEnd_1 ?_
  refine q_getR hC (by first | assumption | rfl) flX8_56 dX8_otherEnd_4 ?_
  refine q_iload_n hC dX8_otherEnd_7 ?_
  refine q_ialdn hC (by first | assumption | rfl) (by first | assumption | omega) dX8_otherEnd_8 ?_
  rw [(n3 p hp).1]
  refine q_iload_n hC dX8_otherEnd_9 ?_
  refine q_icmp_ne hC 23 dX8_otherEnd_10 (by decide) (fun hb => ?_) (fun hb => ?_)
  · have h1 : ¬ tA T p = x := fun z => hb (by rw [z])
    refine q_aload_n hC dX8_otherEnd_23 ?_
    refine q_getR hC (by first | assumption | rfl) flX8_18 dX8_otherEnd_24 ?_
    refine q_getR hC (by first | assumption | rfl) flX8_59 dX8_otherEnd_27 ?_
    refine q_iload_n hC dX8_otherEnd_30 ?_
    refine q_ialdn hC (by first | assumption | rfl) (by first | assumption | omega) dX8_otherEnd_31 ?_
    rw [(n3 p hp).2.1]
    refine q_iload_n hC dX8_otherEnd_32 ?_
    refine q_icmp_ne hC 48 dX8_otherEnd_33 (by decide) (fun hb2 => ?_) (fun hb2 => ?_)
    · have h2 : ¬ tB T p = x := fun z => hb2 (by rw [z])
      refine q_iconst (v := (-1)) hC dX8_otherEnd_48 (by decide) ?_
      refine q_iret hC dX8_otherEnd_49 ?_
      refine ⟨?_, rfl⟩
      simp [oth, h1, h2]
    · have h2 : tB T p = x := nI_small (by omega) (by omega) hb2
      refine q_aload_n hC dX8_otherEnd_36 ?_
      refine q_getR hC (by first | assumption | rfl) flX8_18 dX8_otherEnd_37 ?_
      refine q_getR hC (by first | assumption | rfl) flX8_56 dX8_otherEnd_40 ?_
      refine q_iload_n hC dX8_otherEnd_43 ?_
      refine q_ialdn hC (by first | assumption | rfl) (by first | assumption | omega) dX8_otherEnd_44 ?_
      rw [(n3 p hp).1]
      refine q_goto hC 49 dX8_otherEnd_45 (by decide) ?_
      refine q_iret hC dX8_otherEnd_49 ?_
      refine ⟨?_, rfl⟩
      simp [oth, h1, h2, hpo.1]
  · have h1 : tA T p = x := nI_small (by omega) (by omega) hb
    refine q_aload_n hC dX8_otherEnd_13 ?_
    refine q_getR hC (by first | assumption | rfl) flX8_18 dX8_otherEnd_14 ?_
    refine q_getR hC (by first | assumption | rfl) flX8_59 dX8_otherEnd_17 ?_
    refine q_iload_n hC dX8_otherEnd_20 ?_
    refine q_ialdn hC (by first | assumption | rfl) (by first | assumption | omega) dX8_otherEnd_21 ?_
    rw [(n3 p hp).2.1]
    refine q_iret hC dX8_otherEnd_22 ?_
    refine ⟨?_, rfl⟩
    simp [oth, h1, hpo.2.1]
theorem c_nextPlace (θ : Site) (S : St) (x B Kb : Nat) (d : Nat → Nat) (T : Tn) (hok : TnOk T) (hT : TwR S 4 T) (hL : LfR S d) (hbd : bd d Kb) (hKb : Kb ≤ 90000) (hx : x < 6) (hB : B < 256) (hfin : d x < 100000) : Cti yX8_nextPlace cX8_nextPlace 6 (some .int) 1 θ shX [.ref (sA θ 36), .int (nI x), .int (nI B)] S (fun r S' => r = nI (nxt T B d x) ∧ S' = S) := by
  have hT' := hT
  obtain ⟨n1, n2, n3, n4⟩ := hT
  have h8 := hok.1
  refine Cti.mk (own := RX8) 3 [some (.ref (sA θ 36)), some (.int (nI x)), some (.int (nI B)), none, none, none] (fun K hC => ?_)
  have loop : ∀ n p l5, p + n = tP T → K 6 [some (.ref (sA θ 36)), some (.int (nI x)), some (.int (nI B)), some (.int (nI (nxp T B d x p))), some (.int (nI p)), l5] [] S := by
    intro n
    induction n with
    | zero =>
      intro p l5 hp
      have e : p = tP T := by omega
      subst e
      have hle := nxp_le T B d x (tP T)
      refine q_iload hC dX8_nextPlace_6 ?_
      refine q_aload_n hC dX8_nextPlace_8 ?_
      refine q_getR hC (by first | assumption | rfl) flX8_18 dX8_nextPlace_9 ?_
      refine q_getI hC (by first | assumption | rfl) flX8_44 dX8_nextPlace_12 ?_
      rw [n1]
      refine q_icmp_ge hC 77 dX8_nextPlace_15 (by decide) (fun hb => ?_) (fun hb => ?_)
      · refine q_iload_n hC dX8_nextPlace_77 ?_
        refine q_bipush (v := nI 6) hC dX8_nextPlace_78 (by decide) ?_
        refine q_icmp_ge hC 87 dX8_nextPlace_80 (by decide) (fun hb2 => ?_) (fun hb2 => ?_)
        · have h1 : ¬ nxp T B d x (tP T) < 6 := by have := (nI_leI (by omega) (by omega)).mp hb2; omega
          refine q_iload_n hC dX8_nextPlace_87 ?_
          refine q_iret hC dX8_nextPlace_88 ?_
          refine ⟨?_, rfl⟩
          simp [nxt, h1]
        · have h1 : nxp T B d x (tP T) < 6 := by
            rcases Nat.lt_or_ge (nxp T B d x (tP T)) 6 with h | h
            · exact h
            · exact absurd (nI_le h (by omega)) hb2
          refine q_iload_n hC dX8_nextPlace_83 ?_
          refine q_goto hC 88 dX8_nextPlace_84 (by decide) ?_
          refine q_iret hC dX8_nextPlace_88 ?_
          refine ⟨?_, rfl⟩
          simp [nxt, h1]
      · exact absurd (nI_le (Nat.le_refl _) (by omega)) hb
    | succ n ih =>
      intro p l5 hp
      have hpo := hok.2.2.1 p (by omega)
      have hol := oth_lt hok (p := p) (x := x) (by omega)
      have hle := nxp_le T B d x p
      have hlg := leg_le hok (p := p) (by omega)
      refine q_iload hC dX8_nextPlace_6 ?_
      refine q_aload_n hC dX8_nextPlace_8 ?_
      refine q_getR hC (by first | assumption | rfl) flX8_18 dX8_nextPlace_9 ?_
      refine q_getI hC (by first | assumption | rfl) flX8_44 dX8_nextPlace_12 ?_
      rw [n1]
      refine q_icmp_ge hC 77 dX8_nextPlace_15 (by decide) (fun hb => ?_) (fun hb => ?_)
      · exact absurd ((nI_leI (by omega) (by omega)).mp hb) (by omega)
      · refine q_iload_n hC dX8_nextPlace_18 ?_
        refine q_iload hC dX8_nextPlace_19 ?_
        refine q_ishr hC dX8_nextPlace_21 ?_
        refine q_iconst (v := nI 1) hC dX8_nextPlace_22 (by decide) ?_
        refine q_iand hC dX8_nextPlace_23 ?_
        rw [bit_n (by omega) (by omega)]
        have hb2 : B / 2 ^ p % 2 < 2 := Nat.mod_lt _ (by omega)
        refine q_if_ne hC 71 dX8_nextPlace_24 (by decide) (fun hb3 => ?_) (fun hb3 => ?_)
        · have hbit : ¬ B / 2 ^ p % 2 = 0 := fun z => hb3 (by rw [z]; rfl)
          have he : nxp T B d x (p + 1) = nxp T B d x p := by simp [nxp, hbit]
          refine q_inc1_4 hC dX8_nextPlace_71 ?_
          refine q_goto hC 6 dX8_nextPlace_74 (by decide) ?_
          rw [← he]
          exact ih (p + 1) _ (by omega)
        · have hbit : B / 2 ^ p % 2 = 0 := nI_small (by omega) (by omega) hb3
          refine q_aload_n hC dX8_nextPlace_27 ?_
          refine q_iload hC dX8_nextPlace_28 ?_
          refine q_iload_n hC dX8_nextPlace_30 ?_
          refine q_calliV2 hC (by first | assumption | rfl) cvX8_72 dX8_nextPlace_31 (c_otherEnd θ _ p x T hok hT' (by omega) hx) (by decide) (fun r S1 hr => ?_)
          obtain ⟨rfl, rfl⟩ := hr
          by_cases ho : oth T p x < 6
          · rw [if_pos ho]
            refine q_istore_5 hC dX8_nextPlace_34 ?_
            refine q_iload hC dX8_nextPlace_36 ?_
            refine q_if_lt hC 71 dX8_nextPlace_38 (by decide) (fun hb4 => ?_) (fun hb4 => ?_)
            · exact absurd hb4 (nI_pos (by omega))
            · refine q_aload_n hC dX8_nextPlace_41 ?_
              refine q_getR hC (by first | assumption | rfl) flX8_15 dX8_nextPlace_42 ?_
              refine q_iload hC dX8_nextPlace_45 ?_
              refine q_ialdn hC (by first | assumption | rfl) (by first | assumption | omega) dX8_nextPlace_47 ?_
              rw [hL _ ho]
              refine q_aload_n hC dX8_nextPlace_48 ?_
              refine q_iload hC dX8_nextPlace_49 ?_
              refine q_calliV1 hC (by first | assumption | rfl) cvX8_62 dX8_nextPlace_51 (c_leg θ _ p T hok hT' (by omega)) (by decide) (fun r S1 hr => ?_)
              obtain ⟨rfl, rfl⟩ := hr
              refine q_iadd hC dX8_nextPlace_54 ?_
              rw [nI_add]
              refine q_aload_n hC dX8_nextPlace_55 ?_
              refine q_getR hC (by first | assumption | rfl) flX8_15 dX8_nextPlace_56 ?_
              refine q_iload_n hC dX8_nextPlace_59 ?_
              refine q_ialdn hC (by first | assumption | rfl) (by first | assumption | omega) dX8_nextPlace_60 ?_
              rw [hL _ hx]
              have p1 := phi_le (d := d) (v := oth T p x)
              have p2 := phi_le (d := d) (v := x)
              refine q_icmp_ne hC 71 dX8_nextPlace_61 (by decide) (fun hb5 => ?_) (fun hb5 => ?_)
              · have h6 : ¬ d (oth T p x) + leg T p = d x := fun z => hb5 (by rw [(phi_tight hbd hKb hlg hfin).mpr z])
                have he : nxp T B d x (p + 1) = nxp T B d x p := by simp [nxp, h6]
                refine q_inc1_4 hC dX8_nextPlace_71 ?_
                refine q_goto hC 6 dX8_nextPlace_74 (by decide) ?_
                rw [← he]
                exact ih (p + 1) _ (by omega)
              · have h6 : d (oth T p x) + leg T p = d x := (phi_tight hbd hKb hlg hfin).mp (nI_small (by omega) (by omega) hb5)
                have he : (if nI (oth T p x) < nI (nxp T B d x p) then nI (oth T p x) else nI (nxp T B d x p)) = nI (nxp T B d x (p + 1)) := by
                  simp only [nxp, hbit, ho, h6, true_and, and_self, if_true]
                  by_cases h7 : oth T p x < nxp T B d x p
                  · rw [if_pos (nI_lt h7 (by omega)), if_pos h7]
                  · rw [if_neg (nI_nlt (by omega) (by omega)), if_neg h7]
                refine q_iload_n hC dX8_nextPlace_64 ?_
                refine q_iload hC dX8_nextPlace_65 ?_
                refine q_min hC mlX8_75 (by decide) dX8_nextPlace_67 ?_
                rw [he]
                refine q_istore_3 hC dX8_nextPlace_70 ?_
                refine q_inc1_4 hC dX8_nextPlace_71 ?_
                refine q_goto hC 6 dX8_nextPlace_74 (by decide) ?_
                exact ih (p + 1) _ (by omega)
          · rw [if_neg ho]
            have he : nxp T B d x (p + 1) = nxp T B d x p := by simp [nxp, ho]
            refine q_istore_5 hC dX8_nextPlace_34 ?_
            refine q_iload hC dX8_nextPlace_36 ?_
            refine q_if_lt hC 71 dX8_nextPlace_38 (by decide) (fun hb4 => ?_) (fun hb4 => ?_)
            · refine q_inc1_4 hC dX8_nextPlace_71 ?_
              refine q_goto hC 6 dX8_nextPlace_74 (by decide) ?_
              rw [← he]
              exact ih (p + 1) _ (by omega)
            · exact absurd (by decide) hb4
  refine q_bipush (v := nI 6) hC dX8_nextPlace_0 (by decide) ?_
  refine q_istore_3 hC dX8_nextPlace_2 ?_
  refine q_iconst (v := nI 0) hC dX8_nextPlace_3 (by decide) ?_
  refine q_istore_4 hC dX8_nextPlace_4 ?_
  exact loop (tP T) 0 _ (by omega)
/-- Ways.placeOnWay(f, banned, i) -/
theorem c_placeOnWay (θ : Site) (S : St) (f B j : Nat) (T : Tn) (hok : TnOk T) (hT : TwR S 4 T) (hf : f < tF T) (hB : B < 256) (hj : j < 2 ^ 31) : Cti yX8_placeOnWay cX8_placeOnWay 6 (some .int) 2 θ shX [.ref (sA θ 36), .int (nI f), .int (nI B), .int (nI j)] S (fun r S' => r = (if dst T f B (tH T f) < 100000 then (if j ≤ dst T f B (tH T f) % 16 then nI (plS T B (dst T f B) (tH T f) j) else -5) else -9) ∧ Fr S S' [38]) := by
  have h8 := hok.1
  have hF4 := hok.2.1
  have hh := (hok.2.2.2 f hf).1
  have hbd := bd_dst hok f B
  refine Cti.mk (own := RX8) 2 [some (.ref (sA θ 36)), some (.int (nI f)), some (.int (nI B)), some (.int (nI j)), none, none] (fun K hC => ?_)
  refine q_aload_n hC dX8_placeOnWay_0 ?_
  refine q_iload_n hC dX8_placeOnWay_1 ?_
  refine q_iload_n hC dX8_placeOnWay_2 ?_
  refine q_callvV2 hC (by first | assumption | rfl) cvX8_28 dX8_placeOnWay_3 (c_measure θ _ f B T hok hT hf hB) (by decide) (fun S1 hr => ?_)
  obtain ⟨hF1, hL1⟩ := hr
  have hT1 := hT.fr4 hF1 rfl
  refine q_aload_n hC dX8_placeOnWay_6 ?_
  refine q_getR hC (by first | assumption | rfl) flX8_18 dX8_placeOnWay_7 ?_
  refine q_getR hC (by first | assumption | rfl) flX8_32 dX8_placeOnWay_10 ?_
  refine q_iload_n hC dX8_placeOnWay_13 ?_
  refine q_ialdn hC (by first | assumption | rfl) (by first | assumption | omega) dX8_placeOnWay_14 ?_
  rw [(hT1.2.2.2 f hf).1]
  refine q_istore_4 hC dX8_placeOnWay_15 ?_
  refine q_aload_n hC dX8_placeOnWay_17 ?_
  refine q_getR hC (by first | assumption | rfl) flX8_15 dX8_placeOnWay_18 ?_
  refine q_iload hC dX8_placeOnWay_21 ?_
  refine q_ialdn hC (by first | assumption | rfl) (by first | assumption | omega) dX8_placeOnWay_23 ?_
  rw [hL1 _ hh]
  have p1 := phi_le (d := dst T f B) (v := tH T f)
  refine q_ldc hC kcX8_49 dX8_placeOnWay_24 ?_
  refine q_icmp_lt hC 32 dX8_placeOnWay_26 (by decide) (fun hb => ?_) (fun hb => ?_)
  · have hfin : dst T f B (tH T f) < 100000 := by
      have h1 := (nI_ltI (by omega) (by omega)).mp hb
      unfold phi at h1
      split at h1 <;> omega
    have hphi : phi (dst T f B (tH T f)) = dst T f B (tH T f) := if_pos hfin
    refine q_iload_n hC dX8_placeOnWay_32 ?_
    refine q_aload_n hC dX8_placeOnWay_33 ?_
    refine q_getR hC (by first | assumption | rfl) flX8_15 dX8_placeOnWay_34 ?_
    refine q_iload hC dX8_placeOnWay_37 ?_
    refine q_ialdn hC (by first | assumption | rfl) (by first | assumption | omega) dX8_placeOnWay_39 ?_
    rw [hL1 _ hh, hphi]
    refine q_bipush (v := nI 16) hC dX8_placeOnWay_40 (by decide) ?_
    refine q_irem hC dX8_placeOnWay_42 (by decide) ?_
    rw [pk_rem (by omega) (by omega) (by omega)]
    refine q_icmp_le hC 49 dX8_placeOnWay_43 (by decide) (fun hb2 => ?_) (fun hb2 => ?_)
    · have hle : j ≤ dst T f B (tH T f) % 16 := (nI_leI (by omega) (by omega)).mp hb2
      have hdec : ∀ s, s ≤ j → dst T f B (plS T B (dst T f B) (tH T f) s) < 100000 := by
        intro s _
        induction s with
        | zero => exact hfin
        | succ s ihs =>
          have h0 := ihs (by omega)
          show dst T f B (nxt T B (dst T f B) (plS T B (dst T f B) (tH T f) s)) < 100000
          exact nxt_fin hok h0
      have loop : ∀ (n s : Nat) (l4 : Unit), s + n = j → K 52 [some (.ref (sA θ 36)), some (.int (nI f)), some (.int (nI B)), some (.int (nI j)), some (.int (nI (plS T B (dst T f B) (tH T f) s))), some (.int (nI s))] [] S1 := by
        intro n
        induction n with
        | zero =>
          intro s _ hs
          have e : s = j := by omega
          subst e
          refine q_iload hC dX8_placeOnWay_52 ?_
          refine q_iload_n hC dX8_placeOnWay_54 ?_
          refine q_icmp_ge hC 73 dX8_placeOnWay_55 (by decide) (fun hb3 => ?_) (fun hb3 => ?_)
          · refine q_iload hC dX8_placeOnWay_73 ?_
            refine q_iret hC dX8_placeOnWay_75 ?_
            exact ⟨by rw [if_pos hfin, if_pos hle], hF1⟩
          · exact absurd (nI_le (Nat.le_refl _) (by omega)) hb3
        | succ n ih =>
          intro s _ hs
          refine q_iload hC dX8_placeOnWay_52 ?_
          refine q_iload_n hC dX8_placeOnWay_54 ?_
          refine q_icmp_ge hC 73 dX8_placeOnWay_55 (by decide) (fun hb3 => ?_) (fun hb3 => ?_)
          · exact absurd ((nI_leI (by omega) (by omega)).mp hb3) (by omega)
          · refine q_aload_n hC dX8_placeOnWay_58 ?_
            refine q_iload hC dX8_placeOnWay_59 ?_
            refine q_iload_n hC dX8_placeOnWay_61 ?_
            refine q_calliV2 hC (by first | assumption | rfl) cvX8_50 dX8_placeOnWay_62 (c_nextPlace θ _ _ B _ _ T hok hT1 hL1 hbd (by omega) (plS_lt T B _ hh s) hB (hdec s (by omega))) (by decide) (fun r S1 hr => ?_)
            obtain ⟨rfl, rfl⟩ := hr
            refine q_istore_4 hC dX8_placeOnWay_65 ?_
            refine q_inc1_5 hC dX8_placeOnWay_67 ?_
            refine q_goto hC 52 dX8_placeOnWay_70 (by decide) ?_
            exact ih (s + 1) () (by omega)
      refine q_iconst (v := nI 0) hC dX8_placeOnWay_49 (by decide) ?_
      refine q_istore_5 hC dX8_placeOnWay_50 ?_
      exact loop j 0 () (by omega)
    · have hle : ¬ j ≤ dst T f B (tH T f) % 16 := fun z => hb2 (nI_le z (by omega))
      refine q_bipush (v := (-5)) hC dX8_placeOnWay_46 (by decide) ?_
      refine q_iret hC dX8_placeOnWay_48 ?_
      exact ⟨by rw [if_pos hfin, if_neg hle], hF1⟩
  · have hfin : ¬ dst T f B (tH T f) < 100000 := by
      intro z
      exact hb ((nI_ltI (by omega) (by omega)).mpr (by unfold phi; rw [if_pos z]; omega))
    refine q_bipush (v := (-9)) hC dX8_placeOnWay_29 (by decide) ?_
    refine q_iret hC dX8_placeOnWay_31 ?_
    exact ⟨by rw [if_neg hfin], hF1⟩
