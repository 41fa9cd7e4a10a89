theorem c_choiceAnew (θ : Site) (S : St) : Ctv yX0_startAnew cX0_startAnew 1 none 0 θ shX [.ref (sA θ 39)] S (fun S' => S' = up S 39 2 (-1)) := by
  refine Ctv.mk (own := RX0) 0 [some (.ref (sA θ 39))] (fun K hC => ?_)
  refine q_aload_n hC dX0_startAnew_0 ?_
  refine q_iconst (v := (-1)) hC dX0_startAnew_1 (by decide) ?_
  refine q_putI hC (by first | assumption | rfl) fpX0_11 dX0_startAnew_2 ?_
  refine q_vret hC dX0_startAnew_5 ?_
  rfl
theorem c_take (θ : Site) (S : St) (worth : Nat) (s : S3) (hs : ChR S s) : Ctv yX0_take cX0_take 2 none 1 θ shX [.ref (sA θ 39), .int (nI worth)] S (fun S' => Fr S S' [39, 40] ∧ ChR S' (worth, s.2.2, s.2.2) ∧ S'.1 39 2 = S.1 39 2 ∧ S'.1 39 3 = S.1 39 3) := by
  refine Ctv.mk (own := RX0) 0 [some (.ref (sA θ 39)), some (.int (nI worth))] (fun K hC => ?_)
  refine q_aload_n hC dX0_take_0 ?_
  refine q_iload_n hC dX0_take_1 ?_
  refine q_putI hC (by first | assumption | rfl) fpX0_19 dX0_take_2 ?_
  refine q_aload_n hC dX0_take_5 ?_
  refine q_getR hC (by first | assumption | rfl) flX0_26 dX0_take_6 ?_
  refine q_iconst (v := nI 0) hC dX0_take_9 (by decide) ?_
  refine q_aload_n hC dX0_take_10 ?_
  refine q_getR hC (by first | assumption | rfl) flX0_22 dX0_take_11 ?_
  refine q_iconst (v := nI 0) hC dX0_take_14 (by decide) ?_
  refine q_bipush (v := nI 8) hC dX0_take_15 (by decide) ?_
  refine q_copy hC (by first | assumption | rfl) (by first | assumption | rfl) mlX0_91 (by decide) (by decide) (by decide) (by decide) (by decide) (by decide) dX0_take_17 ?_
  refine q_vret hC dX0_take_20 ?_
  refine ⟨Fr.trans (Fr.u1.mono (by decide)) (Fr.uA.mono (by decide)), ⟨?_, fun j hj => ?_, fun j hj => ?_⟩, ?_, ?_⟩
  · rw [upA_o (by decide), up_s]
  · rw [upA_s, cpyI hj (by omega), up_oc (by decide)]; exact hs.2.2 j hj
  · rw [upA_o (by decide), up_oc (by decide)]; exact hs.2.2 j hj
  · rw [upA_o (by decide), up_of (by decide)]
  · rw [upA_o (by decide), up_of (by decide)]
theorem c_worthWith (θ : Site) (S : St) (w worth f p : Nat) (T : Tn) (hok : TnOk T) (hT : TwR S 4 T) (hKn : KnR S T) (hf : f < tF T) (hp : p < 8) (hw : w ≤ 1) (hso : S.1 39 2 = nI w) (hwo : worth ≤ 100000) : Cti yX0_worthWith cX0_worthWith 4 (some .int) 3 θ shX [.ref (sA θ 39), .int (nI worth), .int (nI f), .int (nI (2 ^ p))] S (fun r S' => r = nI (wW T w worth f p) ∧ Fr S S' [37, 38] ∧ KnR S' T) := by
  have hF4 := hok.2.1
  have hB : 2 ^ p < 256 := Nat.pow_lt_pow_right (n := 8) (by omega) hp
  have hyb := yd_bd hok f (2 ^ p)
  refine Cti.mk (own := RX0) 0 [some (.ref (sA θ 39)), some (.int (nI worth)), some (.int (nI f)), some (.int (nI (2 ^ p)))] (fun K hC => ?_)
  refine q_aload_n hC dX0_worthWith_0 ?_
  refine q_getI hC (by first | assumption | rfl) flX0_11 dX0_worthWith_1 ?_
  rw [hso]
  refine q_iconst (v := nI 1) hC dX0_worthWith_4 (by decide) ?_
  refine q_icmp_ne hC 22 dX0_worthWith_5 (by decide) (fun hb => ?_) (fun hb => ?_)
  · have hw1 : ¬ w = 1 := fun z => hb (by rw [z])
    refine q_iload_n hC dX0_worthWith_22 ?_
    refine q_aload_n hC dX0_worthWith_23 ?_
    refine q_getR hC (by first | assumption | rfl) flX0_36 dX0_worthWith_24 ?_
    refine q_iload_n hC dX0_worthWith_27 ?_
    refine q_iload_n hC dX0_worthWith_28 ?_
    refine q_calliV2 hC (by first | assumption | rfl) cvX0_80 dX0_worthWith_29 (c_yards θ _ f _ T hok hT hKn hf hB) (by decide) (fun r S1 hr => ?_)
    obtain ⟨rfl, hF1, hK1⟩ := hr
    have hT1 := hT.fr4 hF1 rfl
    refine q_aload_n hC dX0_worthWith_32 ?_
    refine q_getR hC (by first | assumption | rfl) flX0_32 dX0_worthWith_33 ?_
    refine q_getR hC (by first | assumption | rfl) flX0_88 dX0_worthWith_36 ?_
    refine q_iload_n hC dX0_worthWith_39 ?_
    refine q_ialdn hC (by first | assumption | rfl) (by first | assumption | omega) dX0_worthWith_40 ?_
    rw [(hT1.2.2.2 f hf).2.2]
    refine q_imul hC dX0_worthWith_41 ?_
    rw [pk_mul]
    refine q_iadd hC dX0_worthWith_42 ?_
    rw [nI_add]
    refine q_iret hC dX0_worthWith_43 ?_
    exact ⟨by unfold wW; rw [if_neg hw1], hF1, hK1⟩
  · have hw1 : w = 1 := nI_small (by omega) (by omega) hb
    refine q_iload_n hC dX0_worthWith_8 ?_
    refine q_aload_n hC dX0_worthWith_9 ?_
    refine q_getR hC (by first | assumption | rfl) flX0_36 dX0_worthWith_10 ?_
    refine q_iload_n hC dX0_worthWith_13 ?_
    refine q_iload_n hC dX0_worthWith_14 ?_
    refine q_calliV2 hC (by first | assumption | rfl) cvX0_80 dX0_worthWith_15 (c_yards θ _ f _ T hok hT hKn hf hB) (by decide) (fun r S1 hr => ?_)
    obtain ⟨rfl, hF1, hK1⟩ := hr
    refine q_max hC mlX0_83 (by decide) dX0_worthWith_18 ?_
    refine q_iret hC dX0_worthWith_21 ?_
    refine ⟨?_, hF1, hK1⟩
    unfold wW
    rw [if_pos hw1]
    by_cases h : worth < yd T f (2 ^ p)
    · rw [if_pos h, if_pos (nI_lt h (by omega))]
    · rw [if_neg h, if_neg (nI_nlt (by omega) (by omega))]
/-- Choice.tryFamily(f, taken, worth) -/
theorem c_tryFamily (θ : Site) (T : Tn) (w : Nat) (hok : TnOk T) (hw : w ≤ 1) : ∀ (k f taken worth : Nat) (s : S3) (S : St), f + k = tF T → taken < 256 → worth ≤ 100000 → s.1 ≤ 100000 → TwR S 4 T → KnR S T → S.1 39 2 = nI w → ChR S s → Ctv yX0_tryFamily cX0_tryFamily 7 none (4 + k) θ shX [.ref (sA θ 39), .int (nI f), .int (nI taken), .int (nI worth)] S (fun S' => Fr S S' [37, 38, 39, 40, 41] ∧ KnR S' T ∧ ChR S' (oneD T w k f taken worth s) ∧ S'.1 39 2 = S.1 39 2 ∧ S'.1 39 3 = S.1 39 3) := by
  have h8 := hok.1
  have hF4 := hok.2.1
  intro k
  induction k with
  | zero =>
    intro f taken worth s S hf htk hwo hs1 hT hKn hso hch
    refine Ctv.mk (own := RX0) 3 [some (.ref (sA θ 39)), some (.int (nI f)), some (.int (nI taken)), some (.int (nI worth)), none, none, none] (fun K hC => ?_)
    refine q_iload_n hC dX0_tryFamily_0 ?_
    refine q_aload_n hC dX0_tryFamily_1 ?_
    refine q_getR hC (by first | assumption | rfl) flX0_32 dX0_tryFamily_2 ?_
    refine q_getI hC (by first | assumption | rfl) flX0_58 dX0_tryFamily_5 ?_
    rw [hT.2.1]
    refine q_icmp_lt hC 17 dX0_tryFamily_8 (by decide) (fun hb => ?_) (fun hb => ?_)
    · exact absurd ((nI_ltI (by omega) (by omega)).mp hb) (by omega)
    · refine q_aload_n hC dX0_tryFamily_11 ?_
      refine q_iload_n hC dX0_tryFamily_12 ?_
      refine q_callvV1 hC (by first | assumption | rfl) cvX0_69 dX0_tryFamily_13 (c_take θ _ worth s hch) (by omega) (fun S1 hr => ?_)
      obtain ⟨hF1, hc1, g1, g2⟩ := hr
      refine q_vret hC dX0_tryFamily_16 ?_
      exact ⟨hF1.mono (by decide), fun f hf B hB => by rw [hF1.c 37]; exact hKn f hf B hB, hc1, g1, g2⟩
  | succ k ih =>
    intro f taken worth s S hf htk hwo hs1 hT hKn hso hch
    refine Ctv.mk (own := RX0) 3 [some (.ref (sA θ 39)), some (.int (nI f)), some (.int (nI taken)), some (.int (nI worth)), none, none, none] (fun K hC => ?_)
    generalize hg : (fun p (s : S3) => if (if taken / 2 ^ p % 2 = 0 then wW T w worth f p else 100000) < s.1 then oneD T w k (f + 1) (taken ||| 2 ^ p) (if taken / 2 ^ p % 2 = 0 then wW T w worth f p else 100000) (s.1, s.2.1, upd s.2.2 f (nI p)) else s) = g
    have hfin : oneD T w (k + 1) f taken worth s = fdl g (tP T) s := by rw [← hg]; rfl
    have hgp : ∀ p (s : S3), g p s = if (if taken / 2 ^ p % 2 = 0 then wW T w worth f p else 100000) < s.1 then oneD T w k (f + 1) (taken ||| 2 ^ p) (if taken / 2 ^ p % 2 = 0 then wW T w worth f p else 100000) (s.1, s.2.1, upd s.2.2 f (nI p)) else s := fun p s => by rw [← hg]
    have hgle : ∀ p (s : S3), s.1 ≤ 100000 → (g p s).1 ≤ 100000 := by
      intro p s' hs'
      rw [hgp]
      by_cases hc : (if taken / 2 ^ p % 2 = 0 then wW T w worth f p else 100000) < s'.1
      · rw [if_pos hc]; exact oneD_le k _ _ _ _ (by omega) hs'
      · rw [if_neg hc]; exact hs'
    have loop : ∀ n p S1 l5 l6, p + n = tP T → Fr S S1 [37, 38, 39, 40, 41] → KnR S1 T → S1.1 39 2 = S.1 39 2 → S1.1 39 3 = S.1 39 3 → ChR S1 (fdl g p s) → K 20 [some (.ref (sA θ 39)), some (.int (nI f)), some (.int (nI taken)), some (.int (nI worth)), some (.int (nI p)), l5, l6] [] S1 := by
      intro n
      induction n with
      | zero =>
        intro p S1 l5 l6 hp hF1 hK1 g1 g2 hc1
        have e : p = tP T := by omega
        subst e
        have hT1 := hT.fr4 hF1 rfl
        refine q_iload hC dX0_tryFamily_20 ?_
        refine q_aload_n hC dX0_tryFamily_22 ?_
        refine q_getR hC (by first | assumption | rfl) flX0_32 dX0_tryFamily_23 ?_
        refine q_getI hC (by first | assumption | rfl) flX0_73 dX0_tryFamily_26 ?_
        rw [hT1.1]
        refine q_icmp_ge hC 96 dX0_tryFamily_29 (by decide) (fun hb => ?_) (fun hb => ?_)
        · refine q_vret hC dX0_tryFamily_96 ?_
          exact ⟨hF1, hK1, by rw [hfin]; exact hc1, g1, g2⟩
        · exact absurd (nI_le (Nat.le_refl _) (by omega)) hb
      | succ n ihn =>
        intro p S1 l5 l6 hp hF1 hK1 g1 g2 hc1
        have hT1 := hT.fr4 hF1 rfl
        have hsp : (fdl g p s).1 ≤ 100000 := fdl_inv (I := fun s : S3 => s.1 ≤ 100000) hs1 p (fun q s' _ h => hgle q s' h)
        -- behind the worth
        have go : ∀ th S2, th = (if taken / 2 ^ p % 2 = 0 then wW T w worth f p else 100000) → Fr S S2 [37, 38, 39, 40, 41] → KnR S2 T → S2.1 39 2 = S.1 39 2 → S2.1 39 3 = S.1 39 3 → ChR S2 (fdl g p s) → th ≤ 1000000 → K 58 [some (.ref (sA θ 39)), some (.int (nI f)), some (.int (nI taken)), some (.int (nI worth)), some (.int (nI p)), some (.int (nI (2 ^ p))), l6] [.int (nI th)] S2 := by
          intro th S2 hth hF2 hK2 g3 g4 hc2 hthl
          refine q_istore_6 hC dX0_tryFamily_58 ?_
          refine q_iload hC dX0_tryFamily_60 ?_
          refine q_aload_n hC dX0_tryFamily_62 ?_
          refine q_getI hC (by first | assumption | rfl) flX0_19 dX0_tryFamily_63 ?_
          rw [hc2.1]
          refine q_icmp_ge hC 90 dX0_tryFamily_66 (by decide) (fun hb => ?_) (fun hb => ?_)
          · have h9 : ¬ th < (fdl g p s).1 := by have := (nI_leI (by omega) (by omega)).mp hb; omega
            refine q_inc1_4 hC dX0_tryFamily_90 ?_
            refine q_goto hC 20 dX0_tryFamily_93 (by decide) ?_
            refine ihn (p + 1) S2 _ _ (by omega) hF2 hK2 g3 g4 ?_
            have e : fdl g (p + 1) s = fdl g p s := by
              show g p (fdl g p s) = _
              rw [hgp, ← hth, if_neg h9]
            rw [e]; exact hc2
          · have h9 : th < (fdl g p s).1 := by
              rcases Nat.lt_or_ge th (fdl g p s).1 with h | h
              · exact h
              · exact absurd (nI_le h (by omega)) hb
            have hT2 := hT.fr4 hF2 rfl
            refine q_aload_n hC dX0_tryFamily_69 ?_
            refine q_getR hC (by first | assumption | rfl) flX0_26 dX0_tryFamily_70 ?_
            refine q_iload_n hC dX0_tryFamily_73 ?_
            refine q_iload hC dX0_tryFamily_74 ?_
            refine q_iastn hC (by first | assumption | rfl) (by first | assumption | omega) dX0_tryFamily_76 ?_
            refine q_aload_n hC dX0_tryFamily_77 ?_
            refine q_iload_n hC dX0_tryFamily_78 ?_
            refine q_iconst (v := nI 1) hC dX0_tryFamily_79 (by decide) ?_
            refine q_iadd hC dX0_tryFamily_80 ?_
            rw [nI_add]
            refine q_iload_n hC dX0_tryFamily_81 ?_
            refine q_iload hC dX0_tryFamily_82 ?_
            refine q_ior hC dX0_tryFamily_84 ?_
            rw [or_n]
            have hF3 : Fr S (up S2 41 f (nI p)) [37, 38, 39, 40, 41] := hF2.trans (Fr.u1.mono (by decide))
            have hch3 : ChR (up S2 41 f (nI p)) ((fdl g p s).1, (fdl g p s).2.1, upd (fdl g p s).2.2 f (nI p)) := by
              refine ⟨by rw [up_oc (by decide)]; exact hc2.1, fun j hj => by rw [up_oc (by decide)]; exact hc2.2.1 j hj, fun j hj => ?_⟩
              show _ = upd (fdl g p s).2.2 f (nI p) j
              by_cases e : j = f
              · subst e; rw [up_s, pk_us]
              · rw [up_of e, pk_un e]; exact hc2.2.2 j hj
            refine q_iload hC dX0_tryFamily_85 ?_
            refine q_callvV3 hC (by first | assumption | rfl) cvX0_40 dX0_tryFamily_87 (ih (f + 1) (taken ||| 2 ^ p) th ((fdl g p s).1, (fdl g p s).2.1, upd (fdl g p s).2.2 f (nI p)) _ (by omega) (or_bit_lt htk (by omega)) (by omega) hsp (hT.fr4 hF3 rfl) (fun f2 hf2 B2 hB2 => by rw [up_oc (by decide)]; exact hK2 f2 hf2 B2 hB2) (by rw [up_oc (by decide), g3]; exact hso) hch3) (by omega) (fun S4 hr4 => ?_)
            obtain ⟨hF4', hK4, hc4, g5, g6⟩ := hr4
            refine q_inc1_4 hC dX0_tryFamily_90 ?_
            refine q_goto hC 20 dX0_tryFamily_93 (by decide) ?_
            refine ihn (p + 1) S4 _ _ (by omega) (hF3.trans hF4') hK4 (by rw [g5, up_oc (by decide)]; exact g3) (by rw [g6, up_oc (by decide)]; exact g4) ?_
            have e : fdl g (p + 1) s = oneD T w k (f + 1) (taken ||| 2 ^ p) th ((fdl g p s).1, (fdl g p s).2.1, upd (fdl g p s).2.2 f (nI p)) := by
              show g p (fdl g p s) = _
              rw [hgp, ← hth, if_pos h9]
            rw [e]; exact hc4
        refine q_iload hC dX0_tryFamily_20 ?_
        refine q_aload_n hC dX0_tryFamily_22 ?_
        refine q_getR hC (by first | assumption | rfl) flX0_32 dX0_tryFamily_23 ?_
        refine q_getI hC (by first | assumption | rfl) flX0_73 dX0_tryFamily_26 ?_
        rw [hT1.1]
        refine q_icmp_ge hC 96 dX0_tryFamily_29 (by decide) (fun hb => ?_) (fun hb => ?_)
        · exact absurd ((nI_leI (by omega) (by omega)).mp hb) (by omega)
        · refine q_iconst (v := nI 1) hC dX0_tryFamily_32 (by decide) ?_
          refine q_iload hC dX0_tryFamily_33 ?_
          refine q_ishl hC dX0_tryFamily_35 ?_
          rw [sh1 (by omega)]
          refine q_istore_5 hC dX0_tryFamily_36 ?_
          refine q_iload_n hC dX0_tryFamily_38 ?_
          refine q_iload hC dX0_tryFamily_39 ?_
          refine q_iand hC dX0_tryFamily_41 ?_
          refine q_if_ne hC 56 dX0_tryFamily_42 (by decide) (fun hb2 => ?_) (fun hb2 => ?_)
          · have hbit : ¬ taken / 2 ^ p % 2 = 0 := fun z => hb2 ((and_bit htk (by omega)).mpr z)
            refine q_ldc hC kcX0_18 dX0_tryFamily_56 ?_
            exact go 100000 S1 (by rw [if_neg hbit]) hF1 hK1 g1 g2 hc1 (by omega)
          · have hbit : taken / 2 ^ p % 2 = 0 := (and_bit htk (by omega)).mp hb2
            refine q_aload_n hC dX0_tryFamily_45 ?_
            refine q_iload_n hC dX0_tryFamily_46 ?_
            refine q_iload_n hC dX0_tryFamily_47 ?_
            refine q_iload hC dX0_tryFamily_48 ?_
            refine q_calliV3 hC (by first | assumption | rfl) cvX0_76 dX0_tryFamily_50 (c_worthWith θ _ w worth f p T hok hT1 hK1 (by omega) (by omega) hw (by rw [g1]; exact hso) hwo) (by omega) (fun r S2 hr => ?_)
            obtain ⟨rfl, hF2, hK2⟩ := hr
            refine q_goto hC 58 dX0_tryFamily_53 (by decide) ?_
            refine go _ S2 (by rw [if_pos hbit]) (hF1.trans (hF2.mono (by decide))) hK2 (by rw [hF2.c 39]; exact g1) (by rw [hF2.c 39]; exact g2) (hc1.go (hF2.c 39) (hF2.c 40) (hF2.c 41)) ?_
            have hy := yN_le hok (f := f) (by omega) (2 ^ p)
            have hy2 := yd_bd hok f (2 ^ p)
            unfold wW
            split
            · split <;> omega
            · omega
    refine q_iload_n hC dX0_tryFamily_0 ?_
    refine q_aload_n hC dX0_tryFamily_1 ?_
    refine q_getR hC (by first | assumption | rfl) flX0_32 dX0_tryFamily_2 ?_
    refine q_getI hC (by first | assumption | rfl) flX0_58 dX0_tryFamily_5 ?_
    rw [hT.2.1]
    refine q_icmp_lt hC 17 dX0_tryFamily_8 (by decide) (fun hb => ?_) (fun hb => ?_)
    · refine q_iconst (v := nI 0) hC dX0_tryFamily_17 (by decide) ?_
      refine q_istore_4 hC dX0_tryFamily_18 ?_
      exact loop (tP T) 0 S _ _ (by omega) Fr.rfl' hKn rfl rfl hch
    · exact absurd (nI_lt (by omega) (by omega)) hb
theorem c_costsOfNone (θ : Site) (S : St) (T : Tn) (hok : TnOk T) (hT : TwR S 4 T) (hKn : KnR S T) : Cti yX0_costsOfNone cX0_costsOfNone 3 (some .int) 4 θ shX [.ref (sA θ 39)] S (fun r S' => r = nI (cstS T (fun _ => 0) (tF T)) ∧ Fr S S' [37, 38] ∧ KnR S' T) := by
  have hF4 := hok.2.1
  refine Cti.mk (own := RX0) 2 [some (.ref (sA θ 39)), none, none] (fun K hC => ?_)
  have loop : ∀ n f S1, f + n = tF T → Fr S S1 [37, 38] → KnR S1 T → K 4 [some (.ref (sA θ 39)), some (.int (nI (cstS T (fun _ => 0) f))), some (.int (nI f))] [] S1 := by
    intro n
    induction n with
    | zero =>
      intro f S1 hf hF1 hK1
      have e : f = tF T := by omega
      subst e
      have hT1 := hT.fr4 hF1 rfl
      refine q_iload_n hC dX0_costsOfNone_4 ?_
      refine q_aload_n hC dX0_costsOfNone_5 ?_
      refine q_getR hC (by first | assumption | rfl) flX0_32 dX0_costsOfNone_6 ?_
      refine q_getI hC (by first | assumption | rfl) flX0_58 dX0_costsOfNone_9 ?_
      rw [hT1.2.1]
      refine q_icmp_ge hC 33 dX0_costsOfNone_12 (by decide) (fun hb => ?_) (fun hb => ?_)
      · refine q_iload_n hC dX0_costsOfNone_33 ?_
        refine q_iret hC dX0_costsOfNone_34 ?_
        exact ⟨rfl, hF1, hK1⟩
      · exact absurd (nI_le (Nat.le_refl _) (by omega)) hb
    | succ n ih =>
      intro f S1 hf hF1 hK1
      have hT1 := hT.fr4 hF1 rfl
      refine q_iload_n hC dX0_costsOfNone_4 ?_
      refine q_aload_n hC dX0_costsOfNone_5 ?_
      refine q_getR hC (by first | assumption | rfl) flX0_32 dX0_costsOfNone_6 ?_
      refine q_getI hC (by first | assumption | rfl) flX0_58 dX0_costsOfNone_9 ?_
      rw [hT1.2.1]
      refine q_icmp_ge hC 33 dX0_costsOfNone_12 (by decide) (fun hb => ?_) (fun hb => ?_)
      · exact absurd ((nI_leI (by omega) (by omega)).mp hb) (by omega)
      · refine q_iload_n hC dX0_costsOfNone_15 ?_
        refine q_aload_n hC dX0_costsOfNone_16 ?_
        refine q_getR hC (by first | assumption | rfl) flX0_36 dX0_costsOfNone_17 ?_
        refine q_iload_n hC dX0_costsOfNone_20 ?_
        refine q_iconst (v := nI 0) hC dX0_costsOfNone_21 (by decide) ?_
        refine q_calliV2 hC (by first | assumption | rfl) cvX0_63 dX0_costsOfNone_22 (c_cost θ _ f 0 T hok hT1 hK1 (by omega) (by omega)) (by decide) (fun r S2 hr => ?_)
        obtain ⟨rfl, hF2, hK2⟩ := hr
        refine q_iadd hC dX0_costsOfNone_25 ?_
        rw [nI_add]
        refine q_istore_1 hC dX0_costsOfNone_26 ?_
        refine q_inc1_2 hC dX0_costsOfNone_27 ?_
        refine q_goto hC 4 dX0_costsOfNone_30 (by decide) ?_
        exact ih (f + 1) S2 (by omega) (hF1.trans hF2) hK2
  refine q_iconst (v := nI 0) hC dX0_costsOfNone_0 (by decide) ?_
  refine q_istore_1 hC dX0_costsOfNone_1 ?_
  refine q_iconst (v := nI 0) hC dX0_costsOfNone_2 (by decide) ?_
  refine q_istore_2 hC dX0_costsOfNone_3 ?_
  exact loop (tF T) 0 S (by omega) Fr.rfl' hKn
