theorem c_choiceAnew (θ : Site) (S : St) : Ctv yX0_startAnew cX0_startAnew 1 none 0 θ shX [.ref (sA θ 39)] S (fun S' => S' = up S 39 2 (-1)) := by
  refine Ctv.mk (own := RX0) 0 [some (.ref (sA θ 39))] (fun K hC => ?_)
  refine q_aload_n hC dX0_startAnew_0 ?_
  refine q_iconst (v := (-1)) hC dX0_startAnew_1 (by decide) ?_
  refine q_putI hC (by first | assumption | rfl) fpX0_11 dX0_startAnew_2 ?_
  refine q_vret hC dX0_startAnew_5 ?_
  rfl
theorem c_take (θ : Site) (S : St) (worth : Nat) (s : S3) (hs : ChR S s) : Ctv yX0_take cX0_take 2 none 1 θ shX [.ref (sA θ 39), .int (nI worth)] S (fun S' => Fr S S' [39, 40] ∧ ChR S' (worth, s.2.2, s.2.2) ∧ S'.1 39 2 = S.1 39 2 ∧ S'.1 39 3 = S.1 39 3) := by
  refine Ctv.mk (own := RX0) 0 [some (.ref (sA θ 39)), some (.int (nI worth))] (fun K hC => ?_)
  refine q_aload_n hC dX0_take_0 ?_
  refine q_iload_n hC dX0_take_1 ?_
  refine q_putI hC (by first | assumption | rfl) fpX0_19 dX0_take_2 ?_
  refine q_aload_n hC dX0_take_5 ?_
  refine q_getR hC (by first | assumption | rfl) flX0_26 dX0_take_6 ?_
  refine q_iconst (v := nI 0) hC dX0_take_9 (by decide) ?_
  refine q_aload_n hC dX0_take_10 ?_
  refine q_getR hC (by first | assumption | rfl) flX0_22 dX0_take_11 ?_
  refine q_iconst (v := nI 0) hC dX0_take_14 (by decide) ?_
  refine q_bipush (v := nI 8) hC dX0_take_15 (by decide) ?_
  refine q_copy hC (by first | assumption | rfl) (by first | assumption | rfl) mlX0_91 (by decide) (by decide) (by decide) (by decide) (by decide) (by decide) dX0_take_17 ?_
  refine q_vret hC dX0_take_20 ?_
  refine ⟨Fr.trans (Fr.u1.mono (by decide)) (Fr.uA.mono (by decide)), ⟨?_, fun j hj => ?_, fun j hj => ?_⟩, ?_, ?_⟩
  · rw [upA_o (by decide), up_s]
  · rw [upA_s, cpyI hj (by omega), up_oc (by decide)]; exact hs.2.2 j hj
  · rw [upA_o (by decide), up_oc (by decide)]; exact hs.2.2 j hj
  · rw [upA_o (by decide), up_of (by decide)]
  · rw [upA_o (by decide), up_of (by decide)]
theorem c_worthWith (θ : Site) (S : St) (w worth f p : Nat) (T : Tn) (hok : TnOk T) (hT : TwR S 4 T) (hKn : KnR S T) (hf : f < tF T) (hp : p < 8) (hw : w ≤ 1) (hso : S.1 39 2 = nI w) (hwo : worth ≤ 100000) : Cti yX0_worthWith cX0_worthWith 4 (some .int) 3 θ shX [.ref (sA θ 39), .int (nI worth), .int (nI f), .int (nI (2 ^ p))] S (fun r S' => r = nI (wW T w worth f p) ∧ Fr S S' [37, 38] ∧ KnR S' T) := by
  have hF4 := hok.2.1
  have hB : 2 ^ p < 256 := Nat.pow_lt_pow_right (n := 8) (by omega) hp
  have hyb := yd_bd hok f (2 ^ p)
  refine Cti.mk (own := RX0) 0 [some (.ref (sA θ 39)), some (.int (nI worth)), some (.int (nI f)), some (.int (nI (2 ^ p)))] (fun K hC => ?_)
  refine q_aload_n hC dX0_worthWith_0 ?_
  refine q_getI hC (by first | assumption | rfl) flX0_11 dX0_worthWith_1 ?_
  rw [hso]
  refine q_iconst (v := nI 1) hC dX0_worthWith_4 (by decide) ?_
  refine q_icmp_ne hC 22 dX0_worthWith_5 (by decide) (fun hb => ?_) (fun hb => ?_)
  · have hw1 : ¬ w = 1 := fun z => hb (by rw [z])
    refine q_iload_n hC dX0_worthWith_22 ?_
    refine q_aload_n hC dX0_worthWith_23 ?_
    refine q_getR hC (by first | assumption | rfl) flX0_36 dX0_worthWith_24 ?_
    refine q_iload_n hC dX0_worthWith_27 ?_
    refine q_iload_n hC dX0_worthWith_28 ?_
    refine q_calliV2 hC (by first | assumption | rfl) cvX0_80 dX0_worthWith_29 (c_yards θ _ f _ T hok hT hKn hf hB) (by decide) (fun r S1 hr => ?_)
    obtain ⟨rfl, hF1, hK1⟩ := hr
    have hT1 := hT.fr4 hF1 rfl
    refine q_aload_n hC dX0_worthWith_32 ?_
    refine q_getR hC (by first | assumption | rfl) flX0_32 dX0_worthWith_33 ?_
    refine q_getR hC (by first | assumption | rfl) flX0_88 dX0_worthWith_36 ?_
    refine q_iload_n hC dX0_worthWith_39 ?_
    refine q_ialdn hC (by first | assumption | rfl) (by first | assumption | omega) dX0_worthWith_40 ?_
    rw [(hT1.2.2.2 f hf).2.2]
    refine q_imul hC dX0_worthWith_41 ?_
    rw [pk_mul]
    refine q_iadd hC dX0_worthWith_42 ?_
    rw [nI_add]
    refine q_iret hC dX0_worthWith_43 ?_
    exact ⟨by unfold wW; rw [if_neg hw1], hF1, hK1⟩
  · have hw1 : w = 1 := nI_small (by omega) (by omega) hb
    refine q_iload_n hC dX0_worthWith_8 ?_
    refine q_aload_n hC dX0_worthWith_9 ?_
    refine q_getR hC (by first | assumption | rfl) flX0_36 dX0_worthWith_10 ?_
    refine q_iload_n hC dX0_worthWith_13 ?_
    refine q_iload_n hC dX0_worthWith_14 ?_
    refine q_calliV2 hC (by first | assumption | rfl) cvX0_80 dX0_worthWith_15 (c_yards θ _ f _ T hok hT hKn hf hB) (by decide) (fun r S1 hr => ?_)
    obtain ⟨rfl, hF1, hK1⟩ := hr
    refine q_max hC mlX0_83 (by decide) dX0_worthWith_18 ?_
    refine q_iret hC dX0_worthWith_21 ?_
    refine ⟨?_, hF1, hK1⟩
    unfold wW
    rw [if_pos hw1]
    by_cases h : worth < yd T f (2 ^ p)
    · rw [if_pos h, if_pos (nI_lt h (by omega))]
    · rw [if_neg h, if_neg (nI_nlt (by omega) (by omega))]
/-- Choice.tryFamily(f, taken, worth) -/
theorem c_tryFamily (θ : Site) (T : Tn) (w : Nat) (hok : TnOk T) (hw : w ≤ 1) : ∀ (k f taken worth : Nat) (s : S3) (S : St), f + k = tF T → taken < 256 → worth ≤ 100000 → s.1 ≤ 100000 → TwR S 4 T → KnR S T → S.1 39 2 = nI w → ChR S s → Ctv yX0_tryFamily cX0_tryFamily 7 none (4 + k) θ shX [.ref (sA θ 39), .int (nI f), .int (nI taken), .int (nI worth)] S (fun S' => Fr S S' [37, 38, 39, 40, 41] ∧ KnR S' T ∧ ChR S' (oneD T w k f taken worth s) ∧ S'.1 39 2 = S.1 39 2 ∧ S'.1 39 3 = S.1 39 3) := by
  have h8 := hok.1
  have hF4 := hok.2.1
  intro k
  induction k with
  | zero =>
    intro f taken worth s S hf htk hwo hs1 hT hKn hso hch
    refine Ctv.mk (own := RX0) 3 [some (.ref (sA θ 39)), some (.int (nI f)), some (.int (nI taken)), some (.int (nI worth)), none, none, none] (fun K hC => ?_)
    refine q_iload_n hC dX0_tryFamily_0 ?_
    refine q_aload_n hC dX0_tryFamily_1 ?_
    refine q_getR hC (by first | assumption | rfl) flX0_32 dX0_tryFamily_2 ?_
    refine q_getI hC (by first | assumption | rfl) flX0_58 dX0_tryFamily_5 ?_
    rw [hT.2.1]
    refine q_icmp_lt hC 17 dX0_tryFamily_8 (by decide) (fun hb => ?_) (fun hb => ?_)
    · exact absurd ((nI_ltI (by omega) (by omega)).mp hb) (by omega)
    · refine q_aload_n hC dX0_tryFamily_11 ?_
      refine q_iload_n hC dX0_tryFamily_12 ?_
      refine q_callvV1 hC (by first | assumption | rfl) cvX0_69 dX0_tryFamily_13 (c_take θ _ worth s hch) (by omega) (fun S1 hr => ?_)
      obtain ⟨hF1, hc1, g1, g2⟩ := hr
      refine q_vret hC dX0_tryFamily_16 ?_
      exact ⟨hF1.mono (by decide), fun f hf B hB => by rw [hF1.c 37]; exact hKn f hf B hB, hc1, g1, g2⟩
  | succ k ih =>
    intro f taken worth s S hf htk hwo hs1 hT hKn hso hch
    refine Ctv.mk (own := RX0) 3 [some (.ref (sA θ 39)), some (.int (nI f)), some (.int (nI taken)), some (.int (nI worth)), none, none, none] (fun K hC => ?_)
    generalize hg : (fun p (s : S3) => if (if taken / 2 ^ p % 2 = 0 then wW T w worth f p else 100000) < s.1 then oneD T w k (f + 1) (taken ||| 2 ^ p) (if taken / 2 ^ p % 2 = 0 then wW T w worth f p else 100000) (s.1, s.2.1, upd s.2.2 f (nI p)) else s) = g
    have hfin : oneD T w (k + 1) f taken worth s = fdl g (tP T) s := by rw [← hg]; rfl
    have hgp : ∀ p (s : S3), g p s = if (if taken / 2 ^ p % 2 = 0 then wW T w worth f p else 100000) < s.1 then oneD T w k (f + 1) (taken ||| 2 ^ p) (if taken / 2 ^ p % 2 = 0 then wW T w worth f p else 100000) (s.1, s.2.1, upd s.2.2 f (nI p)) else s := fun p s => by rw [← hg]
    have hgle : ∀ p (s : S3), s.1 ≤ 100000 → (g p s).1 ≤ 100000 := by
      intro p s' hs'
      rw [hgp]
      by_cases hc : (if taken / 2 ^ p % 2 = 0 then wW T w worth f p else 100000) < s'.1
      · rw [if_pos hc]; exact oneD_le k _ _ _ _ (by omega) hs'
      · rw [if_neg hc]; exact hs'
    have loop : ∀ n p S1 l5 l6, p + n = tP T → Fr S S1 [37, 38, 39, 40, 41] → KnR S1 T → S1.1 39 2 = S.1 39 2 → S1.1 39 3 = S.1 39 3 → ChR S1 (fdl g p s) → K 20 [some (.ref (sA θ 39)), some (.int (nI f)), some (.int (nI taken)), some (.int (nI worth)), some (.int (nI p)), l5, l6] [] S1 := by
      intro n
      induction n with
      | zero =>
        intro p S1 l5 l6 hp hF1 hK1 g1 g2 hc1
        have e : p = tP T := by omega
        subst e
        have hT1 := hT.fr4 hF1 rfl
        refine q_iload hC dX0_tryFamily_20 ?_
        refine q_aload_n hC dX0_tryFamily_22 ?_
        refine q_getR hC (by first | assumption | rfl) flX0_32 dX0_tryFamily_23 ?_
        refine q_getI hC (by first | assumption | rfl) flX0_73 dX0_tryFamily_26 ?_
        rw [hT1.1]
        refine q_icmp_ge hC 96 dX0_tryFamily_29 (by decide) (fun hb => ?_) (fun hb => ?_)
        · refine q_vret hC dX0_tryFamily_96 ?_
          exact ⟨hF1, hK1, by rw [hfin]; exact hc1, g1, g2⟩
        · exact absurd (nI_le (Nat.le_refl _) (by omega)) hb
      | succ n ihn =>
        intro p S1 l5 l6 hp hF1 hK1 g1 g2 hc1
        have hT1 := hT.fr4 hF1 rfl
        have hsp : (fdl g p s).1 ≤ 100000 := fdl_inv (I := fun s : S3 => s.1 ≤ 100000) hs1 p (fun q s' _ h => hgle q s' h)
        -- behind the worth
        have go : ∀ th S2, th = (if taken / 2 ^ p % 2 = 0 then wW T w worth f p else 100000) → Fr S S2 [37, 38, 39, 40, 41] → KnR S2 T → S2.1 39 2 = S.1 39 2 → S2.1 39 3 = S.1 39 3 → ChR S2 (fdl g p s) → th ≤ 1000000 → K 58 [some (.ref (sA θ 39)), some (.int (nI f)), some (.int (nI taken)), some (.int (nI worth)), some (.int (nI p)), some (.int (nI (2 ^ p))), l6] [.int (nI th)] S2 := by
          intro th S2 hth hF2 hK2 g3 g4 hc2 hthl
          refine q_istore_6 hC dX0_tryFamily_58 ?_
          refine q_iload hC dX0_tryFamily_60 ?_
          refine q_aload_n hC dX0_tryFamily_62 ?_
          refine q_getI hC (by first | assumption | rfl) flX0_19 dX0_tryFamily_63 ?_
          rw [hc2.1]
          refine q_icmp_ge hC 90 dX0_tryFamily_66 (by decide) (fun hb => ?_) (fun hb => ?_)
          · have h9 : ¬ th < (fdl g p s).1 := by have := (nI_leI (by omega) (by omega)).mp hb; omega
            refine q_inc1_4 hC dX0_tryFamily_90 ?_
            refine q_goto hC 20 dX0_tryFamily_93 (by decide) ?_
            refine ihn (p + 1) S2 _ _ (by omega) hF2 hK2 g3 g4 ?_
            have e : fdl g (p + 1) s = fdl g p s := by
              show g p (fdl g p s) = _
              rw [hgp, ← hth, if_neg h9]
            rw [e]; exact hc2
          · have h9 : th < (fdl g p s).1 := by
              rcases Nat.lt_or_ge th (fdl g p s).1 with h | h
              · exact h
              · exact absurd (nI_le h (by omega)) hb
            have hT2 := hT.fr4 hF2 rfl
            refine q_aload_n hC dX0_tryFamily_69 ?_
            refine q_getR hC (by first | assumption | rfl) flX0_26 dX0_tryFamily_70 ?_
            refine q_iload_n hC dX0_tryFamily_73 ?_
            refine q_iload hC dX0_tryFamily_74 ?_
            refine q_iastn hC (by first | assumption | rfl) (by first | assumption | omega) dX0_tryFamily_76 ?_
            refine q_aload_n hC dX0_tryFamily_77 ?_
            refine q_iload_n hC dX0_tryFamily_78 ?_
            refine q_iconst (v := nI 1) hC dX0_tryFamily_79 (by decide) ?_
            refine q_iadd hC dX0_tryFamily_80 ?_
            rw [nI_add]
            refine q_iload_n hC dX0_tryFamily_81 ?_
            refine q_iload hC dX0_tryFamily_82 ?_
            refine q_ior hC dX0_tryFamily_84 ?_
            rw [or_n]
            have hF3 : Fr S (up S2 41 f (nI p)) [37, 38, 39, 40, 41] := hF2.trans (Fr.u1.mono (by decide))
            have hch3 : ChR (up S2 41 f (nI p)) ((fdl g p s).1, (fdl g p s).2.1, upd (fdl g p s).2.2 f (nI p)) := by
              refine ⟨by rw [up_oc (by decide)]; exact hc2.1, fun j hj => by rw [up_oc (by decide)]; exact hc2.2.1 j hj, fun j hj => ?_⟩
              show _ = upd (fdl g p s).2.2 f (nI p) j
              by_cases e : j = f
              · subst e; rw [up_s, pk_us]
              · rw [up_of e, pk_un e]; exact hc2.2.2 j hj
            refine q_iload hC dX0_tryFamily_85 ?_
            refine q_callvV3 hC (by first | assumption | rfl) cvX0_40 dX0_tryFamily_87 (ih (f + 1) (taken ||| 2 ^ p) th ((fdl g p s).1, (fdl g p s).2.1, upd (fdl g p s).2.2 f (nI p)) _ (by omega) (or_bit_lt htk (by omega)) (by omega) hsp (hT.fr4 hF3 rfl) (fun f2 hf2 B2 hB2 => by rw [up_oc (by decide)]; exact hK2 f2 hf2 B2 hB2) (by rw [up_oc (by decide), g3]; exact hso) hch3) (by omega) (fun S4 hr4 => ?_)
            obtain ⟨hF4', hK4, hc4, g5, g6⟩ := hr4
            refine q_inc1_4 hC dX0_tryFamily_90 ?_
            refine q_goto hC 20 dX0_tryFamily_93 (by decide) ?_
            refine ihn (p + 1) S4 _ _ (by omega) (hF3.trans hF4') hK4 (by rw [g5, up_oc (by decide)]; exact g3) (by rw [g6, up_oc (by decide)]; exact g4) ?_
            have e : fdl g (p + 1) s = oneD T w k (f + 1) (taken ||| 2 ^ p) th ((fdl g p s).1, (fdl g p s).2.1, upd (fdl g p s).2.2 f (nI p)) := by
              show g p (fdl g p s) = _
              rw [hgp, ← hth, if_pos h9]
            rw [e]; exact hc4
        refine q_iload hC dX0_tryFamily_20 ?_
        refine q_aload_n hC dX0_tryFamily_22 ?_
        refine q_getR hC (by first | assumption | rfl) flX0_32 dX0_tryFamily_23 ?_
        refine q_getI hC (by first | assumption | rfl) flX0_73 dX0_tryFamily_26 ?_
        rw [hT1.1]
        refine q_icmp_ge hC 96 dX0_tryFamily_29 (by decide) (fun hb => ?_) (fun hb => ?_)
        · exact absurd ((nI_leI (by omega) (by omega)).mp hb) (by omega)
        · refine q_iconst (v := nI 1) hC dX0_tryFamily_32 (by decide) ?_
          refine q_iload hC dX0_tryFamily_33 ?_
          refine q_ishl hC dX0_tryFamily_35 ?_
          rw [sh1 (by omega)]
          refine q_istore_5 hC dX0_tryFamily_36 ?_
          refine q_iload_n hC dX0_tryFamily_38 ?_
          refine q_iload hC dX0_tryFamily_39 ?_
          refine q_iand hC dX0_tryFamily_41 ?_
          refine q_if_ne hC 56 dX0_tryFamily_42 (by decide) (fun hb2 => ?_) (fun hb2 => ?_)
          · have hbit : ¬ taken / 2 ^ p % 2 = 0 := fun z => hb2 ((and_bit htk (by omega)).mpr z)
            refine q_ldc hC kcX0_18 dX0_tryFamily_56 ?_
            exact go 100000 S1 (by rw [if_neg hbit]) hF1 hK1 g1 g2 hc1 (by omega)
          · have hbit : taken / 2 ^ p % 2 = 0 := (and_bit htk (by omega)).mp hb2
            refine q_aload_n hC dX0_tryFamily_45 ?_
            refine q_iload_n hC dX0_tryFamily_46 ?_
            refine q_iload_n hC dX0_tryFamily_47 ?_
            refine q_iload hC dX0_tryFamily_48 ?_
            refine q_calliV3 hC (by first | assumption | rfl) cvX0_76 dX0_tryFamily_50 (c_worthWith θ _ w worth f p T hok hT1 hK1 (by omega) (by omega) hw (by rw [g1]; exact hso) hwo) (by omega) (fun r S2 hr => ?_)
            obtain ⟨rfl, hF2, hK2⟩ := hr
            refine q_goto hC 58 dX0_tryFamily_53 (by decide) ?_
            refine go _ S2 (by rw [if_pos hbit]) (hF1.trans (hF2.mono (by decide))) hK2 (by rw [hF2.c 39]; exact g1) (by rw [hF2.c 39]; exact g2) (hc1.go (hF2.c 39) (hF2.c 40) (hF2.c 41)) ?_
            have hy := yN_le hok (f := f) (by omega) (2 ^ p)
            have hy2 := yd_bd hok f (2 ^ p)
            unfold wW
            split
            · split <;> omega
            · omega
    refine q_iload_n hC dX0_tryFamily_0 ?_
    refine q_aload_n hC dX0_tryFamily_1 ?_
    refine q_getR hC (by first | assumption | rfl) flX0_32 dX0_tryFamily_2 ?_
    refine q_getI hC (by first | assumption | rfl) flX0_58 dX0_tryFamily_5 ?_
    rw [hT.2.1]
    refine q_icmp_lt hC 17 dX0_tryFamily_8 (by decide) (fun hb => ?_) (fun hb => ?_)
    · refine q_iconst (v := nI 0) hC dX0_tryFamily_17 (by decide) ?_
      refine q_istore_4 hC dX0_tryFamily_18 ?_
      exact loop (tP T) 0 S _ _ (by omega) Fr.rfl' hKn rfl rfl hch
    · exact absurd (nI_lt (by omega) (by omega)) hb
theorem c_costsOfNone (θ : Site) (S : St) (T : Tn) (hok : TnOk T) (hT : TwR S 4 T) (hKn : KnR S T) : Cti yX0_costsOfNone cX0_costsOfNone 3 (some .int) 4 θ shX [.ref (sA θ 39)] S (fun r S' => r = nI (cstS T (fun _ => 0) (tF T)) ∧ Fr S S' [37, 38] ∧ KnR S' T) := by
  have hF4 := hok.2.1
  refine Cti.mk (own := RX0) 2 [some (.ref (sA θ 39)), none, none] (fun K hC => ?_)
  have loop : ∀ n f S1, f + n = tF T → Fr S S1 [37, 38] → KnR S1 T → K 4 [some (.ref (sA θ 39)), some (.int (nI (cstS T (fun _ => 0) f))), some (.int (nI f))] [] S1 := by
    intro n
    induction n with
    | zero =>
      intro f S1 hf hF1 hK1
      have e : f = tF T := by omega
      subst e
      have hT1 := hT.fr4 hF1 rfl
      refine q_iload_n hC dX0_costsOfNone_4 ?_
      refine q_aload_n hC dX0_costsOfNone_5 ?_
      refine q_getR hC (by first | assumption | rfl) flX0_32 dX0_costsOfNone_6 ?_
      refine q_getI hC (by first | assumption | rfl) flX0_58 dX0_costsOfNone_9 ?_
      rw [hT1.2.1]
      refine q_icmp_ge hC 33 dX0_costsOfNone_12 (by decide) (fun hb => ?_) (fun hb => ?_)
      · refine q_iload_n hC dX0_costsOfNone_33 ?_
        refine q_iret hC dX0_costsOfNone_34 ?_
        exact ⟨rfl, hF1, hK1⟩
      · exact absurd (nI_le (Nat.le_refl _) (by omega)) hb
    | succ n ih =>
      intro f S1 hf hF1 hK1
      have hT1 := hT.fr4 hF1 rfl
      refine q_iload_n hC dX0_costsOfNone_4 ?_
      refine q_aload_n hC dX0_costsOfNone_5 ?_
      refine q_getR hC (by first | assumption | rfl) flX0_32 dX0_costsOfNone_6 ?_
      refine q_getI hC (by first | assumption | rfl) flX0_58 dX0_costsOfNone_9 ?_
      rw [hT1.2.1]
      refine q_icmp_ge hC 33 dX0_costsOfNone_12 (by decide) (fun hb => ?_) (fun hb => ?_)
      · exact absurd ((nI_leI (by omega) (by omega)).mp hb) (by omega)
      · refine q_iload_n hC dX0_costsOfNone_15 ?_
        refine q_aload_n hC dX0_costsOfNone_16 ?_
        refine q_getR hC (by first | assumption | rfl) flX0_36 dX0_costsOfNone_17 ?_
        refine q_iload_n hC dX0_costsOfNone_20 ?_
        refine q_iconst (v := nI 0) hC dX0_costsOfNone_21 (by decide) ?_
        refine q_calliV2 hC (by first | assumption | rfl) cvX0_63 dX0_costsOfNone_22 (c_cost θ _ f 0 T hok hT1 hK1 (by omega) (by omega)) (by decide) (fun r S2 hr => ?_)
        obtain ⟨rfl, hF2, hK2⟩ := hr
        refine q_iadd hC dX0_costsOfNone_25 ?_
        rw [nI_add]
        refine q_istore_1 hC dX0_costsOfNone_26 ?_
        refine q_inc1_2 hC dX0_costsOfNone_27 ?_
        refine q_goto hC 4 dX0_costsOfNone_30 (by decide) ?_
        exact ih (f + 1) S2 (by omega) (hF1.trans hF2) hK2
  refine q_iconst (v := nI 0) hC dX0_costsOfNone_0 (by decide) ?_
  refine q_istore_1 hC dX0_costsOfNone_1 ?_
  refine q_iconst (v := nI 0) hC dX0_costsOfNone_2 (by decide) ?_
  refine q_istore_2 hC dX0_costsOfNone_3 ?_
  exact loop (tF T) 0 S (by omega) Fr.rfl' hKn
/-- Choice.tryPiece(p, costs) -/
theorem c_tryPiece (θ : Site) (T : Tn) (st : Nat) (hok : TnOk T) (hst : st < 256) : ∀ (k p : Nat) (gv : Nat → Nat) (s : S3) (S : St), p + k = tP T → (∀ f, gv f < 2 ^ p) → s.1 ≤ 100000 → TwR S 4 T → KnR S T → S.1 39 3 = nI st → ChR S s → GvR S gv → Ctv yX0_tryPiece cX0_tryPiece 6 none (4 + k) θ shX [.ref (sA θ 39), .int (nI p), .int (nI (cstS T gv (tF T)))] S (fun S' => Fr S S' [37, 38, 39, 40, 41, 42] ∧ KnR S' T ∧ ChR S' (allD T st k p gv s) ∧ GvR S' gv ∧ S'.1 39 2 = S.1 39 2 ∧ S'.1 39 3 = S.1 39 3) := by
  have h8 := hok.1
  have hF4 := hok.2.1
  intro k
  induction k with
  | zero =>
    intro p gv s S hp hgv hs1 hT hKn hso hch hg
    refine Ctv.mk (own := RX0) 3 [some (.ref (sA θ 39)), some (.int (nI p)), some (.int (nI (cstS T gv (tF T)))), none, none, none] (fun K hC => ?_)
    refine q_iload_n hC dX0_tryPiece_0 ?_
    refine q_aload_n hC dX0_tryPiece_1 ?_
    refine q_getR hC (by first | assumption | rfl) flX0_32 dX0_tryPiece_2 ?_
    refine q_getI hC (by first | assumption | rfl) flX0_73 dX0_tryPiece_5 ?_
    rw [hT.1]
    refine q_icmp_lt hC 17 dX0_tryPiece_8 (by decide) (fun hb => ?_) (fun hb => ?_)
    · exact absurd ((nI_ltI (by omega) (by omega)).mp hb) (by omega)
    · refine q_aload_n hC dX0_tryPiece_11 ?_
      refine q_iload_n hC dX0_tryPiece_12 ?_
      refine q_callvV1 hC (by first | assumption | rfl) cvX0_69 dX0_tryPiece_13 (c_take θ _ _ s hch) (by omega) (fun S1 hr => ?_)
      obtain ⟨hF1, hc1, g1, g2⟩ := hr
      refine q_vret hC dX0_tryPiece_16 ?_
      exact ⟨hF1.mono (by decide), fun f hf B hB => by rw [hF1.c 37]; exact hKn f hf B hB, hc1, fun f hf => by rw [hF1.c 42]; exact hg f hf, g1, g2⟩
  | succ k ih =>
    intro p gv s S hp hgv hs1 hT hKn hso hch hg
    have hcl := cst_le hok gv (tF T) (Nat.le_refl _)
    refine Ctv.mk (own := RX0) 3 [some (.ref (sA θ 39)), some (.int (nI p)), some (.int (nI (cstS T gv (tF T)))), none, none, none] (fun K hC => ?_)
    refine q_iload_n hC dX0_tryPiece_0 ?_
    refine q_aload_n hC dX0_tryPiece_1 ?_
    refine q_getR hC (by first | assumption | rfl) flX0_32 dX0_tryPiece_2 ?_
    refine q_getI hC (by first | assumption | rfl) flX0_73 dX0_tryPiece_5 ?_
    rw [hT.1]
    refine q_icmp_lt hC 17 dX0_tryPiece_8 (by decide) (fun hb => ?_) (fun hb => ?_)
    · refine q_iconst (v := nI 1) hC dX0_tryPiece_17 (by decide) ?_
      refine q_iload_n hC dX0_tryPiece_18 ?_
      refine q_ishl hC dX0_tryPiece_19 ?_
      rw [sh1 (by omega)]
      refine q_istore_3 hC dX0_tryPiece_20 ?_
      refine q_aload_n hC dX0_tryPiece_21 ?_
      refine q_getI hC (by first | assumption | rfl) flX0_15 dX0_tryPiece_22 ?_
      rw [hso]
      refine q_iload_n hC dX0_tryPiece_25 ?_
      refine q_iand hC dX0_tryPiece_26 ?_
      refine q_if_eq hC 47 dX0_tryPiece_27 (by decide) (fun hb2 => ?_) (fun hb2 => ?_)
      · have hbit : st / 2 ^ p % 2 = 0 := (and_bit hst (by omega)).mp hb2
        generalize hgg : (fun f (s : S3) => if cstS T (gvU gv f p) (tF T) < s.1 then allD T st k (p + 1) (gvU gv f p) (s.1, s.2.1, upd s.2.2 p (nI f)) else s) = g
        have hgp : ∀ f (s : S3), g f s = if cstS T (gvU gv f p) (tF T) < s.1 then allD T st k (p + 1) (gvU gv f p) (s.1, s.2.1, upd s.2.2 p (nI f)) else s := fun f s => by rw [← hgg]
        have hfin : allD T st (k + 1) p gv s = fdl g (tF T) s := by
          show (if _ then _ else _) = _
          rw [if_neg (by omega), hgg]
        have hgle : ∀ f (s : S3), s.1 ≤ 100000 → (g f s).1 ≤ 100000 := by
          intro f s' hs'
          rw [hgp]
          by_cases hc : cstS T (gvU gv f p) (tF T) < s'.1
          · rw [if_pos hc]; exact allD_le k _ _ _ (by omega) hs'
          · rw [if_neg hc]; exact hs'
        have loop : ∀ n f S1 l5, f + n = tF T → Fr S S1 [37, 38, 39, 40, 41, 42] → KnR S1 T → S1.1 39 2 = S.1 39 2 → S1.1 39 3 = S.1 39 3 → ChR S1 (fdl g f s) → GvR S1 gv → K 50 [some (.ref (sA θ 39)), some (.int (nI p)), some (.int (nI (cstS T gv (tF T)))), some (.int (nI (2 ^ p))), some (.int (nI f)), l5] [] S1 := by
          intro n
          induction n with
          | zero =>
            intro f S1 l5 hf hF1 hK1 g1 g2 hc1 hg1
            have e : f = tF T := by omega
            subst e
            have hT1 := hT.fr4 hF1 rfl
            refine q_iload hC dX0_tryPiece_50 ?_
            refine q_aload_n hC dX0_tryPiece_52 ?_
            refine q_getR hC (by first | assumption | rfl) flX0_32 dX0_tryPiece_53 ?_
            refine q_getI hC (by first | assumption | rfl) flX0_58 dX0_tryPiece_56 ?_
            rw [hT1.2.1]
            refine q_icmp_ge hC 157 dX0_tryPiece_59 (by decide) (fun hb3 => ?_) (fun hb3 => ?_)
            · refine q_vret hC dX0_tryPiece_157 ?_
              exact ⟨hF1, hK1, by rw [hfin]; exact hc1, hg1, g1, g2⟩
            · exact absurd (nI_le (Nat.le_refl _) (by omega)) hb3
          | succ n ihn =>
            intro f S1 l5 hf hF1 hK1 g1 g2 hc1 hg1
            have hT1 := hT.fr4 hF1 rfl
            have hsp : (fdl g f s).1 ≤ 100000 := fdl_inv (I := fun s : S3 => s.1 ≤ 100000) hs1 f (fun q s' _ h => hgle q s' h)
            have hgl : gv f < 256 := Nat.lt_of_lt_of_le (hgv f) (Nat.pow_le_pow_right (n := 2) (by omega) (show p ≤ 8 by omega))
            have hgl2 := or_bit_lt hgl (show p < 8 by omega)
            have hmem := cst_mem T gv (tF T) f (by omega)
            have hup := cst_up T gv f (gv f ||| 2 ^ p) (tF T)
            rw [if_pos (show f < tF T by omega), if_pos (show f < tF T by omega)] at hup
            have hy2 := yN_le hok (show f < tF T by omega) (gv f ||| 2 ^ p)
            have hth : cstS T gv (tF T) - yd T f (gv f) * tN T f + yd T f (gv f ||| 2 ^ p) * tN T f = cstS T (gvU gv f p) (tF T) := by unfold gvU; omega
            have hthl := cst_le hok (gvU gv f p) (tF T) (Nat.le_refl _)
            refine q_iload hC dX0_tryPiece_50 ?_
            refine q_aload_n hC dX0_tryPiece_52 ?_
            refine q_getR hC (by first | assumption | rfl) flX0_32 dX0_tryPiece_53 ?_
            refine q_getI hC (by first | assumption | rfl) flX0_58 dX0_tryPiece_56 ?_
            rw [hT1.2.1]
            refine q_icmp_ge hC 157 dX0_tryPiece_59 (by decide) (fun hb3 => ?_) (fun hb3 => ?_)
            · exact absurd ((nI_leI (by omega) (by omega)).mp hb3) (by omega)
            · refine q_iload_n hC dX0_tryPiece_62 ?_
              refine q_aload_n hC dX0_tryPiece_63 ?_
              refine q_getR hC (by first | assumption | rfl) flX0_36 dX0_tryPiece_64 ?_
              refine q_iload hC dX0_tryPiece_67 ?_
              refine q_aload_n hC dX0_tryPiece_69 ?_
              refine q_getR hC (by first | assumption | rfl) flX0_29 dX0_tryPiece_70 ?_
              refine q_iload hC dX0_tryPiece_73 ?_
              refine q_ialdn hC (by first | assumption | rfl) (by first | assumption | omega) dX0_tryPiece_75 ?_
              rw [hg1 f (by omega)]
              refine q_calliV2 hC (by first | assumption | rfl) cvX0_63 dX0_tryPiece_76 (c_cost θ _ f (gv f) T hok hT1 hK1 (by omega) hgl) (by omega) (fun r S2 hr2 => ?_)
              obtain ⟨rfl, hF2, hK2⟩ := hr2
              have hF12 := hF1.trans (hF2.mono (M := [37, 38, 39, 40, 41, 42]) (by decide))
              have hT2 := hT.fr4 hF12 rfl
              refine q_isub hC dX0_tryPiece_79 ?_
              rw [pk_sub hmem]
              refine q_aload_n hC dX0_tryPiece_80 ?_
              refine q_getR hC (by first | assumption | rfl) flX0_36 dX0_tryPiece_81 ?_
              refine q_iload hC dX0_tryPiece_84 ?_
              refine q_aload_n hC dX0_tryPiece_86 ?_
              refine q_getR hC (by first | assumption | rfl) flX0_29 dX0_tryPiece_87 ?_
              refine q_iload hC dX0_tryPiece_90 ?_
              refine q_ialdn hC (by first | assumption | rfl) (by first | assumption | omega) dX0_tryPiece_92 ?_
              rw [hF2.c 42, hg1 f (by omega)]
              refine q_iload_n hC dX0_tryPiece_93 ?_
              refine q_ior hC dX0_tryPiece_94 ?_
              rw [or_n]
              refine q_calliV2 hC (by first | assumption | rfl) cvX0_63 dX0_tryPiece_95 (c_cost θ _ f (gv f ||| 2 ^ p) T hok hT2 hK2 (by omega) hgl2) (by omega) (fun r S3 hr3 => ?_)
              obtain ⟨rfl, hF3, hK3⟩ := hr3
              have hF13 := hF12.trans (hF3.mono (M := [37, 38, 39, 40, 41, 42]) (by decide))
              have hT3 := hT.fr4 hF13 rfl
              have hg3 : GvR S3 gv := fun x hx => by rw [hF3.c 42, hF2.c 42]; exact hg1 x hx
              have hc3 : ChR S3 (fdl g f s) := (hc1.go (hF2.c 39) (hF2.c 40) (hF2.c 41)).go (hF3.c 39) (hF3.c 40) (hF3.c 41)
              have k1 : S3.1 39 2 = S.1 39 2 := by rw [hF3.c 39, hF2.c 39]; exact g1
              have k2 : S3.1 39 3 = S.1 39 3 := by rw [hF3.c 39, hF2.c 39]; exact g2
              refine q_iadd hC dX0_tryPiece_98 ?_
              rw [nI_add, hth]
              refine q_istore_5 hC dX0_tryPiece_99 ?_
              refine q_iload hC dX0_tryPiece_101 ?_
              refine q_aload_n hC dX0_tryPiece_103 ?_
              refine q_getI hC (by first | assumption | rfl) flX0_19 dX0_tryPiece_104 ?_
              rw [hc3.1]
              refine q_icmp_ge hC 151 dX0_tryPiece_107 (by decide) (fun hb4 => ?_) (fun hb4 => ?_)
              · have h9 : ¬ cstS T (gvU gv f p) (tF T) < (fdl g f s).1 := by have := (nI_leI (by omega) (by omega)).mp hb4; omega
                refine q_inc1_4 hC dX0_tryPiece_151 ?_
                refine q_goto hC 50 dX0_tryPiece_154 (by decide) ?_
                refine ihn (f + 1) S3 _ (by omega) hF13 hK3 k1 k2 ?_ hg3
                have e : fdl g (f + 1) s = fdl g f s := by
                  show g f (fdl g f s) = _
                  rw [hgp, if_neg h9]
                rw [e]; exact hc3
              · have h9 : cstS T (gvU gv f p) (tF T) < (fdl g f s).1 := by
                  rcases Nat.lt_or_ge (cstS T (gvU gv f p) (tF T)) (fdl g f s).1 with h | h
                  · exact h
                  · exact absurd (nI_le h (by omega)) hb4
                refine q_aload_n hC dX0_tryPiece_110 ?_
                refine q_getR hC (by first | assumption | rfl) flX0_26 dX0_tryPiece_111 ?_
                refine q_iload_n hC dX0_tryPiece_114 ?_
                refine q_iload hC dX0_tryPiece_115 ?_
                refine q_iastn hC (by first | assumption | rfl) (by first | assumption | omega) dX0_tryPiece_117 ?_
                refine q_aload_n hC dX0_tryPiece_118 ?_
                refine q_getR hC (by first | assumption | rfl) flX0_29 dX0_tryPiece_119 ?_
                refine q_iload hC dX0_tryPiece_122 ?_
                refine q_dup2 hC dX0_tryPiece_124 rfl rfl ?_
                refine q_ialdn hC (by first | assumption | rfl) (by first | assumption | omega) dX0_tryPiece_125 ?_
                rw [up_oc (by decide), hg3 f (by omega)]
                refine q_iload_n hC dX0_tryPiece_126 ?_
                refine q_ior hC dX0_tryPiece_127 ?_
                rw [or_n]
                refine q_iastn hC (by first | assumption | rfl) (by first | assumption | omega) dX0_tryPiece_128 ?_
                refine q_aload_n hC dX0_tryPiece_129 ?_
                refine q_iload_n hC dX0_tryPiece_130 ?_
                refine q_iconst (v := nI 1) hC dX0_tryPiece_131 (by decide) ?_
                refine q_iadd hC dX0_tryPiece_132 ?_
                rw [nI_add]
                have hF4' : Fr S (up (up S3 41 p (nI f)) 42 f (nI (gv f ||| 2 ^ p))) [37, 38, 39, 40, 41, 42] := hF13.trans (Fr.trans (Fr.u1.mono (by decide)) (Fr.u1.mono (by decide)))
                have hg4 : GvR (up (up S3 41 p (nI f)) 42 f (nI (gv f ||| 2 ^ p))) (gvU gv f p) := fun x hx => by
                  unfold gvU
                  by_cases e : x = f
                  · subst e; rw [up_s, upN_s]
                  · rw [up_of e, up_oc (by decide), upN_o e]; exact hg3 x hx
                have hc4 : ChR (up (up S3 41 p (nI f)) 42 f (nI (gv f ||| 2 ^ p))) ((fdl g f s).1, (fdl g f s).2.1, upd (fdl g f s).2.2 p (nI f)) := by
                  refine ⟨by rw [up_oc (by decide), up_oc (by decide)]; exact hc3.1, fun j hj => by rw [up_oc (by decide), up_oc (by decide)]; exact hc3.2.1 j hj, fun j hj => ?_⟩
                  show _ = upd (fdl g f s).2.2 p (nI f) j
                  rw [up_oc (by decide)]
                  by_cases e : j = p
                  · subst e; rw [up_s, pk_us]
                  · rw [up_of e, pk_un e]; exact hc3.2.2 j hj
                have hgv4 : ∀ x, gvU gv f p x < 2 ^ (p + 1) := fun x => by
                  have h20 : 2 ^ p < 2 ^ (p + 1) := Nat.pow_lt_pow_right (by omega) (by omega)
                  unfold gvU
                  by_cases e : x = f
                  · subst e; rw [upN_s]; exact Nat.or_lt_two_pow (Nat.lt_trans (hgv x) h20) h20
                  · rw [upN_o e]; exact Nat.lt_trans (hgv x) h20
                have hK4 : KnR (up (up S3 41 p (nI f)) 42 f (nI (gv f ||| 2 ^ p))) T := fun f2 hf2 B2 hB2 => by rw [up_oc (by decide), up_oc (by decide)]; exact hK3 f2 hf2 B2 hB2
                refine q_iload hC dX0_tryPiece_133 ?_
                refine q_callvV2 hC (by first | assumption | rfl) cvX0_54 dX0_tryPiece_135 (ih (p + 1) (gvU gv f p) ((fdl g f s).1, (fdl g f s).2.1, upd (fdl g f s).2.2 p (nI f)) _ (by omega) hgv4 hsp (hT.fr4 hF4' rfl) hK4 (by rw [up_oc (by decide), up_oc (by decide), k2]; exact hso) hc4 hg4) (by omega) (fun S5 hr5 => ?_)
                obtain ⟨hF5, hK5, hc5, hg5, k3, k4⟩ := hr5
                refine q_aload_n hC dX0_tryPiece_138 ?_
                refine q_getR hC (by first | assumption | rfl) flX0_29 dX0_tryPiece_139 ?_
                refine q_iload hC dX0_tryPiece_142 ?_
                refine q_dup2 hC dX0_tryPiece_144 rfl rfl ?_
                refine q_ialdn hC (by first | assumption | rfl) (by first | assumption | omega) dX0_tryPiece_145 ?_
                rw [hg5 f (by omega), show gvU gv f p f = gv f ||| 2 ^ p from upN_s]
                refine q_iload_n hC dX0_tryPiece_146 ?_
                refine q_iconst (v := (-1)) hC dX0_tryPiece_147 (by decide) ?_
                refine q_ixor hC dX0_tryPiece_148 ?_
                refine q_iand hC dX0_tryPiece_149 ?_
                rw [or_andnot (by omega) (hgv f)]
                refine q_iastn hC (by first | assumption | rfl) (by first | assumption | omega) dX0_tryPiece_150 ?_
                refine q_inc1_4 hC dX0_tryPiece_151 ?_
                refine q_goto hC 50 dX0_tryPiece_154 (by decide) ?_
                refine ihn (f + 1) _ _ (by omega) (hF4'.trans (hF5.trans (Fr.u1.mono (by decide)))) (fun f2 hf2 B2 hB2 => by rw [up_oc (by decide)]; exact hK5 f2 hf2 B2 hB2) ?_ ?_ ?_ ?_
                · rw [up_oc (by decide), k3, up_oc (by decide), up_oc (by decide)]; exact k1
                · rw [up_oc (by decide), k4, up_oc (by decide), up_oc (by decide)]; exact k2
                · have e : fdl g (f + 1) s = allD T st k (p + 1) (gvU gv f p) ((fdl g f s).1, (fdl g f s).2.1, upd (fdl g f s).2.2 p (nI f)) := by
                    show g f (fdl g f s) = _
                    rw [hgp, if_pos h9]
                  rw [e]
                  exact hc5.go (up_oc (k := 42) (by decide)) (up_oc (k := 42) (by decide)) (up_oc (k := 42) (by decide))
                · intro x hx
                  by_cases e : x = f
                  · subst e; rw [up_s]
                  · rw [up_of e, hg5 x hx]; unfold gvU; rw [upN_o e]
        refine q_iconst (v := nI 0) hC dX0_tryPiece_47 (by decide) ?_
        refine q_istore_4 hC dX0_tryPiece_48 ?_
        exact loop (tF T) 0 S _ (by omega) Fr.rfl' hKn rfl rfl hch hg
      · have hbit : st / 2 ^ p % 2 = 1 := by
          have h1 : st / 2 ^ p % 2 < 2 := Nat.mod_lt _ (by omega)
          have h2 : ¬ st / 2 ^ p % 2 = 0 := fun z => hb2 ((and_bit hst (by omega)).mpr z)
          omega
        refine q_aload_n hC dX0_tryPiece_30 ?_
        refine q_getR hC (by first | assumption | rfl) flX0_26 dX0_tryPiece_31 ?_
        refine q_iload_n hC dX0_tryPiece_34 ?_
        refine q_bipush (v := (-5)) hC dX0_tryPiece_35 (by decide) ?_
        refine q_iastn hC (by first | assumption | rfl) (by first | assumption | omega) dX0_tryPiece_37 ?_
        refine q_aload_n hC dX0_tryPiece_38 ?_
        refine q_iload_n hC dX0_tryPiece_39 ?_
        refine q_iconst (v := nI 1) hC dX0_tryPiece_40 (by decide) ?_
        refine q_iadd hC dX0_tryPiece_41 ?_
        rw [nI_add]
        have hF1 : Fr S (up S 41 p (-5)) [37, 38, 39, 40, 41, 42] := Fr.u1.mono (by decide)
        have hc4 : ChR (up S 41 p (-5)) (s.1, s.2.1, upd s.2.2 p (-5)) := by
          refine ⟨by rw [up_oc (by decide)]; exact hch.1, fun j hj => by rw [up_oc (by decide)]; exact hch.2.1 j hj, fun j hj => ?_⟩
          show _ = upd s.2.2 p (-5) j
          by_cases e : j = p
          · subst e; rw [up_s, pk_us]
          · rw [up_of e, pk_un e]; exact hch.2.2 j hj
        refine q_iload_n hC dX0_tryPiece_42 ?_
        refine q_callvV2 hC (by first | assumption | rfl) cvX0_54 dX0_tryPiece_43 (ih (p + 1) gv (s.1, s.2.1, upd s.2.2 p (-5)) _ (by omega) (fun x => Nat.lt_trans (hgv x) (Nat.pow_lt_pow_right (by omega) (by omega))) hs1 (hT.fr4 hF1 rfl) (fun f2 hf2 B2 hB2 => by rw [up_oc (by decide)]; exact hKn f2 hf2 B2 hB2) (by rw [up_oc (by decide)]; exact hso) hc4 (fun x hx => by rw [up_oc (by decide)]; exact hg x hx)) (by omega) (fun S5 hr5 => ?_)
        obtain ⟨hF5, hK5, hc5, hg5, k3, k4⟩ := hr5
        refine q_vret hC dX0_tryPiece_46 ?_
        refine ⟨hF1.trans hF5, hK5, ?_, hg5, by rw [k3, up_oc (by decide)], by rw [k4, up_oc (by decide)]⟩
        have e : allD T st (k + 1) p gv s = allD T st k (p + 1) gv (s.1, s.2.1, upd s.2.2 p (-5)) := by
          show (if _ then _ else _) = _
          rw [if_pos hbit]
        rw [e]; exact hc5
    · exact absurd (nI_lt (by omega) (by omega)) hb
/-- Choice.seek(what, stones) -/
theorem c_seek (θ : Site) (S : St) (w st : Nat) (T : Tn) (hok : TnOk T) (hT : TwR S 4 T) (hKn : KnR S T) (hCh : ChOk S T) (hw : w ≤ 2) (hst : st < 256) : Ctv yX0_seek cX0_seek 4 none 13 θ shX [.ref (sA θ 39), .int (nI w), .int (nI st)] S (fun S' => Fr S S' [37, 38, 39, 40, 41, 42] ∧ KnR S' T ∧ ∃ s, ChR S' s ∧ CRes T w st s ∧ S'.1 39 2 = nI w ∧ S'.1 39 3 = nI st) := by
  have h8 := hok.1
  have hF4 := hok.2.1
  refine Ctv.mk (own := RX0) 1 [some (.ref (sA θ 39)), some (.int (nI w)), some (.int (nI st)), none] (fun K hC => ?_)
  have fresh : K 17 [some (.ref (sA θ 39)), some (.int (nI w)), some (.int (nI st)), none] [] S := by
    generalize hS0 : up (up (up S 39 2 (nI w)) 39 3 (nI st)) 39 4 (nI 100000) = S0
    have hF0 : Fr S S0 [37, 38, 39, 40, 41, 42] := by
      rw [← hS0]
      exact Fr.trans (Fr.trans (Fr.u1.mono (by decide)) (Fr.u1.mono (by decide))) (Fr.u1.mono (by decide))
    have hT0 := hT.fr4 hF0 rfl
    have hK0 : KnR S0 T := fun f2 hf2 B2 hB2 => by rw [← hS0, up_oc (by decide), up_oc (by decide), up_oc (by decide)]; exact hKn f2 hf2 B2 hB2
    have a2 : S0.1 39 2 = nI w := by rw [← hS0, up_of (by decide), up_of (by decide), up_s]
    have a3 : S0.1 39 3 = nI st := by rw [← hS0, up_of (by decide), up_s]
    have a4 : S0.1 39 4 = nI 100000 := by rw [← hS0, up_s]
    have hc0 : ChR S0 (100000, S0.1 40, S0.1 41) := ⟨a4, fun _ _ => rfl, fun _ _ => rfl⟩
    refine q_aload_n hC dX0_seek_17 ?_
    refine q_iload_n hC dX0_seek_18 ?_
    refine q_putI hC (by first | assumption | rfl) fpX0_11 dX0_seek_19 ?_
    refine q_aload_n hC dX0_seek_22 ?_
    refine q_iload_n hC dX0_seek_23 ?_
    refine q_putI hC (by first | assumption | rfl) fpX0_15 dX0_seek_24 ?_
    refine q_aload_n hC dX0_seek_27 ?_
    refine q_ldc hC kcX0_18 dX0_seek_28 ?_
    refine q_putI hC (by first | assumption | rfl) fpX0_19 dX0_seek_30 ?_
    rw [hS0]
    refine q_iload_n hC dX0_seek_33 ?_
    refine q_iconst (v := nI 2) hC dX0_seek_34 (by decide) ?_
    refine q_icmp_eq hC 49 dX0_seek_35 (by decide) (fun hb => ?_) (fun hb => ?_)
    · have hw2 : w = 2 := nI_small (by omega) (by omega) hb
      refine q_aload_n hC dX0_seek_49 ?_
      refine q_getR hC (by first | assumption | rfl) flX0_29 dX0_seek_50 ?_
      refine q_iconst (v := nI 0) hC dX0_seek_53 (by decide) ?_
      refine q_callvS2 hC csX0_44 dX0_seek_54 (c_fill θ _ 42 4 _ (by decide) rfl) (by decide) (fun S1 hr => ?_)
      generalize hSg : S1 = S9 at hr ⊢
      have hF9 : Fr S0 S9 [42] := by rw [hr]; exact Fr.uA
      have hg9 : GvR S9 (fun _ => 0) := fun f hf => by rw [hr, upA_s, if_pos hf]
      have hF09 := hF0.trans (hF9.mono (M := [37, 38, 39, 40, 41, 42]) (by decide))
      have hT9 := hT.fr4 hF09 rfl
      have hK9 : KnR S9 T := fun f2 hf2 B2 hB2 => by rw [hF9.c 37]; exact hK0 f2 hf2 B2 hB2
      refine q_aload_n hC dX0_seek_57 ?_
      refine q_calliV0 hC (by first | assumption | rfl) cvX0_50 dX0_seek_58 (c_costsOfNone θ _ T hok hT9 hK9) (by decide) (fun r S8 hr8 => ?_)
      obtain ⟨rfl, hF8, hK8⟩ := hr8
      have hF08 := hF09.trans (hF8.mono (M := [37, 38, 39, 40, 41, 42]) (by decide))
      have hT8 := hT.fr4 hF08 rfl
      have hcl := cst_le hok (fun _ => 0) (tF T) (Nat.le_refl _)
      have hc8 : ChR S8 (100000, S0.1 40, S0.1 41) := (hc0.go (hF9.c 39) (hF9.c 40) (hF9.c 41)).go (hF8.c 39) (hF8.c 40) (hF8.c 41)
      have b2 : S8.1 39 2 = nI w := by rw [hF8.c 39, hF9.c 39]; exact a2
      have b3 : S8.1 39 3 = nI st := by rw [hF8.c 39, hF9.c 39]; exact a3
      have hg8 : GvR S8 (fun _ => 0) := fun f hf => by rw [hF8.c 42]; exact hg9 f hf
      refine q_istore_3 hC dX0_seek_61 ?_
      refine q_iload_n hC dX0_seek_62 ?_
      refine q_aload_n hC dX0_seek_63 ?_
      refine q_getI hC (by first | assumption | rfl) flX0_19 dX0_seek_64 ?_
      rw [hc8.1]
      refine q_icmp_ge hC 76 dX0_seek_67 (by decide) (fun hb2 => ?_) (fun hb2 => ?_)
      · have h9 : ¬ cstS T (fun _ => 0) (tF T) < 100000 := by have h5 : 100000 ≤ cstS T (fun _ => 0) (tF T) := (nI_leI (by decide) (by omega)).mp hb2; omega
        refine q_vret hC dX0_seek_76 ?_
        exact ⟨hF08, hK8, _, hc8, ⟨_, _, by rw [if_pos hw2, if_neg h9]⟩, b2, b3⟩
      · have h9 : cstS T (fun _ => 0) (tF T) < 100000 := by
          rcases Nat.lt_or_ge (cstS T (fun _ => 0) (tF T)) 100000 with h | h
          · exact h
          · exact absurd (nI_le h (by omega)) hb2
        refine q_aload_n hC dX0_seek_70 ?_
        refine q_iconst (v := nI 0) hC dX0_seek_71 (by decide) ?_
        refine q_iload_n hC dX0_seek_72 ?_
        refine q_callvV2 hC (by first | assumption | rfl) cvX0_54 dX0_seek_73 (c_tryPiece θ T st hok hst (tP T) 0 (fun _ => 0) _ S8 (by omega) (fun _ => by decide) (Nat.le_refl _) hT8 hK8 b3 hc8 hg8) (by omega) (fun S7 hr7 => ?_)
        obtain ⟨hF7, hK7, hc7, -, k3, k4⟩ := hr7
        refine q_vret hC dX0_seek_76 ?_
        exact ⟨hF08.trans hF7, hK7, _, hc7, ⟨_, _, by rw [if_pos hw2, if_pos h9]⟩, by rw [k3]; exact b2, by rw [k4]; exact b3⟩
    · have hw2 : ¬ w = 2 := fun z => hb (by rw [z])
      refine q_aload_n hC dX0_seek_38 ?_
      refine q_iconst (v := nI 0) hC dX0_seek_39 (by decide) ?_
      refine q_aload_n hC dX0_seek_40 ?_
      refine q_getI hC (by first | assumption | rfl) flX0_15 dX0_seek_41 ?_
      rw [a3]
      refine q_iconst (v := nI 0) hC dX0_seek_44 (by decide) ?_
      refine q_callvV3 hC (by first | assumption | rfl) cvX0_40 dX0_seek_45 (c_tryFamily θ T w hok (by omega) (tF T) 0 st 0 _ S0 (by omega) hst (by omega) (Nat.le_refl _) hT0 hK0 a2 hc0) (by omega) (fun S7 hr7 => ?_)
      obtain ⟨hF7, hK7, hc7, k3, k4⟩ := hr7
      refine q_vret hC dX0_seek_48 ?_
      exact ⟨hF0.trans (hF7.mono (by decide)), hK7, _, hc7, ⟨_, _, by rw [if_neg hw2]⟩, by rw [k3]; exact a2, by rw [k4]; exact a3⟩
  rcases hCh with hm | ⟨w0, st0, s0, q1, q2, q3, q4, q5, q6⟩
  · refine q_aload_n hC dX0_seek_0 ?_
    refine q_getI hC (by first | assumption | rfl) flX0_11 dX0_seek_1 ?_
    rw [hm]
    refine q_iload_n hC dX0_seek_4 ?_
    refine q_icmp_ne hC 17 dX0_seek_5 (by decide) (fun hb => ?_) (fun hb => ?_)
    · exact fresh
    · have : ∀ w, w ≤ 2 → ¬ ((-1 : Int32) = nI w) := by decide
      exact absurd hb (this w hw)
  · refine q_aload_n hC dX0_seek_0 ?_
    refine q_getI hC (by first | assumption | rfl) flX0_11 dX0_seek_1 ?_
    rw [q3]
    refine q_iload_n hC dX0_seek_4 ?_
    refine q_icmp_ne hC 17 dX0_seek_5 (by decide) (fun hb => ?_) (fun hb => ?_)
    · exact fresh
    · have e1 : w0 = w := nI_small (by omega) (by omega) hb
      refine q_aload_n hC dX0_seek_8 ?_
      refine q_getI hC (by first | assumption | rfl) flX0_15 dX0_seek_9 ?_
      rw [q4]
      refine q_iload_n hC dX0_seek_12 ?_
      refine q_icmp_ne hC 17 dX0_seek_13 (by decide) (fun hb2 => ?_) (fun hb2 => ?_)
      · exact fresh
      · have e2 : st0 = st := nI_small (by omega) (by omega) hb2
        refine q_vret hC dX0_seek_16 ?_
        subst e1; subst e2
        exact ⟨Fr.rfl', hKn, s0, q5, q6, q3, q4⟩
