/-- Reader.readAll() -/
theorem c_readAll (θ : Site) (S : St) (L : Nat) (x : Nat → Nat) (hx : TxR S L x) : Cti yX4_readAll cX4_readAll 3 (some .int) 9 θ shX [.ref (sA θ 3)] S (fun r S' => Fr S S' drL ∧ (∀ s, pAll L x 301 0 T00 N00 0 = .inl s → r = -10 - nI s ∧ s ≤ 300) ∧ ∀ k T N, pAll L x 301 0 T00 N00 0 = .inr (k, T, N) → r = nI k ∧ k ≤ 300 ∧ TwR S' 11 T ∧ NwR S' 22 N ∧ TnOk T ∧ NwOk T N) := by
  have hL := hx.1
  refine Cti.mk (own := RX4) 2 [some (.ref (sA θ 3)), none, none] (fun K hC => ?_)
  have fail : ∀ s i l2 S1, Fr S S1 drL → S1.1 3 4 = nI s → s ≤ 300 → pAll L x 301 0 T00 N00 0 = .inl s → K 133 [some (.ref (sA θ 3)), some (.int (nI i)), l2] [] S1 := by
    intro s i l2 S1 hF1 g1 hs he
    refine q_bipush (v := (-10)) hC dX4_readAll_133 (by decide) ?_
    refine q_aload_n hC dX4_readAll_135 ?_
    refine q_getI hC (by first | assumption | rfl) flX4_15 dX4_readAll_136 ?_
    rw [g1]
    refine q_isub hC dX4_readAll_139 ?_
    refine q_iret hC dX4_readAll_140 ?_
    exact ⟨hF1, fun s' e' => (by rw [he] at e'; cases e'; exact ⟨rfl, hs⟩), fun k T N e' => (by rw [he] at e'; cases e')⟩
  have loop : ∀ n i T N a l2 S1, L < a + n → a ≤ L → 2 * i ≤ a → Fr S S1 drL → TnOk T → NwOk T N → TwR S1 11 T → NwR S1 22 N → S1.1 3 3 = nI a → pAll L x 301 0 T00 N00 0 = pAll L x n i T N a → K 21 [some (.ref (sA θ 3)), some (.int (nI i)), l2] [] S1 := by
    intro n
    induction n with
    | zero => intro i T N a l2 S1 h1 h2; omega
    | succ n ih =>
      intro i T N a l2 S1 hn haL hi hF1 hok hNo hT hN g1 he
      have hx1 := hx.go (hF1.c 1) (hF1.c 2)
      have hk8 := kAt_le L x (tkS L x a)
      have hbd := tk_bd (x := x) haL
      have hpi := pItm_ok (x := x) haL hok hNo
      refine q_iload_n hC dX4_readAll_21 ?_
      refine q_sipush (v := nI 300) hC dX4_readAll_22 (by decide) ?_
      refine q_icmp_ge hC 133 dX4_readAll_25 (by decide) (fun hb => ?_) (fun hb => ?_)
      · exact absurd ((nI_leI (by omega) (by omega)).mp hb) (by omega)
      · refine q_aload_n hC dX4_readAll_28 ?_
        refine q_callvV0 hC (by first | assumption | rfl) cvX4_44 dX4_readAll_29 (c_nextToken θ _ a L x hx1 g1 haL) (by decide) (fun S2 hr2 => ?_)
        obtain ⟨hF2, k1, k2, k3, k4⟩ := hr2
        have hF12 := hF1.trans (hF2.mono (M := drL) (by decide))
        have hx2 := hx.go (hF12.c 1) (hF12.c 2)
        have hT2 := hT.go11 hF2
        have hN2 := hN.go22 hF2
        have after : ∀ r S3, RdPost S2 S3 r (pItm L x T N a) → tkK L x a ≠ 0 → K 120 [some (.ref (sA θ 3)), some (.int (nI i)), some (.int r)] [] S3 := by
          intro r S3 hpo hk0
          obtain ⟨hF3, p1, p2⟩ := hpo
          have hF13 := hF12.trans hF3
          cases hp : pItm L x T N a with
          | inl s =>
            obtain ⟨rfl, q2⟩ := p1 s hp
            refine q_iload_n hC dX4_readAll_120 ?_
            refine q_if_ne hC 127 dX4_readAll_121 (by decide) (fun hb2 => ?_) (fun hb2 => ?_)
            · exact absurd rfl hb2
            · refine q_goto hC 133 dX4_readAll_124 (by decide) ?_
              refine fail s i _ S3 hF13 q2 ?_ (by rw [he, pAll_bad hk0 hp])
              exact pItm_s haL hp hL
          | inr z =>
            obtain ⟨T', N', a'⟩ := z
            obtain ⟨rfl, q2, q3, q4⟩ := p2 T' N' a' hp
            obtain ⟨b1, b2, b3, b4⟩ := hpi T' N' a' hp
            refine q_iload_n hC dX4_readAll_120 ?_
            refine q_if_ne hC 127 dX4_readAll_121 (by decide) (fun hb2 => ?_) (fun hb2 => ?_)
            · refine q_inc1_1 hC dX4_readAll_127 ?_
              refine q_goto hC 21 dX4_readAll_130 (by decide) ?_
              exact ih (i + 1) T' N' a' _ S3 (by omega) b2 (by omega) hF13 b3 b4 q2 q3 q4 (by rw [he, pAll_go hk0 hp])
            · exact absurd hb2 (by decide)
        refine q_aload_n hC dX4_readAll_32 ?_
        refine q_getI hC (by first | assumption | rfl) flX4_18 dX4_readAll_33 ?_
        rw [k3]
        by_cases h0 : tkK L x a = 0
        · rw [h0]
          refine q_if_ne hC 41 dX4_readAll_36 (by decide) (fun hb1 => ?_) (fun hb1 => ?_)
          · exact absurd rfl hb1
          · refine q_iload_n hC dX4_readAll_39 ?_
            refine q_iret hC dX4_readAll_40 ?_
            have he2 : pAll L x 301 0 T00 N00 0 = .inr (i, T, N) := by rw [he, pAll_end h0]
            exact ⟨hF12, fun s e' => (by rw [he2] at e'; cases e'), fun k T' N' e' => (by rw [he2] at e'; cases e'; exact ⟨rfl, by omega, hT2, hN2, hok, hNo⟩)⟩
        · have hk : tkK L x a = 1 ∨ tkK L x a = 2 ∨ tkK L x a = 8 ∨ tkK L x a = 3 ∨ tkK L x a = 4 ∨ tkK L x a = 5 ∨ tkK L x a = 6 ∨ tkK L x a = 7 := by unfold tkK at *; omega
          refine q_if_ne hC 41 dX4_readAll_36 (by decide) (fun hb1 => ?_) (fun hb1 => ?_)
          · refine q_iconst (v := nI 0) hC dX4_readAll_41 (by decide) ?_
            refine q_istore_2 hC dX4_readAll_42 ?_
            refine q_aload_n hC dX4_readAll_43 ?_
            refine q_getI hC (by first | assumption | rfl) flX4_18 dX4_readAll_44 ?_
            rw [k3]
            have bad : tkK L x a = 1 ∨ tkK L x a = 2 ∨ tkK L x a = 8 → K 120 [some (.ref (sA θ 3)), some (.int (nI i)), some (.int (nI 0))] [] S2 := by
              intro hz
              refine after (nI 0) S2 (RdPost.bad Fr.rfl' k2 ?_) h0
              unfold pItm
              rw [if_neg (by omega), if_neg (by omega), if_neg (by omega), if_neg (by omega), if_neg (by omega)]
            rcases hk with h | h | h | h | h | h | h | h
            · rw [h]
              refine q_tabOut hC 120 dX4_readAll_47 (by decide) (by decide) ?_
              exact bad (Or.inl h)
            · rw [h]
              refine q_tabOut hC 120 dX4_readAll_47 (by decide) (by decide) ?_
              exact bad (Or.inr (Or.inl h))
            · rw [h]
              refine q_tabOut hC 120 dX4_readAll_47 (by decide) (by decide) ?_
              exact bad (Or.inr (Or.inr h))
            · rw [h]
              refine q_tabIn hC (off := 33) 80 dX4_readAll_47 (by decide) (by decide) (by decide) (by decide) ?_
              refine q_aload_n hC dX4_readAll_80 ?_
              refine q_calliV0 hC (by first | assumption | rfl) cvX4_47 dX4_readAll_81 (c_readPiece θ _ _ _ L x T N hx2 k1 k2 hbd.2.2.2.1 hok hNo hT2 hN2) (by decide) (fun r3 S3 hr3 => ?_)
              refine q_istore_2 hC dX4_readAll_84 ?_
              refine q_goto hC 120 dX4_readAll_85 (by decide) ?_
              exact after r3 S3 (by unfold pItm; rw [if_pos h]; exact hr3) h0
            · rw [h]
              refine q_tabIn hC (off := 41) 88 dX4_readAll_47 (by decide) (by decide) (by decide) (by decide) ?_
              refine q_aload_n hC dX4_readAll_88 ?_
              refine q_calliV0 hC (by first | assumption | rfl) cvX4_51 dX4_readAll_89 (c_readFamily θ _ _ _ L x T N hx2 k1 k2 hbd.2.2.2.1 hok hNo hT2 hN2) (by decide) (fun r3 S3 hr3 => ?_)
              refine q_istore_2 hC dX4_readAll_92 ?_
              refine q_goto hC 120 dX4_readAll_93 (by decide) ?_
              exact after r3 S3 (by unfold pItm; rw [if_neg (by omega), if_pos h]; exact hr3) h0
            · rw [h]
              refine q_tabIn hC (off := 49) 96 dX4_readAll_47 (by decide) (by decide) (by decide) (by decide) ?_
              refine q_aload_n hC dX4_readAll_96 ?_
              refine q_calliV0 hC (by first | assumption | rfl) cvX4_54 dX4_readAll_97 (c_readPaved θ _ _ _ L x T N hx2 k1 k2 hbd.2.2.2.1 hok hNo hT2 hN2) (by decide) (fun r3 S3 hr3 => ?_)
              refine q_istore_2 hC dX4_readAll_100 ?_
              refine q_goto hC 120 dX4_readAll_101 (by decide) ?_
              exact after r3 S3 (by unfold pItm; rw [if_neg (by omega), if_neg (by omega), if_pos h]; exact hr3) h0
            · rw [h]
              refine q_tabIn hC (off := 57) 104 dX4_readAll_47 (by decide) (by decide) (by decide) (by decide) ?_
              refine q_aload_n hC dX4_readAll_104 ?_
              refine q_calliV0 hC (by first | assumption | rfl) cvX4_57 dX4_readAll_105 (c_readStone θ _ _ _ L x T N hx2 k1 k2 hbd.2.2.2.1 hok hNo hT2 hN2) (by decide) (fun r3 S3 hr3 => ?_)
              refine q_istore_2 hC dX4_readAll_108 ?_
              refine q_goto hC 120 dX4_readAll_109 (by decide) ?_
              exact after r3 S3 (by unfold pItm; rw [if_neg (by omega), if_neg (by omega), if_neg (by omega), if_pos h]; exact hr3) h0
            · rw [h]
              refine q_tabIn hC (off := 65) 112 dX4_readAll_47 (by decide) (by decide) (by decide) (by decide) ?_
              refine q_aload_n hC dX4_readAll_112 ?_
              refine q_calliV0 hC (by first | assumption | rfl) cvX4_60 dX4_readAll_113 (c_readFlood θ _ _ _ L x T N hx2 k1 k2 hbd.2.2.2.1 hok hNo hT2 hN2) (by decide) (fun r3 S3 hr3 => ?_)
              refine q_istore_2 hC dX4_readAll_116 ?_
              refine q_goto hC 120 dX4_readAll_117 (by decide) ?_
              exact after r3 S3 (by unfold pItm; rw [if_neg (by omega), if_neg (by omega), if_neg (by omega), if_neg (by omega), if_pos h]; exact hr3) h0
          · exact absurd (nI_small (b := 0) (by unfold tkK; omega) (by omega) hb1) h0
  refine q_aload_n hC dX4_readAll_0 ?_
  refine q_getR hC (by first | assumption | rfl) flX4_28 dX4_readAll_1 ?_
  refine q_callvV0 hC (by first | assumption | rfl) cvX4_36 dX4_readAll_4 (c_Town_empty θ _ 11 twAt11) (by decide) (fun S1 hr1 => ?_)
  obtain ⟨hF1, g1, g2⟩ := hr1
  refine q_aload_n hC dX4_readAll_7 ?_
  refine q_getR hC (by first | assumption | rfl) flX4_32 dX4_readAll_8 ?_
  refine q_callvV0 hC (by first | assumption | rfl) cvX4_41 dX4_readAll_11 (c_Now_empty θ _ 22 nowAt22) (by decide) (fun S2 hr2 => ?_)
  obtain ⟨hF2, hN2⟩ := hr2
  have hF12 : Fr S S2 drL := (hF1.mono (by decide)).trans (hF2.mono (by decide))
  refine q_aload_n hC dX4_readAll_14 ?_
  refine q_iconst (v := nI 0) hC dX4_readAll_15 (by decide) ?_
  refine q_putI hC (by first | assumption | rfl) fpX4_9 dX4_readAll_16 ?_
  refine q_iconst (v := nI 0) hC dX4_readAll_19 (by decide) ?_
  refine q_istore_1 hC dX4_readAll_20 ?_
  refine loop 301 0 T00 N00 0 _ _ (by omega) (by omega) (by omega) (hF12.trans (Fr.u1.mono (by decide))) T00_ok (N00_ok _) ?_ ?_ up_s rfl
  · refine ⟨?_, ?_, fun p hp => absurd hp (Nat.not_lt_zero p), fun p hp => absurd hp (Nat.not_lt_zero p)⟩
    · rw [up_oc (by decide), hF2.c 11]; exact g1
    · rw [up_oc (by decide), hF2.c 11]; exact g2
  · exact hN2.go (up_oc (by decide)) (up_oc (by decide)) (up_oc (by decide)) (up_oc (by decide))
theorem c_append (θ : Site) (S : St) (L n : Nat) (x : Nat → Nat) (v : Int64) (hx : TxR S L x) (hn : n ≤ 8) (hL : L + n ≤ 300) : Ctv yX7_append cX7_append 5 none 0 θ shX [.ref (sA θ 1), .long v, .int (nI n)] S (fun S' => Fr S S' [1, 2] ∧ TxR S' (L + n) (txU L x v n)) := by
  obtain ⟨hx1, hx2, hx3, hx4⟩ := hx
  refine Ctv.mk (own := RX7) 1 [some (.ref (sA θ 1)), some (.long v), none, some (.int (nI n)), none] (fun K hC => ?_)
  have fin : ∀ l4 S1, Fr S S1 [1, 2] → S1.1 1 1 = nI (L + n) → (∀ j, j < L + n → S1.1 2 j = sb (txU L x v n j)) → K 54 [some (.ref (sA θ 1)), some (.long v), none, some (.int (nI n)), l4] [] S1 := by
    intro l4 S1 hF1 g1 g2
    refine q_vret hC dX7_append_54 ?_
    refine ⟨hF1, hL, fun i => ?_, g1, g2⟩
    unfold txU
    split
    · exact Nat.mod_lt _ (by omega)
    · exact hx2 i
  have loop : ∀ k S1, k ≤ n → Fr S S1 [1, 2] → S1.1 1 1 = nI (L + (n - k)) → (∀ j, j < L + (n - k) → S1.1 2 j = sb (txU L x v n j)) → K 5 [some (.ref (sA θ 1)), some (.long v), none, some (.int (nI n)), some (.int (nI k - nI 1))] [] S1 := by
    intro k
    induction k with
    | zero =>
      intro S1 hk hF1 g1 g2
      refine q_iload hC dX7_append_5 ?_
      refine q_if_lt hC 54 dX7_append_7 (by decide) (fun hb => ?_) (fun hb => ?_)
      · exact fin _ S1 hF1 g1 g2
      · exact absurd (by decide) hb
    | succ k ih =>
      intro S1 hk hF1 g1 g2
      have e0 : nI (k + 1) - nI 1 = nI k := by rw [pk_sub (by omega)]; rfl
      rw [e0]
      refine q_iload hC dX7_append_5 ?_
      refine q_if_lt hC 54 dX7_append_7 (by decide) (fun hb => ?_) (fun hb => ?_)
      · exact absurd hb (nI_pos (by omega))
      · refine q_aload_n hC dX7_append_10 ?_
        refine q_getI hC (by first | assumption | rfl) flX7_15 dX7_append_11 ?_
        rw [g1]
        refine q_sipush (v := nI 300) hC dX7_append_14 (by decide) ?_
        refine q_icmp_ge hC 54 dX7_append_17 (by decide) (fun hb2 => ?_) (fun hb2 => ?_)
        · exact absurd ((nI_leI (by omega) (by omega)).mp hb2) (by omega)
        · refine q_aload_n hC dX7_append_20 ?_
          refine q_getR hC (by first | assumption | rfl) flX7_9 dX7_append_21 ?_
          refine q_aload_n hC dX7_append_24 ?_
          refine q_getI hC (by first | assumption | rfl) flX7_15 dX7_append_25 ?_
          rw [g1]
          refine q_lload_n hC dX7_append_28 ?_
          refine q_bipush (v := nI 8) hC dX7_append_29 (by decide) ?_
          refine q_iload hC dX7_append_31 ?_
          refine q_imul hC dX7_append_33 ?_
          rw [pk_mul]
          refine q_lshr hC dX7_append_34 ?_
          refine q_l2i hC dX7_append_35 ?_
          refine q_i2b hC dX7_append_36 ?_
          refine q_bastn hC (by first | assumption | rfl) (by first | assumption | omega) dX7_append_37 ?_
          rw [nar_b]
          have hbv : (v >>> ((nI (8 * k)).toInt64 &&& 63)).toInt32.toBitVec.toNat % 256 = bv v k := rfl
          rw [hbv]
          refine q_aload_n hC dX7_append_38 ?_
          refine q_dup hC dX7_append_39 rfl ?_
          refine q_getI hC (by first | assumption | rfl) flX7_15 dX7_append_40 ?_
          rw [up_oc (by decide), g1]
          refine q_iconst (v := nI 1) hC dX7_append_43 (by decide) ?_
          refine q_iadd hC dX7_append_44 ?_
          rw [nI_add]
          refine q_putI hC (by first | assumption | rfl) fpX7_15 dX7_append_45 ?_
          refine q_iinc_4 (v := nI k - nI 1) hC dX7_append_48 ?_ ?_
          · rw [Int32.sub_eq_add_neg]; rfl
          refine q_goto hC 5 dX7_append_51 (by decide) ?_
          refine ih _ (by omega) (hF1.trans (Fr.trans (Fr.u1.mono (by decide)) (Fr.u1.mono (by decide)))) ?_ (fun j hj => ?_)
          · rw [up_s]; congr 1; omega
          · rw [up_oc (by decide)]
            by_cases e : j = L + (n - (k + 1))
            · subst e
              rw [up_s]
              congr 1
              unfold txU
              rw [if_pos (by omega)]
              congr 1; omega
            · rw [up_of e]; exact g2 j (by omega)
  refine q_iload_n hC dX7_append_0 ?_
  refine q_iconst (v := nI 1) hC dX7_append_1 (by decide) ?_
  refine q_isub hC dX7_append_2 ?_
  refine q_istore_4 hC dX7_append_3 ?_
  refine loop n S (Nat.le_refl _) Fr.rfl' (by rw [hx3]; congr 1; omega) (fun j hj => ?_)
  rw [hx4 j (by omega)]
  congr 1
  unfold txU
  rw [if_neg (by omega)]
theorem c_bitCount (θ : Site) (sx : List Shp) (S : St) (m : Nat) (hm : m < 256) : Cti yJ6_bitCount_0f7a4 cJ6_bitCount_0f7a4 1 (some .int) 0 θ sx [.int (nI m)] S (fun r S' => r = nI (popc m) ∧ S' = S) := by
  refine Cti.mk (own := RJ6) 0 [some (.int (nI m))] (fun K hC => ?_)
  refine q_iload_n hC dJ6_bitCount_0f7a4_0 ?_
  refine q_iload_n hC dJ6_bitCount_0f7a4_1 ?_
  refine q_iconst (v := nI 1) hC dJ6_bitCount_0f7a4_2 (by decide) ?_
  refine q_iushr hC dJ6_bitCount_0f7a4_3 ?_
  refine q_ldcw hC kcJ6_265 dJ6_bitCount_0f7a4_4 ?_
  refine q_iand hC dJ6_bitCount_0f7a4_7 ?_
  refine q_isub hC dJ6_bitCount_0f7a4_8 ?_
  refine q_istore_0 hC dJ6_bitCount_0f7a4_9 ?_
  refine q_iload_n hC dJ6_bitCount_0f7a4_10 ?_
  refine q_ldcw hC kcJ6_266 dJ6_bitCount_0f7a4_11 ?_
  refine q_iand hC dJ6_bitCount_0f7a4_14 ?_
  refine q_iload_n hC dJ6_bitCount_0f7a4_15 ?_
  refine q_iconst (v := nI 2) hC dJ6_bitCount_0f7a4_16 (by decide) ?_
  refine q_iushr hC dJ6_bitCount_0f7a4_17 ?_
  refine q_ldcw hC kcJ6_266 dJ6_bitCount_0f7a4_18 ?_
  refine q_iand hC dJ6_bitCount_0f7a4_21 ?_
  refine q_iadd hC dJ6_bitCount_0f7a4_22 ?_
  refine q_istore_0 hC dJ6_bitCount_0f7a4_23 ?_
  refine q_iload_n hC dJ6_bitCount_0f7a4_24 ?_
  refine q_iload_n hC dJ6_bitCount_0f7a4_25 ?_
  refine q_iconst (v := nI 4) hC dJ6_bitCount_0f7a4_26 (by decide) ?_
  refine q_iushr hC dJ6_bitCount_0f7a4_27 ?_
  refine q_iadd hC dJ6_bitCount_0f7a4_28 ?_
  refine q_ldcw hC kcJ6_267 dJ6_bitCount_0f7a4_29 ?_
  refine q_iand hC dJ6_bitCount_0f7a4_32 ?_
  refine q_istore_0 hC dJ6_bitCount_0f7a4_33 ?_
  refine q_iload_n hC dJ6_bitCount_0f7a4_34 ?_
  refine q_iload_n hC dJ6_bitCount_0f7a4_35 ?_
  refine q_bipush (v := nI 8) hC dJ6_bitCount_0f7a4_36 (by decide) ?_
  refine q_iushr hC dJ6_bitCount_0f7a4_38 ?_
  refine q_iadd hC dJ6_bitCount_0f7a4_39 ?_
  refine q_istore_0 hC dJ6_bitCount_0f7a4_40 ?_
  refine q_iload_n hC dJ6_bitCount_0f7a4_41 ?_
  refine q_iload_n hC dJ6_bitCount_0f7a4_42 ?_
  refine q_bipush (v := nI 16) hC dJ6_bitCount_0f7a4_43 (by decide) ?_
  refine q_iushr hC dJ6_bitCount_0f7a4_45 ?_
  refine q_iadd hC dJ6_bitCount_0f7a4_46 ?_
  refine q_istore_0 hC dJ6_bitCount_0f7a4_47 ?_
  refine q_iload_n hC dJ6_bitCount_0f7a4_48 ?_
  refine q_bipush (v := nI 63) hC dJ6_bitCount_0f7a4_49 (by decide) ?_
  refine q_iand hC dJ6_bitCount_0f7a4_51 ?_
  refine q_iret hC dJ6_bitCount_0f7a4_52 ?_
  refine ⟨?_, rfl⟩
  clear hC
  revert hm
  revert m
  decide +kernel
theorem c_isPiece (θ : Site) (S : St) (p : Int32) (T : Tn) (hok : TnOk T) (hT : TwR S 4 T) : Cti yX9_isPiece cX9_isPiece 2 (some .boolean) 0 θ shX [.ref (sA θ 0), .int p] S (fun r S' => r = nI (if (ixN p (tP T)).isSome = true then 1 else 0) ∧ S' = S) := by
  have h8 := hok.1
  refine Cti.mkz (own := RX9) 0 [some (.ref (sA θ 0)), some (.int p)] (fun K hC => ?_)
  refine q_iload_n hC dX9_isPiece_0 ?_
  refine q_if_lt hC 19 dX9_isPiece_1 (by decide) (fun hb => ?_) (fun hb => ?_)
  · refine q_iconst (v := nI 0) hC dX9_isPiece_19 (by decide) ?_
    refine q_iret hC dX9_isPiece_20 ?_
    rw [ixN_lt (by omega) (Or.inl hb)]
    exact ⟨⟨rfl, rfl⟩, by decide⟩
  · refine q_iload_n hC dX9_isPiece_4 ?_
    refine q_aload_n hC dX9_isPiece_5 ?_
    refine q_getR hC (by first | assumption | rfl) flX9_19 dX9_isPiece_6 ?_
    refine q_getI hC (by first | assumption | rfl) flX9_229 dX9_isPiece_9 ?_
    rw [hT.1]
    refine q_icmp_ge hC 19 dX9_isPiece_12 (by decide) (fun hb2 => ?_) (fun hb2 => ?_)
    · refine q_iconst (v := nI 0) hC dX9_isPiece_19 (by decide) ?_
      refine q_iret hC dX9_isPiece_20 ?_
      rw [ixN_lt (by omega) (Or.inr hb2)]
      exact ⟨⟨rfl, rfl⟩, by decide⟩
    · have h9 : (ixN p (tP T)).isSome = true := by
        cases hi : ixN p (tP T) with
        | none => exact absurd (ixN_none (by omega) hi) (fun z => z.elim hb hb2)
        | some j => rfl
      refine q_iconst (v := nI 1) hC dX9_isPiece_15 (by decide) ?_
      refine q_goto hC 20 dX9_isPiece_16 (by decide) ?_
      refine q_iret hC dX9_isPiece_20 ?_
      rw [if_pos h9]
      exact ⟨⟨rfl, rfl⟩, by decide⟩
theorem c_isFamily (θ : Site) (S : St) (p : Int32) (T : Tn) (hok : TnOk T) (hT : TwR S 4 T) : Cti yX9_isFamily cX9_isFamily 2 (some .boolean) 0 θ shX [.ref (sA θ 0), .int p] S (fun r S' => r = nI (if (ixN p (tF T)).isSome = true then 1 else 0) ∧ S' = S) := by
  have h8 := hok.2.1
  refine Cti.mkz (own := RX9) 0 [some (.ref (sA θ 0)), some (.int p)] (fun K hC => ?_)
  refine q_iload_n hC dX9_isFamily_0 ?_
  refine q_if_lt hC 19 dX9_isFamily_1 (by decide) (fun hb => ?_) (fun hb => ?_)
  · refine q_iconst (v := nI 0) hC dX9_isFamily_19 (by decide) ?_
    refine q_iret hC dX9_isFamily_20 ?_
    rw [ixN_lt (by omega) (Or.inl hb)]
    exact ⟨⟨rfl, rfl⟩, by decide⟩
  · refine q_iload_n hC dX9_isFamily_4 ?_
    refine q_aload_n hC dX9_isFamily_5 ?_
    refine q_getR hC (by first | assumption | rfl) flX9_19 dX9_isFamily_6 ?_
    refine q_getI hC (by first | assumption | rfl) flX9_188 dX9_isFamily_9 ?_
    rw [hT.2.1]
    refine q_icmp_ge hC 19 dX9_isFamily_12 (by decide) (fun hb2 => ?_) (fun hb2 => ?_)
    · refine q_iconst (v := nI 0) hC dX9_isFamily_19 (by decide) ?_
      refine q_iret hC dX9_isFamily_20 ?_
      rw [ixN_lt (by omega) (Or.inr hb2)]
      exact ⟨⟨rfl, rfl⟩, by decide⟩
    · have h9 : (ixN p (tF T)).isSome = true := by
        cases hi : ixN p (tF T) with
        | none => exact absurd (ixN_none (by omega) hi) (fun z => z.elim hb hb2)
        | some j => rfl
      refine q_iconst (v := nI 1) hC dX9_isFamily_15 (by decide) ?_
      refine q_goto hC 20 dX9_isFamily_16 (by decide) ?_
      refine q_iret hC dX9_isFamily_20 ?_
      rw [if_pos h9]
      exact ⟨⟨rfl, rfl⟩, by decide⟩
theorem c_orNone (θ : Site) (S : St) (n : Nat) (hn : n < 2 ^ 31) : Cti yX9_orNone cX9_orNone 1 (some .int) 0 θ shX [.int (nI n)] S (fun r S' => r = (if n < 100000 then nI n else -9) ∧ S' = S) := by
  refine Cti.mk (own := RX9) 0 [some (.int (nI n))] (fun K hC => ?_)
  refine q_iload_n hC dX9_orNone_0 ?_
  refine q_ldc hC kcX9_196 dX9_orNone_1 ?_
  refine q_icmp_lt hC 11 dX9_orNone_3 (by decide) (fun hb => ?_) (fun hb => ?_)
  · have h1 : n < 100000 := (nI_ltI hn (by omega)).mp hb
    refine q_iload_n hC dX9_orNone_11 ?_
    refine q_iret hC dX9_orNone_12 ?_
    exact ⟨by rw [if_pos h1], rfl⟩
  · have h1 : ¬ n < 100000 := fun z => hb (nI_lt z (by omega))
    refine q_bipush (v := (-9)) hC dX9_orNone_6 (by decide) ?_
    refine q_goto hC 12 dX9_orNone_8 (by decide) ?_
    refine q_iret hC dX9_orNone_12 ?_
    exact ⟨by rw [if_neg h1], rfl⟩
theorem c_wayNow (θ : Site) (S : St) (f : Nat) (T : Tn) (N : Nw) (hok : TnOk T) (hT : TwR S 4 T) (hN : NwR S 18 N) (hKn : KnR S T) (hf : f < tF T) : Cti yX9_wayNow cX9_wayNow 2 (some .int) 3 θ shX [.ref (sA θ 0), .int (nI f)] S (fun r S' => r = nI (yd T f (owm N f)) ∧ Fr S S' [37, 38] ∧ KnR S' T) := by
  have h4 := hok.2.1
  refine Cti.mk (own := RX9) 0 [some (.ref (sA θ 0)), some (.int (nI f))] (fun K hC => ?_)
  refine q_aload_n hC dX9_wayNow_0 ?_
  refine q_getR hC (by first | assumption | rfl) flX9_58 dX9_wayNow_1 ?_
  refine q_iload_n hC dX9_wayNow_4 ?_
  refine q_aload_n hC dX9_wayNow_5 ?_
  refine q_getR hC (by first | assumption | rfl) flX9_29 dX9_wayNow_6 ?_
  refine q_iload_n hC dX9_wayNow_9 ?_
  refine q_calliV1 hC (by first | assumption | rfl) cvX9_153 dX9_wayNow_10 (c_ownedBy θ _ 18 f N nowAt18 hN (by omega)) (by decide) (fun r S1 hr => ?_)
  obtain ⟨rfl, rfl⟩ := hr
  refine q_calliV2 hC (by first | assumption | rfl) cvX9_185 dX9_wayNow_13 (c_yards θ _ f _ T hok hT hKn hf (owm_lt N f)) (by decide) (fun r1 S1 hr1 => ?_)
  refine q_iret hC dX9_wayNow_16 ?_
  exact hr1
theorem c_chosen (θ : Site) (S : St) (p : Int32) (n : Nat) (s : S3) (hc : ChR S s) (hs : s.1 ≤ 100000) (hp : p = -1 ∨ ∃ j, j < 8 ∧ p = nI j) : Cti yX9_chosen cX9_chosen 2 (some .int) 0 θ shX [.ref (sA θ 0), .int p] S (fun r S' => r = (if s.1 < 100000 then (if p < 0 then nI s.1 else s.2.1 p.toNatClampNeg) else -9) ∧ S' = S) := by
  refine Cti.mk (own := RX9) 0 [some (.ref (sA θ 0)), some (.int p)] (fun K hC => ?_)
  refine q_aload_n hC dX9_chosen_0 ?_
  refine q_getR hC (by first | assumption | rfl) flX9_67 dX9_chosen_1 ?_
  refine q_getI hC (by first | assumption | rfl) flX9_271 dX9_chosen_4 ?_
  rw [hc.1]
  refine q_ldc hC kcX9_196 dX9_chosen_7 ?_
  refine q_icmp_lt hC 15 dX9_chosen_9 (by decide) (fun hb => ?_) (fun hb => ?_)
  · have h1 : s.1 < 100000 := (nI_ltI (by omega) (by omega)).mp hb
    refine q_iload_n hC dX9_chosen_15 ?_
    refine q_if_ge hC 29 dX9_chosen_16 (by decide) (fun hb2 => ?_) (fun hb2 => ?_)
    · rcases hp with rfl | ⟨j, hj, rfl⟩
      · exact absurd hb2 (by decide)
      · refine q_aload_n hC dX9_chosen_29 ?_
        refine q_getR hC (by first | assumption | rfl) flX9_67 dX9_chosen_30 ?_
        refine q_getR hC (by first | assumption | rfl) flX9_274 dX9_chosen_33 ?_
        refine q_iload_n hC dX9_chosen_36 ?_
        refine q_ialdn hC (by first | assumption | rfl) (by first | assumption | omega) dX9_chosen_37 ?_
        rw [hc.2.1 j hj]
        refine q_iret hC dX9_chosen_38 ?_
        refine ⟨?_, rfl⟩
        rw [if_pos h1, if_neg (nI_pos (by omega)), nI_clamp (by omega)]
    · rcases hp with rfl | ⟨j, hj, rfl⟩
      · refine q_aload_n hC dX9_chosen_19 ?_
        refine q_getR hC (by first | assumption | rfl) flX9_67 dX9_chosen_20 ?_
        refine q_getI hC (by first | assumption | rfl) flX9_271 dX9_chosen_23 ?_
        rw [hc.1]
        refine q_goto hC 38 dX9_chosen_26 (by decide) ?_
        refine q_iret hC dX9_chosen_38 ?_
        exact ⟨by rw [if_pos h1]; rfl, rfl⟩
      · exact absurd (nI_pos' (by omega)) hb2
  · have h1 : ¬ s.1 < 100000 := fun z => hb (nI_lt z (by omega))
    refine q_bipush (v := (-9)) hC dX9_chosen_12 (by decide) ?_
    refine q_iret hC dX9_chosen_14 ?_
    exact ⟨by rw [if_neg h1], rfl⟩
