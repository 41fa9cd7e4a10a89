/-- Arrays.fill(int[], v) -/
theorem c_fill (θ : Site) (S : St) (q n : Nat) (v : Int32) (hn : n ≤ 2048) (hq : shX[q]? = some (.inl (0, n))) : Ctv yJ7_fill_53178 cJ7_fill_53178 4 none 0 θ shX [.ref (sA θ q), .int v] S (fun S' => S' = upA S q (fun j => if j < n then v else S.1 q j)) := by
  refine Ctv.mk (own := RJ7) 2 [some (.ref (sA θ q)), some (.int v), none, none] (fun K hC => ?_)
  have loop : ∀ m i, i + m = n → K 5 [some (.ref (sA θ q)), some (.int v), some (.int (nI i)), some (.int (nI n))] [] (upA S q (fun j => if j < i then v else S.1 q j)) := by
    intro m
    induction m with
    | zero =>
      intro i hi
      have e : i = n := by omega
      subst e
      refine q_iload_n hC dJ7_fill_53178_5 ?_
      refine q_iload_n hC dJ7_fill_53178_6 ?_
      refine q_icmp_ge hC 20 dJ7_fill_53178_7 (by decide) (fun hb => ?_) (fun hb => ?_)
      · refine q_vret hC dJ7_fill_53178_20 ?_
        rfl
      · exact absurd (nI_le (Nat.le_refl i) (by omega)) hb
    | succ m ih =>
      intro i hi
      refine q_iload_n hC dJ7_fill_53178_5 ?_
      refine q_iload_n hC dJ7_fill_53178_6 ?_
      refine q_icmp_ge hC 20 dJ7_fill_53178_7 (by decide) (fun hb => ?_) (fun hb => ?_)
      · exact absurd ((nI_leI (by omega) (by omega)).mp hb) (by omega)
      · refine q_aload_n hC dJ7_fill_53178_10 ?_
        refine q_iload_n hC dJ7_fill_53178_11 ?_
        refine q_iload_n hC dJ7_fill_53178_12 ?_
        refine q_iastn hC (by first | assumption | rfl) (by first | assumption | omega) dJ7_fill_53178_13 ?_
        refine q_St hC (S2 := upA S q (fun j => if j < i + 1 then v else S.1 q j)) ?_ ?_
        · refine St_ext (fun a b => ?_) rfl
          by_cases ha : a = q
          · subst ha
            by_cases hb2 : b = i
            · subst hb2
              rw [up_s, upA_s, if_pos (by omega)]
            · rw [up_of hb2, upA_s, upA_s]
              by_cases h3 : b < i
              · rw [if_pos h3, if_pos (by omega)]
              · rw [if_neg h3, if_neg (by omega)]
          · rw [up_oc ha, upA_o ha, upA_o ha]
        refine q_inc1_2 hC dJ7_fill_53178_14 ?_
        refine q_goto hC 5 dJ7_fill_53178_17 (by decide) ?_
        exact ih (i + 1) (by omega)
  refine q_iconst (v := nI 0) hC dJ7_fill_53178_0 (by decide) ?_
  refine q_istore_2 hC dJ7_fill_53178_1 ?_
  refine q_aload_n hC dJ7_fill_53178_2 ?_
  refine q_alenn hC (by first | assumption | rfl) (by decide) dJ7_fill_53178_3 ?_
  refine q_istore_3 hC dJ7_fill_53178_4 ?_
  refine q_St hC (S2 := upA S q (fun j => if j < 0 then v else S.1 q j)) ?_ (loop n 0 (by omega))
  refine St_ext (fun a b => ?_) rfl
  by_cases ha : a = q
  · subst ha; rw [upA_s, if_neg (by omega)]
  · rw [upA_o ha]
theorem c_unsee (θ : Site) (S : St) (b : Nat) (hk : NowAt b) : Ctv yX3_unsee cX3_unsee 1 none 1 θ shX [.ref (sA θ b)] S (fun S' => Fr S S' [b, b + 3] ∧ S'.1 b 2 = S.1 b 2 ∧ S'.1 b 3 = nI 0 ∧ ∀ f, f < 4 → S'.1 (b + 3) f = nI 0) := by
  obtain ⟨h0, h1, h2, h3⟩ := hk
  refine Ctv.mk (own := RX3) 0 [some (.ref (sA θ b))] (fun K hC => ?_)
  refine q_aload_n hC dX3_unsee_0 ?_
  refine q_iconst (v := nI 0) hC dX3_unsee_1 (by decide) ?_
  refine q_putI hC (by first | assumption | rfl) fpX3_22 dX3_unsee_2 ?_
  refine q_aload_n hC dX3_unsee_5 ?_
  refine q_getR hC (by first | assumption | rfl) flX3_25 dX3_unsee_6 ?_
  refine q_iconst (v := nI 0) hC dX3_unsee_9 (by decide) ?_
  refine q_callvS2 hC csX3_28 dX3_unsee_10 (c_fill θ _ (b + 3) 4 _ (by decide) h3) (by decide) (fun S1 hr => ?_)
  refine q_vret hC dX3_unsee_13 ?_
  subst hr
  refine ⟨⟨fun a ha => ?_, rfl⟩, ?_, ?_, fun f hf => ?_⟩
  · simp only [List.mem_cons, List.not_mem_nil, or_false, not_or] at ha
    rw [upA_o ha.2, up_oc ha.1]
  · rw [upA_o (by omega), up_of (by omega)]
  · rw [upA_o (by omega), up_s]
  · rw [upA_s, if_pos hf]
/-- Now.empty(): nobody has paved anything, nothing else either -/
theorem c_Now_empty (θ : Site) (S : St) (b : Nat) (hk : NowAt b) : Ctv yX3_empty cX3_empty 1 none 2 θ shX [.ref (sA θ b)] S (fun S' => Fr S S' [b, b + 1, b + 2, b + 3] ∧ NwR S' b (fun _ => 4, fun _ => 0, 0, fun _ => 0)) := by
  have hk' := hk
  obtain ⟨h0, h1, h2, h3⟩ := hk
  refine Ctv.mk (own := RX3) 0 [some (.ref (sA θ b))] (fun K hC => ?_)
  refine q_aload_n hC dX3_empty_0 ?_
  refine q_getR hC (by first | assumption | rfl) flX3_9 dX3_empty_1 ?_
  refine q_bipush (v := (-9)) hC dX3_empty_4 (by decide) ?_
  refine q_callvS2 hC csX3_28 dX3_empty_6 (c_fill θ _ (b + 1) 8 _ (by decide) h1) (by decide) (fun S1 hr => ?_)
  subst hr
  refine q_aload_n hC dX3_empty_9 ?_
  refine q_getR hC (by first | assumption | rfl) flX3_15 dX3_empty_10 ?_
  refine q_iconst (v := nI 0) hC dX3_empty_13 (by decide) ?_
  refine q_callvS2 hC csX3_28 dX3_empty_14 (c_fill θ _ (b + 2) 8 _ (by decide) h2) (by decide) (fun S1 hr => ?_)
  subst hr
  refine q_aload_n hC dX3_empty_17 ?_
  refine q_iconst (v := nI 0) hC dX3_empty_18 (by decide) ?_
  refine q_putI hC (by first | assumption | rfl) fpX3_18 dX3_empty_19 ?_
  refine q_aload_n hC dX3_empty_22 ?_
  refine q_callvV0 hC (by first | assumption | rfl) cvX3_34 dX3_empty_23 (c_unsee θ _ b hk') (by decide) (fun S1 hr => ?_)
  refine q_vret hC dX3_empty_26 ?_
  obtain ⟨⟨g1, g2⟩, g3, g4, g5⟩ := hr
  refine ⟨⟨fun a ha => ?_, g2⟩, fun p hp => ?_, fun p hp => ?_, ?_, g4, g5⟩
  · simp only [List.mem_cons, List.not_mem_nil, or_false, not_or] at ha
    rw [g1 a (by simp only [List.mem_cons, List.not_mem_nil, or_false, not_or]; omega), up_oc ha.1, upA_o ha.2.2.1, upA_o ha.2.1]
  · rw [g1 (b + 1) (by simp), up_oc (by omega), upA_o (by omega), upA_s, if_pos hp]; rfl
  · rw [g1 (b + 2) (by simp), up_oc (by omega), upA_s, if_pos hp]; rfl
  · rw [g3, up_s]; decide
/-- Now.become(other) -/
theorem c_Now_become (θ : Site) (S : St) (b o : Nat) (hk : NowAt b) (hko : NowAt o) (hne : b + 4 ≤ o ∨ o + 4 ≤ b) (N : Nw) (hN : NwR S o N) : Ctv yX3_become cX3_become 2 none 1 θ shX [.ref (sA θ b), .ref (sA θ o)] S (fun S' => Fr S S' [b, b + 1, b + 2, b + 3] ∧ NwR S' b N) := by
  obtain ⟨h0, h1, h2, h3⟩ := hk
  obtain ⟨o0, o1, o2, o3⟩ := hko
  refine Ctv.mk (own := RX3) 0 [some (.ref (sA θ b)), some (.ref (sA θ o))] (fun K hC => ?_)
  refine q_aload_n hC dX3_become_0 ?_
  refine q_getR hC (by first | assumption | rfl) flX3_9 dX3_become_1 ?_
  refine q_iconst (v := nI 0) hC dX3_become_4 (by decide) ?_
  refine q_aload_n hC dX3_become_5 ?_
  refine q_getR hC (by first | assumption | rfl) flX3_9 dX3_become_6 ?_
  refine q_iconst (v := nI 0) hC dX3_become_9 (by decide) ?_
  refine q_bipush (v := nI 8) hC dX3_become_10 (by decide) ?_
  refine q_copy hC (by first | assumption | rfl) (by first | assumption | rfl) mlX3_37 (by decide) (by decide) (by decide) (by decide) (by decide) (by decide) dX3_become_12 ?_
  refine q_aload_n hC dX3_become_15 ?_
  refine q_getR hC (by first | assumption | rfl) flX3_15 dX3_become_16 ?_
  refine q_iconst (v := nI 0) hC dX3_become_19 (by decide) ?_
  refine q_aload_n hC dX3_become_20 ?_
  refine q_getR hC (by first | assumption | rfl) flX3_15 dX3_become_21 ?_
  refine q_iconst (v := nI 0) hC dX3_become_24 (by decide) ?_
  refine q_bipush (v := nI 8) hC dX3_become_25 (by decide) ?_
  refine q_copy hC (by first | assumption | rfl) (by first | assumption | rfl) mlX3_37 (by decide) (by decide) (by decide) (by decide) (by decide) (by decide) dX3_become_27 ?_
  refine q_aload_n hC dX3_become_30 ?_
  refine q_aload_n hC dX3_become_31 ?_
  refine q_getI hC (by first | assumption | rfl) flX3_18 dX3_become_32 ?_
  refine q_putI hC (by first | assumption | rfl) fpX3_18 dX3_become_35 ?_
  refine q_aload_n hC dX3_become_38 ?_
  refine q_aload_n hC dX3_become_39 ?_
  refine q_getI hC (by first | assumption | rfl) flX3_22 dX3_become_40 ?_
  refine q_putI hC (by first | assumption | rfl) fpX3_22 dX3_become_43 ?_
  refine q_aload_n hC dX3_become_46 ?_
  refine q_getR hC (by first | assumption | rfl) flX3_25 dX3_become_47 ?_
  refine q_iconst (v := nI 0) hC dX3_become_50 (by decide) ?_
  refine q_aload_n hC dX3_become_51 ?_
  refine q_getR hC (by first | assumption | rfl) flX3_25 dX3_become_52 ?_
  refine q_iconst (v := nI 0) hC dX3_become_55 (by decide) ?_
  refine q_iconst (v := nI 4) hC dX3_become_56 (by decide) ?_
  refine q_copy hC (by first | assumption | rfl) (by first | assumption | rfl) mlX3_37 (by decide) (by decide) (by decide) (by decide) (by decide) (by decide) dX3_become_57 ?_
  refine q_vret hC dX3_become_60 ?_
  obtain ⟨n1, n2, n3, n4, n5⟩ := hN
  refine ⟨⟨fun a ha => ?_, rfl⟩, fun p hp => ?_, fun p hp => ?_, ?_, ?_, fun f hf => ?_⟩
  · simp only [List.mem_cons, List.not_mem_nil, or_false, not_or] at ha
    rw [upA_o ha.2.2.2, up_oc ha.1, up_oc ha.1, upA_o ha.2.2.1, upA_o ha.2.1]
  · rw [upA_o (by omega), up_oc (by omega), up_oc (by omega), upA_o (by omega), upA_s]
    rw [pk_cpy_in (by show (nI 0).toNatClampNeg ≤ p; rw [nI_clamp (by omega)]; omega) (by rw [nI_clamp (by omega), nI_clamp (by omega)]; omega), nI_clamp (by omega)]
    rw [show 0 + (p - 0) = p by omega]; exact n1 p hp
  · rw [upA_o (by omega), up_oc (by omega), up_oc (by omega), upA_s]
    rw [pk_cpy_in (by show (nI 0).toNatClampNeg ≤ p; rw [nI_clamp (by omega)]; omega) (by rw [nI_clamp (by omega), nI_clamp (by omega)]; omega), nI_clamp (by omega)]
    rw [show 0 + (p - 0) = p by omega, upA_o (by omega)]; exact n2 p hp
  · rw [upA_o (by omega), up_of (by omega), up_s, upA_o (by omega), upA_o (by omega)]; exact n3
  · rw [upA_o (by omega), up_s, up_oc (by omega), upA_o (by omega), upA_o (by omega)]; exact n4
  · rw [upA_s, pk_cpy_in (by show (nI 0).toNatClampNeg ≤ f; rw [nI_clamp (by omega)]; omega) (by rw [nI_clamp (by omega), nI_clamp (by omega)]; omega), nI_clamp (by omega)]
    rw [show 0 + (f - 0) = f by omega, up_oc (by omega), up_oc (by omega), upA_o (by omega), upA_o (by omega)]; exact n5 f hf
/-- Now.makeStone(p) -/
theorem c_makeStone (θ : Site) (S : St) (b p m : Nat) (hk : NowAt b) (hp : p < 8) (hm : S.1 b 2 = nI m) : Ctv yX3_makeStone cX3_makeStone 2 none 0 θ shX [.ref (sA θ b), .int (nI p)] S (fun S' => S' = up (up S (b + 1) p (-9)) b 2 (nI (m ||| 2 ^ p))) := by
  obtain ⟨h0, h1, h2, h3⟩ := hk
  refine Ctv.mk (own := RX3) 0 [some (.ref (sA θ b)), some (.int (nI p))] (fun K hC => ?_)
  refine q_aload_n hC dX3_makeStone_0 ?_
  refine q_getR hC (by first | assumption | rfl) flX3_9 dX3_makeStone_1 ?_
  refine q_iload_n hC dX3_makeStone_4 ?_
  refine q_bipush (v := (-9)) hC dX3_makeStone_5 (by decide) ?_
  refine q_iastn hC (by first | assumption | rfl) (by first | assumption | omega) dX3_makeStone_7 ?_
  refine q_aload_n hC dX3_makeStone_8 ?_
  refine q_dup hC dX3_makeStone_9 rfl ?_
  refine q_getI hC (by first | assumption | rfl) flX3_18 dX3_makeStone_10 ?_
  refine q_iconst (v := nI 1) hC dX3_makeStone_13 (by decide) ?_
  refine q_iload_n hC dX3_makeStone_14 ?_
  refine q_ishl hC dX3_makeStone_15 ?_
  rw [up_oc (by omega), hm, sh1 (by omega)]
  refine q_ior hC dX3_makeStone_16 ?_
  rw [or_n]
  refine q_putI hC (by first | assumption | rfl) fpX3_18 dX3_makeStone_17 ?_
  refine q_vret hC dX3_makeStone_20 ?_
  rfl
/-- Now.makeNoStone(p) -/
theorem c_makeNoStone (θ : Site) (S : St) (b p m : Nat) (hk : NowAt b) (hp : p < 8) (hm8 : m < 256) (hm : S.1 b 2 = nI m) : Ctv yX3_makeNoStone cX3_makeNoStone 2 none 0 θ shX [.ref (sA θ b), .int (nI p)] S (fun S' => S' = up S b 2 (nI (m - m / 2 ^ p % 2 * 2 ^ p))) := by
  obtain ⟨h0, h1, h2, h3⟩ := hk
  refine Ctv.mk (own := RX3) 0 [some (.ref (sA θ b)), some (.int (nI p))] (fun K hC => ?_)
  refine q_aload_n hC dX3_makeNoStone_0 ?_
  refine q_dup hC dX3_makeNoStone_1 rfl ?_
  refine q_getI hC (by first | assumption | rfl) flX3_18 dX3_makeNoStone_2 ?_
  refine q_iconst (v := nI 1) hC dX3_makeNoStone_5 (by decide) ?_
  refine q_iload_n hC dX3_makeNoStone_6 ?_
  refine q_ishl hC dX3_makeNoStone_7 ?_
  rw [hm, sh1 (by omega)]
  refine q_iconst (v := (-1)) hC dX3_makeNoStone_8 (by decide) ?_
  refine q_ixor hC dX3_makeNoStone_9 ?_
  refine q_iand hC dX3_makeNoStone_10 ?_
  rw [andnot_n hm8 hp]
  refine q_putI hC (by first | assumption | rfl) fpX3_18 dX3_makeNoStone_11 ?_
  refine q_vret hC dX3_makeNoStone_14 ?_
  rfl
/-- Now.ownedBy(f) -/
theorem c_ownedBy (θ : Site) (S : St) (b f : Nat) (N : Nw) (hk : NowAt b) (hN : NwR S b N) (hf : f < 4) : Cti yX3_ownedBy cX3_ownedBy 2 (some .int) 1 θ shX [.ref (sA θ b), .int (nI f)] S (fun r S' => r = nI (owm N f) ∧ S' = S) := by
  obtain ⟨h0, h1, h2, h3⟩ := hk
  refine Cti.mk (own := RX3) 0 [some (.ref (sA θ b)), some (.int (nI f))] (fun K hC => ?_)
  refine q_aload_n hC dX3_ownedBy_0 ?_
  refine q_getR hC (by first | assumption | rfl) flX3_9 dX3_ownedBy_1 ?_
  refine q_iload_n hC dX3_ownedBy_4 ?_
  refine q_calliS2 hC csX3_43 dX3_ownedBy_5 (c_ownedIn θ _ (b + 1) _ h1) (by decide) (fun r S1 hr => ?_)
  refine q_iret hC dX3_ownedBy_8 ?_
  refine ⟨?_, hr.2⟩
  rw [hr.1]
  congr 1
  refine msk_congr (fun p hp => ?_)
  rw [hN.1 p hp]
  exact decide_eq_decide.mpr (clO_eq hf)
/-- how many of the first n have g -/
theorem c_ownedPieces (θ : Site) (S : St) (b : Nat) (N : Nw) (hk : NowAt b) (hN : NwR S b N) : Cti yX3_ownedPieces cX3_ownedPieces 3 (some .int) 0 θ shX [.ref (sA θ b)] S (fun r S' => r = nI (cnt (fun p => decide (nO N p < 4)) 8) ∧ S' = S) := by
  obtain ⟨h0, h1, h2, h3⟩ := hk
  refine Cti.mk (own := RX3) 2 [some (.ref (sA θ b)), none, none] (fun K hC => ?_)
  have loop : ∀ n p, p + n = 8 → K 4 [some (.ref (sA θ b)), some (.int (nI (cnt (fun p => decide (nO N p < 4)) p))), some (.int (nI p))] [] S := by
    intro n
    induction n with
    | zero =>
      intro p hp
      have e : p = 8 := by omega
      subst e
      refine q_iload_n hC dX3_ownedPieces_4 ?_
      refine q_bipush (v := nI 8) hC dX3_ownedPieces_5 (by decide) ?_
      refine q_icmp_ge hC 35 dX3_ownedPieces_7 (by decide) (fun hb => ?_) (fun hb => ?_)
      · refine q_iload_n hC dX3_ownedPieces_35 ?_
        refine q_iret hC dX3_ownedPieces_36 ?_
        exact ⟨rfl, rfl⟩
      · exact absurd (by decide) hb
    | succ n ih =>
      intro p hp
      refine q_iload_n hC dX3_ownedPieces_4 ?_
      refine q_bipush (v := nI 8) hC dX3_ownedPieces_5 (by decide) ?_
      refine q_icmp_ge hC 35 dX3_ownedPieces_7 (by decide) (fun hb => ?_) (fun hb => ?_)
      · exact absurd ((nI_leI (by omega) (by omega)).mp hb) (by omega)
      · have hp8 : p < 8 := by omega
        refine q_iload_n hC dX3_ownedPieces_10 ?_
        refine q_aload_n hC dX3_ownedPieces_11 ?_
        refine q_getR hC (by first | assumption | rfl) flX3_9 dX3_ownedPieces_12 ?_
        refine q_iload_n hC dX3_ownedPieces_15 ?_
        refine q_ialdn hC (by first | assumption | rfl) (by first | assumption | omega) dX3_ownedPieces_16 ?_
        rw [hN.1 p hp8]
        refine q_bipush (v := (-9)) hC dX3_ownedPieces_17 (by decide) ?_
        refine q_icmp_ne hC 26 dX3_ownedPieces_19 (by decide) (fun hb => ?_) (fun hb => ?_)
        · have h4 : nO N p < 4 := by
            rcases Nat.lt_or_ge (nO N p) 4 with h | h
            · exact h
            · exact absurd (clO_none.mpr (by omega)) hb
          refine q_iconst (v := nI 1) hC dX3_ownedPieces_26 (by decide) ?_
          refine q_iadd hC dX3_ownedPieces_27 ?_
          rw [nI_add, show cnt (fun p => decide (nO N p < 4)) p + 1 = cnt (fun p => decide (nO N p < 4)) (p + 1) by simp [cnt, h4]]
          refine q_istore_1 hC dX3_ownedPieces_28 ?_
          refine q_inc1_2 hC dX3_ownedPieces_29 ?_
          refine q_goto hC 4 dX3_ownedPieces_32 (by decide) ?_
          exact ih (p + 1) (by omega)
        · have h4 : ¬ nO N p < 4 := clO_none.mp hb
          refine q_iconst (v := nI 0) hC dX3_ownedPieces_22 (by decide) ?_
          refine q_goto hC 27 dX3_ownedPieces_23 (by decide) ?_
          refine q_iadd hC dX3_ownedPieces_27 ?_
          rw [nI_add, show cnt (fun p => decide (nO N p < 4)) p + 0 = cnt (fun p => decide (nO N p < 4)) (p + 1) by simp [cnt, h4]]
          refine q_istore_1 hC dX3_ownedPieces_28 ?_
          refine q_inc1_2 hC dX3_ownedPieces_29 ?_
          refine q_goto hC 4 dX3_ownedPieces_32 (by decide) ?_
          exact ih (p + 1) (by omega)
  refine q_iconst (v := nI 0) hC dX3_ownedPieces_0 (by decide) ?_
  refine q_istore_1 hC dX3_ownedPieces_1 ?_
  refine q_iconst (v := nI 0) hC dX3_ownedPieces_2 (by decide) ?_
  refine q_istore_2 hC dX3_ownedPieces_3 ?_
  exact loop 8 0 rfl
