theorem c_Town_empty (θ : Site) (S : St) (b : Nat) (hk : TwAt b) : Ctv yX5_empty cX5_empty 1 none 0 θ shX [.ref (sA θ b)] S (fun S' => Fr S S' [b] ∧ S'.1 b 0 = nI 0 ∧ S'.1 b 4 = nI 0) := by
  obtain ⟨h0, h1, h2, h3, h4, h5, h6⟩ := hk
  refine Ctv.mk (own := RX5) 0 [some (.ref (sA θ b))] (fun K hC => ?_)
  refine q_aload_n hC dX5_empty_0 ?_
  refine q_iconst (v := nI 0) hC dX5_empty_1 (by decide) ?_
  refine q_putI hC (by first | assumption | rfl) fpX5_9 dX5_empty_2 ?_
  refine q_aload_n hC dX5_empty_5 ?_
  refine q_iconst (v := nI 0) hC dX5_empty_6 (by decide) ?_
  refine q_putI hC (by first | assumption | rfl) fpX5_25 dX5_empty_7 ?_
  refine q_vret hC dX5_empty_10 ?_
  refine ⟨Fr.trans Fr.u1 Fr.u1, ?_, up_s⟩
  rw [up_of (by omega), up_s]
/-- Town.become(other) -/
theorem c_Town_become (θ : Site) (S : St) (b o : Nat) (hk : TwAt b) (hko : TwAt o) (hne : b + 7 ≤ o ∨ o + 7 ≤ b) (T : Tn) (hT : TwR S o T) (hP8 : tP T ≤ 8) (hF4 : tF T ≤ 4) : Ctv yX5_become cX5_become 2 none 1 θ shX [.ref (sA θ b), .ref (sA θ o)] S (fun S' => Fr S S' [b, b + 1, b + 2, b + 3, b + 4, b + 5, b + 6] ∧ TwR S' b T) := by
  obtain ⟨h0, h1, h2, h3, h4, h5, h6⟩ := hk
  obtain ⟨o0, o1, o2, o3, o4, o5, o6⟩ := hko
  refine Ctv.mk (own := RX5) 0 [some (.ref (sA θ b)), some (.ref (sA θ o))] (fun K hC => ?_)
  refine q_aload_n hC dX5_become_0 ?_
  refine q_aload_n hC dX5_become_1 ?_
  refine q_getI hC (by first | assumption | rfl) flX5_9 dX5_become_2 ?_
  refine q_putI hC (by first | assumption | rfl) fpX5_9 dX5_become_5 ?_
  refine q_aload_n hC dX5_become_8 ?_
  refine q_getR hC (by first | assumption | rfl) flX5_15 dX5_become_9 ?_
  refine q_iconst (v := nI 0) hC dX5_become_12 (by decide) ?_
  refine q_aload_n hC dX5_become_13 ?_
  refine q_getR hC (by first | assumption | rfl) flX5_15 dX5_become_14 ?_
  refine q_iconst (v := nI 0) hC dX5_become_17 (by decide) ?_
  refine q_bipush (v := nI 8) hC dX5_become_18 (by decide) ?_
  refine q_copy hC (by first | assumption | rfl) (by first | assumption | rfl) mlX5_37 (by decide) (by decide) (by decide) (by decide) (by decide) (by decide) dX5_become_20 ?_
  refine q_aload_n hC dX5_become_23 ?_
  refine q_getR hC (by first | assumption | rfl) flX5_19 dX5_become_24 ?_
  refine q_iconst (v := nI 0) hC dX5_become_27 (by decide) ?_
  refine q_aload_n hC dX5_become_28 ?_
  refine q_getR hC (by first | assumption | rfl) flX5_19 dX5_become_29 ?_
  refine q_iconst (v := nI 0) hC dX5_become_32 (by decide) ?_
  refine q_bipush (v := nI 8) hC dX5_become_33 (by decide) ?_
  refine q_copy hC (by first | assumption | rfl) (by first | assumption | rfl) mlX5_37 (by decide) (by decide) (by decide) (by decide) (by decide) (by decide) dX5_become_35 ?_
  refine q_aload_n hC dX5_become_38 ?_
  refine q_getR hC (by first | assumption | rfl) flX5_22 dX5_become_39 ?_
  refine q_iconst (v := nI 0) hC dX5_become_42 (by decide) ?_
  refine q_aload_n hC dX5_become_43 ?_
  refine q_getR hC (by first | assumption | rfl) flX5_22 dX5_become_44 ?_
  refine q_iconst (v := nI 0) hC dX5_become_47 (by decide) ?_
  refine q_bipush (v := nI 8) hC dX5_become_48 (by decide) ?_
  refine q_copy hC (by first | assumption | rfl) (by first | assumption | rfl) mlX5_37 (by decide) (by decide) (by decide) (by decide) (by decide) (by decide) dX5_become_50 ?_
  refine q_aload_n hC dX5_become_53 ?_
  refine q_aload_n hC dX5_become_54 ?_
  refine q_getI hC (by first | assumption | rfl) flX5_25 dX5_become_55 ?_
  refine q_putI hC (by first | assumption | rfl) fpX5_25 dX5_become_58 ?_
  refine q_aload_n hC dX5_become_61 ?_
  refine q_getR hC (by first | assumption | rfl) flX5_28 dX5_become_62 ?_
  refine q_iconst (v := nI 0) hC dX5_become_65 (by decide) ?_
  refine q_aload_n hC dX5_become_66 ?_
  refine q_getR hC (by first | assumption | rfl) flX5_28 dX5_become_67 ?_
  refine q_iconst (v := nI 0) hC dX5_become_70 (by decide) ?_
  refine q_iconst (v := nI 4) hC dX5_become_71 (by decide) ?_
  refine q_copy hC (by first | assumption | rfl) (by first | assumption | rfl) mlX5_37 (by decide) (by decide) (by decide) (by decide) (by decide) (by decide) dX5_become_72 ?_
  refine q_aload_n hC dX5_become_75 ?_
  refine q_getR hC (by first | assumption | rfl) flX5_31 dX5_become_76 ?_
  refine q_iconst (v := nI 0) hC dX5_become_79 (by decide) ?_
  refine q_aload_n hC dX5_become_80 ?_
  refine q_getR hC (by first | assumption | rfl) flX5_31 dX5_become_81 ?_
  refine q_iconst (v := nI 0) hC dX5_become_84 (by decide) ?_
  refine q_iconst (v := nI 4) hC dX5_become_85 (by decide) ?_
  refine q_copy hC (by first | assumption | rfl) (by first | assumption | rfl) mlX5_37 (by decide) (by decide) (by decide) (by decide) (by decide) (by decide) dX5_become_86 ?_
  refine q_aload_n hC dX5_become_89 ?_
  refine q_getR hC (by first | assumption | rfl) flX5_34 dX5_become_90 ?_
  refine q_iconst (v := nI 0) hC dX5_become_93 (by decide) ?_
  refine q_aload_n hC dX5_become_94 ?_
  refine q_getR hC (by first | assumption | rfl) flX5_34 dX5_become_95 ?_
  refine q_iconst (v := nI 0) hC dX5_become_98 (by decide) ?_
  refine q_iconst (v := nI 4) hC dX5_become_99 (by decide) ?_
  refine q_copy hC (by first | assumption | rfl) (by first | assumption | rfl) mlX5_37 (by decide) (by decide) (by decide) (by decide) (by decide) (by decide) dX5_become_100 ?_
  refine q_vret hC dX5_become_103 ?_
  obtain ⟨n1, n2, n3, n4⟩ := hT
  refine ⟨⟨fun a ha => ?_, rfl⟩, ?_, ?_, fun p hp => ⟨?_, ?_, ?_⟩, fun f hf => ⟨?_, ?_, ?_⟩⟩
  · simp only [List.mem_cons, List.not_mem_nil, or_false, not_or] at ha
    rw [upA_o ha.2.2.2.2.2.2, upA_o ha.2.2.2.2.2.1, upA_o ha.2.2.2.2.1, up_oc ha.1, upA_o ha.2.2.2.1, upA_o ha.2.2.1, upA_o ha.2.1, up_oc ha.1]
  · rw [upA_o (by omega), upA_o (by omega), upA_o (by omega), up_of (by omega), upA_o (by omega), upA_o (by omega), upA_o (by omega), up_s]; exact n1
  · rw [upA_o (by omega), upA_o (by omega), upA_o (by omega), up_s, upA_o (by omega), upA_o (by omega), upA_o (by omega), up_oc (by omega)]; exact n2
  · rw [upA_o (by omega), upA_o (by omega), upA_o (by omega), up_oc (by omega), upA_o (by omega), upA_o (by omega), upA_s, cpyI (by omega) (by omega), up_oc (by omega)]; exact (n3 p hp).1
  · rw [upA_o (by omega), upA_o (by omega), upA_o (by omega), up_oc (by omega), upA_o (by omega), upA_s, cpyI (by omega) (by omega), upA_o (by omega), up_oc (by omega)]; exact (n3 p hp).2.1
  · rw [upA_o (by omega), upA_o (by omega), upA_o (by omega), up_oc (by omega), upA_s, cpyI (by omega) (by omega), upA_o (by omega), upA_o (by omega), up_oc (by omega)]; exact (n3 p hp).2.2
  · rw [upA_o (by omega), upA_o (by omega), upA_s, cpyI (by omega) (by omega), up_oc (by omega), upA_o (by omega), upA_o (by omega), upA_o (by omega), up_oc (by omega)]; exact (n4 f hf).1
  · rw [upA_o (by omega), upA_s, cpyI (by omega) (by omega), upA_o (by omega), up_oc (by omega), upA_o (by omega), upA_o (by omega), upA_o (by omega), up_oc (by omega)]; exact (n4 f hf).2.1
  · rw [upA_s, cpyI (by omega) (by omega), upA_o (by omega), upA_o (by omega), up_oc (by omega), upA_o (by omega), upA_o (by omega), upA_o (by omega), up_oc (by omega)]; exact (n4 f hf).2.2
/-- Town.addPiece(a, b, y) -/
theorem c_addPiece (θ : Site) (S : St) (b x y z : Nat) (hk : TwAt b) (T : Tn) (hT : TwR S b T) (hP8 : tP T < 8) : Ctv yX5_addPiece cX5_addPiece 4 none 0 θ shX [.ref (sA θ b), .int (nI x), .int (nI y), .int (nI z)] S (fun S' => Fr S S' [b, b + 1, b + 2, b + 3] ∧ TwR S' b (tAddP T x y z)) := by
  obtain ⟨h0, h1, h2, h3, h4, h5, h6⟩ := hk
  obtain ⟨n1, n2, n3, n4⟩ := hT
  refine Ctv.mk (own := RX5) 0 [some (.ref (sA θ b)), some (.int (nI x)), some (.int (nI y)), some (.int (nI z))] (fun K hC => ?_)
  refine q_aload_n hC dX5_addPiece_0 ?_
  refine q_getR hC (by first | assumption | rfl) flX5_15 dX5_addPiece_1 ?_
  refine q_aload_n hC dX5_addPiece_4 ?_
  refine q_getI hC (by first | assumption | rfl) flX5_9 dX5_addPiece_5 ?_
  rw [n1]
  refine q_iload_n hC dX5_addPiece_8 ?_
  refine q_iastn hC (by first | assumption | rfl) (by first | assumption | omega) dX5_addPiece_9 ?_
  refine q_aload_n hC dX5_addPiece_10 ?_
  refine q_getR hC (by first | assumption | rfl) flX5_19 dX5_addPiece_11 ?_
  refine q_aload_n hC dX5_addPiece_14 ?_
  refine q_getI hC (by first | assumption | rfl) flX5_9 dX5_addPiece_15 ?_
  rw [up_oc (by omega), n1]
  refine q_iload_n hC dX5_addPiece_18 ?_
  refine q_iastn hC (by first | assumption | rfl) (by first | assumption | omega) dX5_addPiece_19 ?_
  refine q_aload_n hC dX5_addPiece_20 ?_
  refine q_getR hC (by first | assumption | rfl) flX5_22 dX5_addPiece_21 ?_
  refine q_aload_n hC dX5_addPiece_24 ?_
  refine q_getI hC (by first | assumption | rfl) flX5_9 dX5_addPiece_25 ?_
  rw [up_oc (by omega), up_oc (by omega), n1]
  refine q_iload_n hC dX5_addPiece_28 ?_
  refine q_iastn hC (by first | assumption | rfl) (by first | assumption | omega) dX5_addPiece_29 ?_
  refine q_aload_n hC dX5_addPiece_30 ?_
  refine q_dup hC dX5_addPiece_31 rfl ?_
  refine q_getI hC (by first | assumption | rfl) flX5_9 dX5_addPiece_32 ?_
  rw [up_oc (by omega), up_oc (by omega), up_oc (by omega), n1]
  refine q_iconst (v := nI 1) hC dX5_addPiece_35 (by decide) ?_
  refine q_iadd hC dX5_addPiece_36 ?_
  rw [nI_add]
  refine q_putI hC (by first | assumption | rfl) fpX5_9 dX5_addPiece_37 ?_
  refine q_vret hC dX5_addPiece_40 ?_
  refine ⟨⟨fun a ha => ?_, rfl⟩, up_s, ?_, fun p hp => ⟨?_, ?_, ?_⟩, fun f hf => ?_⟩
  · simp only [List.mem_cons, List.not_mem_nil, or_false, not_or] at ha
    rw [up_oc ha.1, up_oc ha.2.2.2, up_oc ha.2.2.1, up_oc ha.2.1]
  · rw [up_of (by omega), up_oc (by omega), up_oc (by omega), up_oc (by omega)]; exact n2
  · rw [up_oc (by omega), up_oc (by omega), up_oc (by omega)]
    by_cases e : p = tP T
    · subst e; rw [up_s]; exact congrArg nI upN_s.symm
    · rw [up_of e]; exact (n3 p (by have : p < tP T + 1 := hp; omega)).1.trans (congrArg nI (upN_o e).symm)
  · rw [up_oc (by omega), up_oc (by omega)]
    by_cases e : p = tP T
    · subst e; rw [up_s]; exact congrArg nI upN_s.symm
    · rw [up_of e, up_oc (by omega)]; exact (n3 p (by have : p < tP T + 1 := hp; omega)).2.1.trans (congrArg nI (upN_o e).symm)
  · rw [up_oc (by omega)]
    by_cases e : p = tP T
    · subst e; rw [up_s]; exact congrArg nI upN_s.symm
    · rw [up_of e, up_oc (by omega), up_oc (by omega)]; exact (n3 p (by have : p < tP T + 1 := hp; omega)).2.2.trans (congrArg nI (upN_o e).symm)
  · rw [up_oc (by omega), up_oc (by omega), up_oc (by omega), up_oc (by omega), up_oc (by omega), up_oc (by omega), up_oc (by omega), up_oc (by omega), up_oc (by omega), up_oc (by omega), up_oc (by omega), up_oc (by omega)]; exact n4 f hf
/-- Town.addFamily(h, t, n) -/
theorem c_addFamily (θ : Site) (S : St) (b x y z : Nat) (hk : TwAt b) (T : Tn) (hT : TwR S b T) (hF4 : tF T < 4) : Ctv yX5_addFamily cX5_addFamily 4 none 0 θ shX [.ref (sA θ b), .int (nI x), .int (nI y), .int (nI z)] S (fun S' => Fr S S' [b, b + 4, b + 5, b + 6] ∧ TwR S' b (tAddF T x y z)) := by
  obtain ⟨h0, h1, h2, h3, h4, h5, h6⟩ := hk
  obtain ⟨n1, n2, n3, n4⟩ := hT
  refine Ctv.mk (own := RX5) 0 [some (.ref (sA θ b)), some (.int (nI x)), some (.int (nI y)), some (.int (nI z))] (fun K hC => ?_)
  refine q_aload_n hC dX5_addFamily_0 ?_
  refine q_getR hC (by first | assumption | rfl) flX5_28 dX5_addFamily_1 ?_
  refine q_aload_n hC dX5_addFamily_4 ?_
  refine q_getI hC (by first | assumption | rfl) flX5_25 dX5_addFamily_5 ?_
  rw [n2]
  refine q_iload_n hC dX5_addFamily_8 ?_
  refine q_iastn hC (by first | assumption | rfl) (by first | assumption | omega) dX5_addFamily_9 ?_
  refine q_aload_n hC dX5_addFamily_10 ?_
  refine q_getR hC (by first | assumption | rfl) flX5_31 dX5_addFamily_11 ?_
  refine q_aload_n hC dX5_addFamily_14 ?_
  refine q_getI hC (by first | assumption | rfl) flX5_25 dX5_addFamily_15 ?_
  rw [up_oc (by omega), n2]
  refine q_iload_n hC dX5_addFamily_18 ?_
  refine q_iastn hC (by first | assumption | rfl) (by first | assumption | omega) dX5_addFamily_19 ?_
  refine q_aload_n hC dX5_addFamily_20 ?_
  refine q_getR hC (by first | assumption | rfl) flX5_34 dX5_addFamily_21 ?_
  refine q_aload_n hC dX5_addFamily_24 ?_
  refine q_getI hC (by first | assumption | rfl) flX5_25 dX5_addFamily_25 ?_
  rw [up_oc (by omega), up_oc (by omega), n2]
  refine q_iload_n hC dX5_addFamily_28 ?_
  refine q_iastn hC (by first | assumption | rfl) (by first | assumption | omega) dX5_addFamily_29 ?_
  refine q_aload_n hC dX5_addFamily_30 ?_
  refine q_dup hC dX5_addFamily_31 rfl ?_
  refine q_getI hC (by first | assumption | rfl) flX5_25 dX5_addFamily_32 ?_
  rw [up_oc (by omega), up_oc (by omega), up_oc (by omega), n2]
  refine q_iconst (v := nI 1) hC dX5_addFamily_35 (by decide) ?_
  refine q_iadd hC dX5_addFamily_36 ?_
  rw [nI_add]
  refine q_putI hC (by first | assumption | rfl) fpX5_25 dX5_addFamily_37 ?_
  refine q_vret hC dX5_addFamily_40 ?_
  refine ⟨⟨fun a ha => ?_, rfl⟩, ?_, up_s, fun p hp => ?_, fun f hf => ⟨?_, ?_, ?_⟩⟩
  · simp only [List.mem_cons, List.not_mem_nil, or_false, not_or] at ha
    rw [up_oc ha.1, up_oc ha.2.2.2, up_oc ha.2.2.1, up_oc ha.2.1]
  · rw [up_of (by omega), up_oc (by omega), up_oc (by omega), up_oc (by omega)]; exact n1
  · rw [up_oc (by omega), up_oc (by omega), up_oc (by omega), up_oc (by omega), up_oc (by omega), up_oc (by omega), up_oc (by omega), up_oc (by omega), up_oc (by omega), up_oc (by omega), up_oc (by omega), up_oc (by omega)]; exact n3 p hp
  · rw [up_oc (by omega), up_oc (by omega), up_oc (by omega)]
    by_cases e : f = tF T
    · subst e; rw [up_s]; exact congrArg nI upN_s.symm
    · rw [up_of e]; exact (n4 f (by have : f < tF T + 1 := hf; omega)).1.trans (congrArg nI (upN_o e).symm)
  · rw [up_oc (by omega), up_oc (by omega)]
    by_cases e : f = tF T
    · subst e; rw [up_s]; exact congrArg nI upN_s.symm
    · rw [up_of e, up_oc (by omega)]; exact (n4 f (by have : f < tF T + 1 := hf; omega)).2.1.trans (congrArg nI (upN_o e).symm)
  · rw [up_oc (by omega)]
    by_cases e : f = tF T
    · subst e; rw [up_s]; exact congrArg nI upN_s.symm
    · rw [up_of e, up_oc (by omega), up_oc (by omega)]; exact (n4 f (by have : f < tF T + 1 := hf; omega)).2.2.trans (congrArg nI (upN_o e).symm)
/-- Town.widerThan(width) -/
theorem c_widerThan (θ : Site) (S : St) (b x : Nat) (hk : TwAt b) (T : Tn) (hT : TwR S b T) (hP8 : tP T ≤ 8) (hY : ∀ p, p < tP T → tY T p ≤ 30) (hx : x ≤ 30) : Cti yX5_widerThan cX5_widerThan 4 (some .int) 0 θ shX [.ref (sA θ b), .int (nI x)] S (fun r S' => r = nI (msk (fun p => decide (x < tY T p)) (tP T)) ∧ S' = S) := by
  obtain ⟨h0, h1, h2, h3, h4, h5, h6⟩ := hk
  obtain ⟨n1, n2, n3, n4⟩ := hT
  refine Cti.mk (own := RX5) 2 [some (.ref (sA θ b)), some (.int (nI x)), none, none] (fun K hC => ?_)
  have loop : ∀ n p, p + n = tP T → K 4 [some (.ref (sA θ b)), some (.int (nI x)), some (.int (nI (msk (fun p => decide (x < tY T p)) p))), some (.int (nI p))] [] S := by
    intro n
    induction n with
    | zero =>
      intro p hp
      have e : p = tP T := by omega
      subst e
      refine q_iload_n hC dX5_widerThan_4 ?_
      refine q_aload_n hC dX5_widerThan_5 ?_
      refine q_getI hC (by first | assumption | rfl) flX5_9 dX5_widerThan_6 ?_
      rw [n1]
      refine q_icmp_ge hC 38 dX5_widerThan_9 (by decide) (fun hb => ?_) (fun hb => ?_)
      · refine q_iload_n hC dX5_widerThan_38 ?_
        refine q_iret hC dX5_widerThan_39 ?_
        exact ⟨rfl, rfl⟩
      · exact absurd (nI_le (Nat.le_refl _) (by omega)) hb
    | succ n ih =>
      intro p hp
      refine q_iload_n hC dX5_widerThan_4 ?_
      refine q_aload_n hC dX5_widerThan_5 ?_
      refine q_getI hC (by first | assumption | rfl) flX5_9 dX5_widerThan_6 ?_
      rw [n1]
      refine q_icmp_ge hC 38 dX5_widerThan_9 (by decide) (fun hb => ?_) (fun hb => ?_)
      · exact absurd ((nI_leI (by omega) (by omega)).mp hb) (by omega)
      · have hp8 : p < 8 := by omega
        have hy := hY p (by omega)
        refine q_iload_n hC dX5_widerThan_12 ?_
        refine q_aload_n hC dX5_widerThan_13 ?_
        refine q_getR hC (by first | assumption | rfl) flX5_22 dX5_widerThan_14 ?_
        refine q_iload_n hC dX5_widerThan_17 ?_
        refine q_ialdn hC (by first | assumption | rfl) (by first | assumption | omega) dX5_widerThan_18 ?_
        rw [(n3 p (by omega)).2.2]
        refine q_iload_n hC dX5_widerThan_19 ?_
        refine q_icmp_le hC 29 dX5_widerThan_20 (by decide) (fun hb => ?_) (fun hb => ?_)
        · have h9 : ¬ x < tY T p := by have := (nI_leI (by omega) (by omega)).mp hb; omega
          refine q_iconst (v := nI 0) hC dX5_widerThan_29 (by decide) ?_
          refine q_ior hC dX5_widerThan_30 ?_
          rw [show nI 0 = (if decide (x < tY T p) = true then nI (2 ^ p) else nI 0) by simp [h9], msk_or (fun p => decide (x < tY T p)) p]
          refine q_istore_2 hC dX5_widerThan_31 ?_
          refine q_inc1_3 hC dX5_widerThan_32 ?_
          refine q_goto hC 4 dX5_widerThan_35 (by decide) ?_
          exact ih (p + 1) (by omega)
        · have h9 : x < tY T p := by
            rcases Nat.lt_or_ge x (tY T p) with h | h
            · exact h
            · exact absurd (nI_le h (by omega)) hb
          refine q_iconst (v := nI 1) hC dX5_widerThan_23 (by decide) ?_
          refine q_iload_n hC dX5_widerThan_24 ?_
          refine q_ishl hC dX5_widerThan_25 ?_
          rw [sh1 (by omega)]
          refine q_goto hC 30 dX5_widerThan_26 (by decide) ?_
          refine q_ior hC dX5_widerThan_30 ?_
          rw [show nI (2 ^ p) = (if decide (x < tY T p) = true then nI (2 ^ p) else nI 0) by simp [h9], msk_or (fun p => decide (x < tY T p)) p]
          refine q_istore_2 hC dX5_widerThan_31 ?_
          refine q_inc1_3 hC dX5_widerThan_32 ?_
          refine q_goto hC 4 dX5_widerThan_35 (by decide) ?_
          exact ih (p + 1) (by omega)
  refine q_iconst (v := nI 0) hC dX5_widerThan_0 (by decide) ?_
  refine q_istore_2 hC dX5_widerThan_1 ?_
  refine q_iconst (v := nI 0) hC dX5_widerThan_2 (by decide) ?_
  refine q_istore_3 hC dX5_widerThan_3 ?_
  exact loop (tP T) 0 (by omega)
/-- Town.yardsOf(set) -/
theorem c_yardsOf (θ : Site) (S : St) (b B : Nat) (hk : TwAt b) (T : Tn) (hT : TwR S b T) (hP8 : tP T ≤ 8) (hB : B < 256) : Cti yX5_yardsOf cX5_yardsOf 4 (some .int) 0 θ shX [.ref (sA θ b), .int (nI B)] S (fun r S' => r = nI (sumY T B (tP T)) ∧ S' = S) := by
  obtain ⟨h0, h1, h2, h3, h4, h5, h6⟩ := hk
  obtain ⟨n1, n2, n3, n4⟩ := hT
  refine Cti.mk (own := RX5) 2 [some (.ref (sA θ b)), some (.int (nI B)), none, none] (fun K hC => ?_)
  have loop : ∀ n p, p + n = tP T → K 4 [some (.ref (sA θ b)), some (.int (nI B)), some (.int (nI (sumY T B p))), some (.int (nI p))] [] S := by
    intro n
    induction n with
    | zero =>
      intro p hp
      have e : p = tP T := by omega
      subst e
      refine q_iload_n hC dX5_yardsOf_4 ?_
      refine q_aload_n hC dX5_yardsOf_5 ?_
      refine q_getI hC (by first | assumption | rfl) flX5_9 dX5_yardsOf_6 ?_
      rw [n1]
      refine q_icmp_ge hC 33 dX5_yardsOf_9 (by decide) (fun hb => ?_) (fun hb => ?_)
      · refine q_iload_n hC dX5_yardsOf_33 ?_
        refine q_iret hC dX5_yardsOf_34 ?_
        exact ⟨rfl, rfl⟩
      · exact absurd (nI_le (Nat.le_refl _) (by omega)) hb
    | succ n ih =>
      intro p hp
      refine q_iload_n hC dX5_yardsOf_4 ?_
      refine q_aload_n hC dX5_yardsOf_5 ?_
      refine q_getI hC (by first | assumption | rfl) flX5_9 dX5_yardsOf_6 ?_
      rw [n1]
      refine q_icmp_ge hC 33 dX5_yardsOf_9 (by decide) (fun hb => ?_) (fun hb => ?_)
      · exact absurd ((nI_leI (by omega) (by omega)).mp hb) (by omega)
      · have hp8 : p < 8 := by omega
        refine q_iload_n hC dX5_yardsOf_12 ?_
        refine q_iload_n hC dX5_yardsOf_13 ?_
        refine q_iload_n hC dX5_yardsOf_14 ?_
        refine q_ishr hC dX5_yardsOf_15 ?_
        refine q_iconst (v := nI 1) hC dX5_yardsOf_16 (by decide) ?_
        refine q_iand hC dX5_yardsOf_17 ?_
        rw [bit_n (by omega) (by omega)]
        refine q_aload_n hC dX5_yardsOf_18 ?_
        refine q_getR hC (by first | assumption | rfl) flX5_22 dX5_yardsOf_19 ?_
        refine q_iload_n hC dX5_yardsOf_22 ?_
        refine q_ialdn hC (by first | assumption | rfl) (by first | assumption | omega) dX5_yardsOf_23 ?_
        rw [(n3 p (by omega)).2.2]
        refine q_imul hC dX5_yardsOf_24 ?_
        rw [pk_mul]
        refine q_iadd hC dX5_yardsOf_25 ?_
        rw [nI_add]
        refine q_istore_2 hC dX5_yardsOf_26 ?_
        refine q_inc1_3 hC dX5_yardsOf_27 ?_
        refine q_goto hC 4 dX5_yardsOf_30 (by decide) ?_
        exact ih (p + 1) (by omega)
  refine q_iconst (v := nI 0) hC dX5_yardsOf_0 (by decide) ?_
  refine q_istore_2 hC dX5_yardsOf_1 ?_
  refine q_iconst (v := nI 0) hC dX5_yardsOf_2 (by decide) ?_
  refine q_istore_3 hC dX5_yardsOf_3 ?_
  exact loop (tP T) 0 (by omega)
