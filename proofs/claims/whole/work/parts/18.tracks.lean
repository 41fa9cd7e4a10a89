/-- Tracks.addPiece(now, p, mustBe) -/
theorem c_trackPiece (θ : Site) (S : St) (b p : Nat) (mb : Option Nat) (num : Nat → Nat) (N : Nw) (T : Tn) (hk : NowAt b) (hb9 : b + 3 ∉ [47, 48]) (hok : TnOk T) (hT : TwR S 4 T) (hN : NwR S b N) (hNo : NwOk T N) (hp : p < tP T) (hmb : ∀ f, mb = some f → f < 4) (hn : NbR S 47 num) : Ctv yX6_addPiece cX6_addPiece 7 none 1 θ shX [.ref (sA θ 46), .ref (sA θ b), .int (nI p), .int (mbI mb)] S (fun S' => Fr S S' [47, 48] ∧ NbR S' 47 (acF T N p mb num (tF T))) := by
  obtain ⟨h0, h1, h2, h3⟩ := hk
  have h8 := hok.1
  have hF4 := hok.2.1
  have h2F : 2 ^ tF T ≤ 16 := Nat.pow_le_pow_right (by omega) hF4
  refine Ctv.mk (own := RX6) 3 [some (.ref (sA θ 46)), some (.ref (sA θ b)), some (.int (nI p)), some (.int (mbI mb)), none, none, none] (fun K hC => ?_)
  have fams : ∀ n f S1 l5 l6, f + n = tF T → Fr S S1 [47, 48] → NbR S1 47 num → NbR S1 48 (acF T N p mb num f) → K 11 [some (.ref (sA θ 46)), some (.ref (sA θ b)), some (.int (nI p)), some (.int (mbI mb)), some (.int (nI f)), l5, l6] [] S1 := by
    intro n
    induction n with
    | zero =>
      intro f S1 l5 l6 hf hF1 hn1 ha1
      have e : f = tF T := by omega
      subst e
      have hT1 := hT.fr4 hF1 rfl
      refine q_iload hC dX6_addPiece_11 ?_
      refine q_aload_n hC dX6_addPiece_13 ?_
      refine q_getR hC (by first | assumption | rfl) flX6_18 dX6_addPiece_14 ?_
      refine q_getI hC (by first | assumption | rfl) flX6_44 dX6_addPiece_17 ?_
      rw [hT1.2.1]
      refine q_icmp_ge hC 111 dX6_addPiece_20 (by decide) (fun hb => ?_) (fun hb => ?_)
      · refine q_aload_n hC dX6_addPiece_111 ?_
        refine q_getR hC (by first | assumption | rfl) flX6_15 dX6_addPiece_112 ?_
        refine q_iconst (v := nI 0) hC dX6_addPiece_115 (by decide) ?_
        refine q_aload_n hC dX6_addPiece_116 ?_
        refine q_getR hC (by first | assumption | rfl) flX6_9 dX6_addPiece_117 ?_
        refine q_iconst (v := nI 0) hC dX6_addPiece_120 (by decide) ?_
        refine q_aload_n hC dX6_addPiece_121 ?_
        refine q_getR hC (by first | assumption | rfl) flX6_9 dX6_addPiece_122 ?_
        refine q_alenn hC (by first | assumption | rfl) (by decide) dX6_addPiece_125 ?_
        refine q_copy hC (by first | assumption | rfl) (by first | assumption | rfl) mlX6_54 (by decide) (by decide) (by decide) (by decide) (by decide) (by decide) dX6_addPiece_126 ?_
        refine q_vret hC dX6_addPiece_129 ?_
        refine ⟨hF1.trans (Fr.uA.mono (by decide)), fun s hs => ?_⟩
        rw [upA_s, cpyI hs (by omega)]; exact ha1 s hs
      · exact absurd (nI_le (Nat.le_refl _) (by omega)) hb
    | succ n ih =>
      intro f S1 l5 l6 hf hF1 hn1 ha1
      have hT1 := hT.fr4 hF1 rfl
      have hW : S1.1 (b + 3) f = nI (nW N f) := by rw [hF1.1 (b + 3) hb9]; exact hN.2.2.2.2 f (by omega)
      have hWl : nW N f < 256 := Nat.lt_of_lt_of_le (hNo.2.2.2 f) (Nat.pow_le_pow_right (n := 2) (by omega) h8)
      -- the sets
      have sets : ∀ k s S2, s + k = 2 ^ tF T → Fr S S2 [47, 48] → NbR S2 47 num → NbR S2 48 (acU num f (acF T N p mb num f) s) → mayB N p mb f = true → K 58 [some (.ref (sA θ 46)), some (.ref (sA θ b)), some (.int (nI p)), some (.int (mbI mb)), some (.int (nI f)), some (.int (nI 1)), some (.int (nI s))] [] S2 := by
        intro k
        induction k with
        | zero =>
          intro s S2 hs hF2 hn2 ha2 hm
          have e : s = 2 ^ tF T := by omega
          subst e
          have hT2 := hT.fr4 hF2 rfl
          refine q_iload hC dX6_addPiece_58 ?_
          refine q_if_eq hC 105 dX6_addPiece_60 (by decide) (fun hb => ?_) (fun hb => ?_)
          · exact absurd hb (by decide)
          · refine q_iload hC dX6_addPiece_63 ?_
            refine q_iconst (v := nI 1) hC dX6_addPiece_65 (by decide) ?_
            refine q_aload_n hC dX6_addPiece_66 ?_
            refine q_getR hC (by first | assumption | rfl) flX6_18 dX6_addPiece_67 ?_
            refine q_getI hC (by first | assumption | rfl) flX6_44 dX6_addPiece_70 ?_
            rw [hT2.2.1]
            refine q_ishl hC dX6_addPiece_73 ?_
            rw [sh1 (by omega)]
            refine q_icmp_ge hC 105 dX6_addPiece_74 (by decide) (fun hb2 => ?_) (fun hb2 => ?_)
            · refine q_inc1_4 hC dX6_addPiece_105 ?_
              refine q_goto hC 11 dX6_addPiece_108 (by decide) ?_
              refine ih (f + 1) S2 _ _ (by omega) hF2 hn2 ?_
              have e2 : acF T N p mb num (f + 1) = acU num f (acF T N p mb num f) (2 ^ tF T) := by simp [acF, hm]
              rw [e2]; exact ha2
            · exact absurd (nI_le (Nat.le_refl _) (by omega)) hb2
        | succ k ihk =>
          intro s S2 hs hF2 hn2 ha2 hm
          have hT2 := hT.fr4 hF2 rfl
          have hs16 : s < 16 := by omega
          have hfb : 2 ^ f < 16 := Nat.pow_lt_pow_right (n := 4) (by omega) (show f < 4 by omega)
          have hor := or_lt16 hs16 hfb
          refine q_iload hC dX6_addPiece_58 ?_
          refine q_if_eq hC 105 dX6_addPiece_60 (by decide) (fun hb => ?_) (fun hb => ?_)
          · exact absurd hb (by decide)
          · refine q_iload hC dX6_addPiece_63 ?_
            refine q_iconst (v := nI 1) hC dX6_addPiece_65 (by decide) ?_
            refine q_aload_n hC dX6_addPiece_66 ?_
            refine q_getR hC (by first | assumption | rfl) flX6_18 dX6_addPiece_67 ?_
            refine q_getI hC (by first | assumption | rfl) flX6_44 dX6_addPiece_70 ?_
            rw [hT2.2.1]
            refine q_ishl hC dX6_addPiece_73 ?_
            rw [sh1 (by omega)]
            refine q_icmp_ge hC 105 dX6_addPiece_74 (by decide) (fun hb2 => ?_) (fun hb2 => ?_)
            · exact absurd ((nI_leI (by omega) (by omega)).mp hb2) (by omega)
            · refine q_aload_n hC dX6_addPiece_77 ?_
              refine q_getR hC (by first | assumption | rfl) flX6_15 dX6_addPiece_78 ?_
              refine q_iload hC dX6_addPiece_81 ?_
              refine q_iconst (v := nI 1) hC dX6_addPiece_83 (by decide) ?_
              refine q_iload hC dX6_addPiece_84 ?_
              refine q_ishl hC dX6_addPiece_86 ?_
              rw [sh1 (by omega)]
              refine q_ior hC dX6_addPiece_87 ?_
              rw [or_n]
              refine q_dup2 hC dX6_addPiece_88 rfl rfl ?_
              refine q_ialdn hC (by first | assumption | rfl) (by first | assumption | omega) dX6_addPiece_89 ?_
              rw [ha2 _ hor]
              refine q_aload_n hC dX6_addPiece_90 ?_
              refine q_getR hC (by first | assumption | rfl) flX6_9 dX6_addPiece_91 ?_
              refine q_iload hC dX6_addPiece_94 ?_
              refine q_ialdn hC (by first | assumption | rfl) (by first | assumption | omega) dX6_addPiece_96 ?_
              rw [hn2 s hs16]
              refine q_iadd hC dX6_addPiece_97 ?_
              rw [nI_add]
              refine q_iastn hC (by first | assumption | rfl) (by first | assumption | omega) dX6_addPiece_98 ?_
              refine q_inc1_6 hC dX6_addPiece_99 ?_
              refine q_goto hC 58 dX6_addPiece_102 (by decide) ?_
              refine ihk (s + 1) _ (by omega) (hF2.trans (Fr.u1.mono (by decide))) (fun x hx => by rw [up_oc (by decide)]; exact hn2 x hx) (fun x hx => ?_) hm
              show _ = nI (upN (acU num f (acF T N p mb num f) s) (s ||| 2 ^ f) _ x)
              by_cases e : x = s ||| 2 ^ f
              · subst e; rw [up_s, upN_s]
              · rw [up_of e, upN_o e]; exact ha2 x hx
      have no : mayB N p mb f = false → K 52 [some (.ref (sA θ 46)), some (.ref (sA θ b)), some (.int (nI p)), some (.int (mbI mb)), some (.int (nI f)), l5, l6] [] S1 := by
        intro hm
        refine q_iconst (v := nI 0) hC dX6_addPiece_52 (by decide) ?_
        refine q_istore_5 hC dX6_addPiece_53 ?_
        refine q_iconst (v := nI 0) hC dX6_addPiece_55 (by decide) ?_
        refine q_istore_6 hC dX6_addPiece_56 ?_
        refine q_iload hC dX6_addPiece_58 ?_
        refine q_if_eq hC 105 dX6_addPiece_60 (by decide) (fun hb => ?_) (fun hb => ?_)
        · refine q_inc1_4 hC dX6_addPiece_105 ?_
          refine q_goto hC 11 dX6_addPiece_108 (by decide) ?_
          refine ih (f + 1) S1 _ _ (by omega) hF1 hn1 ?_
          have e2 : acF T N p mb num (f + 1) = acF T N p mb num f := by simp [acF, hm]
          rw [e2]; exact ha1
        · exact absurd (by decide) hb
      have yes : mayB N p mb f = true → K 48 [some (.ref (sA θ 46)), some (.ref (sA θ b)), some (.int (nI p)), some (.int (mbI mb)), some (.int (nI f)), l5, l6] [] S1 := by
        intro hm
        refine q_iconst (v := nI 1) hC dX6_addPiece_48 (by decide) ?_
        refine q_goto hC 53 dX6_addPiece_49 (by decide) ?_
        refine q_istore_5 hC dX6_addPiece_53 ?_
        refine q_iconst (v := nI 0) hC dX6_addPiece_55 (by decide) ?_
        refine q_istore_6 hC dX6_addPiece_56 ?_
        exact sets (2 ^ tF T) 0 S1 (by omega) hF1 hn1 ha1 hm
      refine q_iload hC dX6_addPiece_11 ?_
      refine q_aload_n hC dX6_addPiece_13 ?_
      refine q_getR hC (by first | assumption | rfl) flX6_18 dX6_addPiece_14 ?_
      refine q_getI hC (by first | assumption | rfl) flX6_44 dX6_addPiece_17 ?_
      rw [hT1.2.1]
      refine q_icmp_ge hC 111 dX6_addPiece_20 (by decide) (fun hb => ?_) (fun hb => ?_)
      · exact absurd ((nI_leI (by omega) (by omega)).mp hb) (by omega)
      · refine q_aload_n hC dX6_addPiece_23 ?_
        refine q_getR hC (by first | assumption | rfl) flX6_51 dX6_addPiece_24 ?_
        refine q_iload hC dX6_addPiece_27 ?_
        refine q_ialdn hC (by first | assumption | rfl) (by first | assumption | omega) dX6_addPiece_29 ?_
        rw [hW]
        refine q_iload_n hC dX6_addPiece_30 ?_
        refine q_ishr hC dX6_addPiece_31 ?_
        refine q_iconst (v := nI 1) hC dX6_addPiece_32 (by decide) ?_
        refine q_iand hC dX6_addPiece_33 ?_
        rw [bit_n (by omega) (by omega)]
        have hb2 : nW N f / 2 ^ p % 2 < 2 := Nat.mod_lt _ (by omega)
        refine q_if_ne hC 52 dX6_addPiece_34 (by decide) (fun hb3 => ?_) (fun hb3 => ?_)
        · have hbit : ¬ nW N f / 2 ^ p % 2 = 0 := fun z => hb3 (by rw [z]; rfl)
          exact no (by simp [mayB, hbit])
        · have hbit : nW N f / 2 ^ p % 2 = 0 := nI_small (by omega) (by omega) hb3
          cases mb with
          | none =>
            refine q_iload_n hC dX6_addPiece_37 ?_
            refine q_iconst (v := (-1)) hC dX6_addPiece_38 (by decide) ?_
            refine q_icmp_eq hC 48 dX6_addPiece_39 (by decide) (fun hb4 => ?_) (fun hb4 => ?_)
            · exact yes (by simp [mayB, hbit])
            · exact absurd rfl hb4
          | some g =>
            have hg4 := hmb g rfl
            refine q_iload_n hC dX6_addPiece_37 ?_
            refine q_iconst (v := (-1)) hC dX6_addPiece_38 (by decide) ?_
            refine q_icmp_eq hC 48 dX6_addPiece_39 (by decide) (fun hb4 => ?_) (fun hb4 => ?_)
            · have : ∀ g, g < 4 → ¬ (nI g = (-1 : Int32)) := by decide
              exact absurd hb4 (this g hg4)
            · refine q_iload_n hC dX6_addPiece_42 ?_
              refine q_iload hC dX6_addPiece_43 ?_
              refine q_icmp_ne hC 52 dX6_addPiece_45 (by decide) (fun hb5 => ?_) (fun hb5 => ?_)
              · have hne : ¬ g = f := fun z => hb5 (by rw [z]; rfl)
                exact no (by simp [mayB, hbit, hne])
              · have he : g = f := nI_small (by omega) (by omega) hb5
                exact yes (by simp [mayB, hbit, he])
  refine q_aload_n hC dX6_addPiece_0 ?_
  refine q_getR hC (by first | assumption | rfl) flX6_15 dX6_addPiece_1 ?_
  refine q_iconst (v := nI 0) hC dX6_addPiece_4 (by decide) ?_
  refine q_callvS2 hC csX6_22 dX6_addPiece_5 (c_fill θ _ 48 16 _ (by decide) rfl) (by decide) (fun S1 hr => ?_)
  subst hr
  refine q_iconst (v := nI 0) hC dX6_addPiece_8 (by decide) ?_
  refine q_istore_4 hC dX6_addPiece_9 ?_
  refine fams (tF T) 0 _ _ _ (by omega) (Fr.uA.mono (by decide)) (fun s hs => by rw [upA_o (by decide)]; exact hn s hs) (fun s hs => ?_)
  rw [upA_s, if_pos hs]; rfl
/-- Tracks.waysOf(now, fixed, fixedOwner) -/
theorem c_waysOf (θ : Site) (S : St) (b : Nat) (fx : Option (Nat × Nat)) (N : Nw) (T : Tn) (hk : NowAt b) (hb9 : ∀ a, b ≤ a → a ≤ b + 3 → a ∉ [47, 48]) (hok : TnOk T) (hT : TwR S 4 T) (hN : NwR S b N) (hNo : NwOk T N) (hfx : ∀ q f, fx = some (q, f) → q < 8 ∧ f < 4) : Cti yX6_waysOf cX6_waysOf 5 (some .int) 2 θ shX [.ref (sA θ 46), .ref (sA θ b), .int (fpI fx), .int (foI fx)] S (fun r S' => r = nI (fitN T N fx) ∧ Fr S S' [47, 48]) := by
  have hk' := hk
  obtain ⟨h0, h1, h2, h3⟩ := hk
  have h8 := hok.1
  have hF4 := hok.2.1
  have h2F : 2 ^ tF T ≤ 16 := Nat.pow_le_pow_right (by omega) hF4
  have h2P : 0 < 2 ^ tF T := Nat.two_pow_pos _
  refine Cti.mk (own := RX6) 1 [some (.ref (sA θ 46)), some (.ref (sA θ b)), some (.int (fpI fx)), some (.int (foI fx)), none] (fun K hC => ?_)
  have loop : ∀ n p S1, p + n = tP T → Fr S S1 [47, 48] → NbR S1 47 (nmS T N fx p) → K 18 [some (.ref (sA θ 46)), some (.ref (sA θ b)), some (.int (fpI fx)), some (.int (foI fx)), some (.int (nI p))] [] S1 := by
    intro n
    induction n with
    | zero =>
      intro p S1 hp hF1 hn1
      have e : p = tP T := by omega
      subst e
      have hT1 := hT.fr4 hF1 rfl
      refine q_iload hC dX6_waysOf_18 ?_
      refine q_aload_n hC dX6_waysOf_20 ?_
      refine q_getR hC (by first | assumption | rfl) flX6_18 dX6_waysOf_21 ?_
      refine q_getI hC (by first | assumption | rfl) flX6_28 dX6_waysOf_24 ?_
      rw [hT1.1]
      refine q_icmp_ge hC 63 dX6_waysOf_27 (by decide) (fun hb => ?_) (fun hb => ?_)
      · refine q_aload_n hC dX6_waysOf_63 ?_
        refine q_getR hC (by first | assumption | rfl) flX6_9 dX6_waysOf_64 ?_
        refine q_iconst (v := nI 1) hC dX6_waysOf_67 (by decide) ?_
        refine q_aload_n hC dX6_waysOf_68 ?_
        refine q_getR hC (by first | assumption | rfl) flX6_18 dX6_waysOf_69 ?_
        refine q_getI hC (by first | assumption | rfl) flX6_44 dX6_waysOf_72 ?_
        rw [hT1.2.1]
        refine q_ishl hC dX6_waysOf_75 ?_
        rw [sh1 (by omega)]
        refine q_iconst (v := nI 1) hC dX6_waysOf_76 (by decide) ?_
        refine q_isub hC dX6_waysOf_77 ?_
        rw [pk_sub (by omega)]
        refine q_ialdn hC (by first | assumption | rfl) (by first | assumption | omega) dX6_waysOf_78 ?_
        rw [hn1 _ (by omega)]
        refine q_iret hC dX6_waysOf_79 ?_
        exact ⟨rfl, hF1⟩
      · exact absurd (nI_le (Nat.le_refl _) (by omega)) hb
    | succ n ih =>
      intro p S1 hp hF1 hn1
      have hT1 := hT.fr4 hF1 rfl
      have hN1 : NwR S1 b N := hN.go (hF1.1 b (hb9 b (by omega) (by omega))) (hF1.1 (b + 1) (hb9 _ (by omega) (by omega))) (hF1.1 (b + 2) (hb9 _ (by omega) (by omega))) (hF1.1 (b + 3) (hb9 _ (by omega) (by omega)))
      refine q_iload hC dX6_waysOf_18 ?_
      refine q_aload_n hC dX6_waysOf_20 ?_
      refine q_getR hC (by first | assumption | rfl) flX6_18 dX6_waysOf_21 ?_
      refine q_getI hC (by first | assumption | rfl) flX6_28 dX6_waysOf_24 ?_
      rw [hT1.1]
      refine q_icmp_ge hC 63 dX6_waysOf_27 (by decide) (fun hb => ?_) (fun hb => ?_)
      · exact absurd ((nI_leI (by omega) (by omega)).mp hb) (by omega)
      · refine q_aload_n hC dX6_waysOf_30 ?_
        refine q_iload hC dX6_waysOf_31 ?_
        refine q_calliV1 hC (by first | assumption | rfl) cvX6_34 dX6_waysOf_33 (c_isStone θ _ b p _ hk' (by omega) (stm_lt N) hN1.2.2.1) (by decide) (fun r S1 hr => ?_)
        obtain ⟨rfl, rfl⟩ := hr
        have hbit : stm N / 2 ^ p % 2 = if nO N p = 5 then 1 else 0 := by
          unfold stm; rw [msk_bit]; simp [show p < 8 by omega]
        rw [hbit]
        by_cases h5 : nO N p = 5
        · rw [if_pos h5]
          refine q_if_ne hC 57 dX6_waysOf_36 (by decide) (fun hb2 => ?_) (fun hb2 => ?_)
          · refine q_inc1_4 hC dX6_waysOf_57 ?_
            refine q_goto hC 18 dX6_waysOf_60 (by decide) ?_
            refine ih (p + 1) _ (by omega) hF1 ?_
            have e : nmS T N fx (p + 1) = nmS T N fx p := by simp [nmS, h5]
            rw [e]; exact hn1
          · exact absurd hb2 (by decide)
        · rw [if_neg h5]
          refine q_if_ne hC 57 dX6_waysOf_36 (by decide) (fun hb2 => ?_) (fun hb2 => ?_)
          · exact absurd rfl hb2
          · have go : ∀ x, x = mbI (fxO fx p) → K 54 [some (.ref (sA θ 46)), some (.ref (sA θ b)), some (.int (fpI fx)), some (.int (foI fx)), some (.int (nI p))] [.int x, .int (nI p), .ref (sA θ b), .ref (sA θ 46)] S1 := by
              intro x hx
              subst hx
              refine q_callvV3 hC (by first | assumption | rfl) cvX6_40 dX6_waysOf_54 (c_trackPiece θ _ b p (fxO fx p) _ N T hk' (hb9 _ (by omega) (by omega)) hok hT1 hN1 hNo (by omega) (fun f hf => by cases fx with | none => cases hf | some z => obtain ⟨z1, z2⟩ := z; simp only [fxO] at hf; split at hf <;> cases hf; exact (hfx _ _ rfl).2) hn1) (by decide) (fun S2 hr => ?_)
              obtain ⟨hF2, hn2⟩ := hr
              refine q_inc1_4 hC dX6_waysOf_57 ?_
              refine q_goto hC 18 dX6_waysOf_60 (by decide) ?_
              refine ih (p + 1) S2 (by omega) (hF1.trans hF2) ?_
              have e : nmS T N fx (p + 1) = acF T N p (fxO fx p) (nmS T N fx p) (tF T) := by simp [nmS, h5]
              rw [e]; exact hn2
            cases fx with
            | none =>
              refine q_aload_n hC dX6_waysOf_39 ?_
              refine q_aload_n hC dX6_waysOf_40 ?_
              refine q_iload hC dX6_waysOf_41 ?_
              refine q_iload hC dX6_waysOf_43 ?_
              refine q_iload_n hC dX6_waysOf_45 ?_
              refine q_icmp_ne hC 53 dX6_waysOf_46 (by decide) (fun hb3 => ?_) (fun hb3 => ?_)
              · refine q_iconst (v := (-1)) hC dX6_waysOf_53 (by decide) ?_
                exact go _ rfl
              · have : ∀ g, g < 8 → ¬ (nI g = (-1 : Int32)) := by decide
                exact absurd hb3 (this p (by omega))
            | some z =>
              obtain ⟨z1, z2⟩ := z
              have hz := hfx z1 z2 rfl
              refine q_aload_n hC dX6_waysOf_39 ?_
              refine q_aload_n hC dX6_waysOf_40 ?_
              refine q_iload hC dX6_waysOf_41 ?_
              refine q_iload hC dX6_waysOf_43 ?_
              refine q_iload_n hC dX6_waysOf_45 ?_
              refine q_icmp_ne hC 53 dX6_waysOf_46 (by decide) (fun hb3 => ?_) (fun hb3 => ?_)
              · have hne : ¬ z1 = p := fun z => hb3 (by rw [← z]; rfl)
                refine q_iconst (v := (-1)) hC dX6_waysOf_53 (by decide) ?_
                exact go _ (by simp [fxO, hne, mbI])
              · have he : p = z1 := nI_small (by omega) (by omega) hb3
                refine q_iload_n hC dX6_waysOf_49 ?_
                refine q_goto hC 54 dX6_waysOf_50 (by decide) ?_
                exact go _ (by simp [fxO, he, mbI, foI])
  refine q_aload_n hC dX6_waysOf_0 ?_
  refine q_getR hC (by first | assumption | rfl) flX6_9 dX6_waysOf_1 ?_
  refine q_iconst (v := nI 0) hC dX6_waysOf_4 (by decide) ?_
  refine q_callvS2 hC csX6_22 dX6_waysOf_5 (c_fill θ _ 47 16 _ (by decide) rfl) (by decide) (fun S1 hr => ?_)
  subst hr
  refine q_aload_n hC dX6_waysOf_8 ?_
  refine q_getR hC (by first | assumption | rfl) flX6_9 dX6_waysOf_9 ?_
  refine q_iconst (v := nI 0) hC dX6_waysOf_12 (by decide) ?_
  refine q_iconst (v := nI 1) hC dX6_waysOf_13 (by decide) ?_
  refine q_iastn hC (by first | assumption | rfl) (by first | assumption | omega) dX6_waysOf_14 ?_
  refine q_iconst (v := nI 0) hC dX6_waysOf_15 (by decide) ?_
  refine q_istore_4 hC dX6_waysOf_16 ?_
  refine loop (tP T) 0 _ (by omega) (Fr.trans (Fr.uA.mono (by decide)) (Fr.u1.mono (by decide))) (fun s hs => ?_)
  by_cases e : s = 0
  · subst e; rw [up_s]; rfl
  · rw [up_of e, upA_s, if_pos hs]; simp [nmS, e]
/-- Tracks.onlyOwner(now, p) -/
theorem c_onlyOwner (θ : Site) (S : St) (b p : Nat) (N : Nw) (T : Tn) (hk : NowAt b) (hb9 : ∀ a, b ≤ a → a ≤ b + 3 → a ∉ [47, 48]) (hok : TnOk T) (hT : TwR S 4 T) (hN : NwR S b N) (hNo : NwOk T N) (hp : p < tP T) : Cti yX6_onlyOwner cX6_onlyOwner 5 (some .int) 3 θ shX [.ref (sA θ 46), .ref (sA θ b), .int (nI p)] S (fun r S' => r = unqI (unq (fun f => decide (0 < fitN T N (some (p, f)))) (tF T)) ∧ Fr S S' [47, 48]) := by
  have h8 := hok.1
  have hF4 := hok.2.1
  refine Cti.mk (own := RX6) 2 [some (.ref (sA θ 46)), some (.ref (sA θ b)), some (.int (nI p)), none, none] (fun K hC => ?_)
  have loop : ∀ n f S1 o, f + n = tF T → Fr S S1 [47, 48] → unq (fun f => decide (0 < fitN T N (some (p, f)))) f = some o → K 6 [some (.ref (sA θ 46)), some (.ref (sA θ b)), some (.int (nI p)), some (.int (oNone o)), some (.int (nI f))] [] S1 := by
    intro n
    induction n with
    | zero =>
      intro f S1 o hf hF1 ho
      have e : f = tF T := by omega
      subst e
      have hT1 := hT.fr4 hF1 rfl
      refine q_iload hC dX6_onlyOwner_6 ?_
      refine q_aload_n hC dX6_onlyOwner_8 ?_
      refine q_getR hC (by first | assumption | rfl) flX6_18 dX6_onlyOwner_9 ?_
      refine q_getI hC (by first | assumption | rfl) flX6_44 dX6_onlyOwner_12 ?_
      rw [hT1.2.1]
      refine q_icmp_ge hC 47 dX6_onlyOwner_15 (by decide) (fun hb => ?_) (fun hb => ?_)
      · refine q_iload_n hC dX6_onlyOwner_47 ?_
        refine q_iret hC dX6_onlyOwner_48 ?_
        exact ⟨by rw [ho]; rfl, hF1⟩
      · exact absurd (nI_le (Nat.le_refl _) (by omega)) hb
    | succ n ih =>
      intro f S1 o hf hF1 ho
      have hT1 := hT.fr4 hF1 rfl
      have hN1 : NwR S1 b N := hN.go (hF1.1 b (hb9 b (by omega) (by omega))) (hF1.1 (b + 1) (hb9 _ (by omega) (by omega))) (hF1.1 (b + 2) (hb9 _ (by omega) (by omega))) (hF1.1 (b + 3) (hb9 _ (by omega) (by omega)))
      have h2F : 2 ^ tF T ≤ 16 := Nat.pow_le_pow_right (by omega) hF4
      have h2P : 0 < 2 ^ tF T := Nat.two_pow_pos _
      have hle : fitN T N (some (p, f)) ≤ 65536 := nmS_le N _ hF4 _ _ h8 (by omega)
      refine q_iload hC dX6_onlyOwner_6 ?_
      refine q_aload_n hC dX6_onlyOwner_8 ?_
      refine q_getR hC (by first | assumption | rfl) flX6_18 dX6_onlyOwner_9 ?_
      refine q_getI hC (by first | assumption | rfl) flX6_44 dX6_onlyOwner_12 ?_
      rw [hT1.2.1]
      refine q_icmp_ge hC 47 dX6_onlyOwner_15 (by decide) (fun hb => ?_) (fun hb => ?_)
      · exact absurd ((nI_leI (by omega) (by omega)).mp hb) (by omega)
      · refine q_aload_n hC dX6_onlyOwner_18 ?_
        refine q_aload_n hC dX6_onlyOwner_19 ?_
        refine q_iload_n hC dX6_onlyOwner_20 ?_
        refine q_iload hC dX6_onlyOwner_21 ?_
        refine q_calliV3 hC (by first | assumption | rfl) cvX6_47 dX6_onlyOwner_23 (c_waysOf θ _ b (some (p, f)) N T hk hb9 hok hT1 hN1 hNo (fun q g e => by cases e; omega)) (by decide) (fun r S2 hr => ?_)
        obtain ⟨rfl, hF2⟩ := hr
        have hF12 := hF1.trans hF2
        refine q_if_le hC 41 dX6_onlyOwner_26 (by decide) (fun hb2 => ?_) (fun hb2 => ?_)
        · have h9 : ¬ 0 < fitN T N (some (p, f)) := by
            intro z
            exact nI_nle z (by omega) hb2
          refine q_inc1_4 hC dX6_onlyOwner_41 ?_
          refine q_goto hC 6 dX6_onlyOwner_44 (by decide) ?_
          exact ih (f + 1) S2 o (by omega) hF12 (unq_s0 ho (by simp [h9]))
        · have h9 : 0 < fitN T N (some (p, f)) := by
            rcases Nat.eq_zero_or_pos (fitN T N (some (p, f))) with z | z
            · exact absurd (by rw [z]; decide) hb2
            · exact z
          cases o with
          | none =>
            refine q_iload_n hC dX6_onlyOwner_29 ?_
            refine q_bipush (v := (-9)) hC dX6_onlyOwner_30 (by decide) ?_
            refine q_icmp_eq hC 38 dX6_onlyOwner_32 (by decide) (fun hb3 => ?_) (fun hb3 => ?_)
            · refine q_iload hC dX6_onlyOwner_38 ?_
              refine q_istore_3 hC dX6_onlyOwner_40 ?_
              refine q_inc1_4 hC dX6_onlyOwner_41 ?_
              refine q_goto hC 6 dX6_onlyOwner_44 (by decide) ?_
              exact ih (f + 1) S2 (some f) (by omega) hF12 (unq_s1 ho (by simp [h9]))
            · exact absurd rfl hb3
          | some g =>
            have hg := unq_lt ho
            refine q_iload_n hC dX6_onlyOwner_29 ?_
            refine q_bipush (v := (-9)) hC dX6_onlyOwner_30 (by decide) ?_
            refine q_icmp_eq hC 38 dX6_onlyOwner_32 (by decide) (fun hb3 => ?_) (fun hb3 => ?_)
            · have : ∀ g, g < 4 → ¬ (nI g = (-9 : Int32)) := by decide
              exact absurd hb3 (this g (by omega))
            · refine q_bipush (v := (-9)) hC dX6_onlyOwner_35 (by decide) ?_
              refine q_iret hC dX6_onlyOwner_37 ?_
              refine ⟨?_, hF12⟩
              have h10 : unq (fun f => decide (0 < fitN T N (some (p, f)))) (f + 1) = none := unq_s2 ho (by simp [h9])
              have := unq_none h10 n
              rw [show f + 1 + n = tF T by omega] at this
              rw [this]; rfl
  refine q_bipush (v := (-9)) hC dX6_onlyOwner_0 (by decide) ?_
  refine q_istore_3 hC dX6_onlyOwner_2 ?_
  refine q_iconst (v := nI 0) hC dX6_onlyOwner_3 (by decide) ?_
  refine q_istore_4 hC dX6_onlyOwner_4 ?_
  exact loop (tF T) 0 S none (by omega) Fr.rfl' rfl
