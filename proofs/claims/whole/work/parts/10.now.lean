/-! Now: its cells lie at b .. b + 3 -/
def NowAt (b : Nat) : Prop := shX[b]? = some (.inr (.inl (3, [some (some (b + 1)), some (some (b + 2)), none, none, some (some (b + 3))]))) ∧ shX[b + 1]? = some (.inl (0, 8)) ∧ shX[b + 2]? = some (.inl (0, 8)) ∧ shX[b + 3]? = some (.inl (0, 4))
theorem nowAt18 : NowAt 18 := ⟨rfl, rfl, rfl, rfl⟩
theorem nowAt22 : NowAt 22 := ⟨rfl, rfl, rfl, rfl⟩
theorem nowAt26 : NowAt 26 := ⟨rfl, rfl, rfl, rfl⟩
theorem nowAt30 : NowAt 30 := ⟨rfl, rfl, rfl, rfl⟩
/-- Now.ownedIn(owners, f): the bits of the pieces that are f's -/
theorem c_ownedIn (θ : Site) (S : St) (q : Nat) (f : Int32) (hq : shX[q]? = some (.inl (0, 8))) : Cti yX3_ownedIn cX3_ownedIn 4 (some .int) 0 θ shX [.ref (sA θ q), .int f] S (fun r S' => r = nI (msk (fun p => decide (S.1 q p = f)) 8) ∧ S' = S) := by
  refine Cti.mk (own := RX3) 2 [some (.ref (sA θ q)), some (.int f), none, none] (fun K hC => ?_)
  have loop : ∀ n p, p + n = 8 → K 4 [some (.ref (sA θ q)), some (.int f), some (.int (nI (msk (fun p => decide (S.1 q p = f)) p))), some (.int (nI p))] [] S := by
    intro n
    induction n with
    | zero =>
      intro p hp
      have e : p = 8 := by omega
      subst e
      refine q_iload_n hC dX3_ownedIn_4 ?_
      refine q_aload_n hC dX3_ownedIn_5 ?_
      refine q_alenn hC (by first | assumption | rfl) (by decide) dX3_ownedIn_6 ?_
      refine q_icmp_ge hC 33 dX3_ownedIn_7 (by decide) (fun hb => ?_) (fun hb => ?_)
      · refine q_iload_n hC dX3_ownedIn_33 ?_
        refine q_iret hC dX3_ownedIn_34 ?_
        exact ⟨rfl, rfl⟩
      · exact absurd (by decide) hb
    | succ n ih =>
      intro p hp
      refine q_iload_n hC dX3_ownedIn_4 ?_
      refine q_aload_n hC dX3_ownedIn_5 ?_
      refine q_alenn hC (by first | assumption | rfl) (by decide) dX3_ownedIn_6 ?_
      refine q_icmp_ge hC 33 dX3_ownedIn_7 (by decide) (fun hb => ?_) (fun hb => ?_)
      · exact absurd ((nI_leI (by omega) (by omega)).mp hb) (by omega)
      · have hp8 : p < 8 := by omega
        refine q_iload_n hC dX3_ownedIn_10 ?_
        refine q_aload_n hC dX3_ownedIn_11 ?_
        refine q_iload_n hC dX3_ownedIn_12 ?_
        refine q_ialdn hC (by first | assumption | rfl) (by first | assumption | omega) dX3_ownedIn_13 ?_
        refine q_iload_n hC dX3_ownedIn_14 ?_
        refine q_icmp_ne hC 24 dX3_ownedIn_15 (by decide) (fun hb => ?_) (fun hb => ?_)
        · refine q_iconst (v := nI 0) hC dX3_ownedIn_24 (by decide) ?_
          refine q_ior hC dX3_ownedIn_25 ?_
          rw [show nI 0 = (if decide (S.1 q p = f) = true then nI (2 ^ p) else nI 0) by simp [hb], msk_or (fun p => decide (S.1 q p = f)) p]
          refine q_istore_2 hC dX3_ownedIn_26 ?_
          refine q_inc1_3 hC dX3_ownedIn_27 ?_
          refine q_goto hC 4 dX3_ownedIn_30 (by decide) ?_
          exact ih (p + 1) (by omega)
        · refine q_iconst (v := nI 1) hC dX3_ownedIn_18 (by decide) ?_
          refine q_iload_n hC dX3_ownedIn_19 ?_
          refine q_ishl hC dX3_ownedIn_20 ?_
          rw [sh1 (by omega)]
          refine q_goto hC 25 dX3_ownedIn_21 (by decide) ?_
          refine q_ior hC dX3_ownedIn_25 ?_
          rw [show nI (2 ^ p) = (if decide (S.1 q p = f) = true then nI (2 ^ p) else nI 0) by simp [hb], msk_or (fun p => decide (S.1 q p = f)) p]
          refine q_istore_2 hC dX3_ownedIn_26 ?_
          refine q_inc1_3 hC dX3_ownedIn_27 ?_
          refine q_goto hC 4 dX3_ownedIn_30 (by decide) ?_
          exact ih (p + 1) (by omega)
  refine q_iconst (v := nI 0) hC dX3_ownedIn_0 (by decide) ?_
  refine q_istore_2 hC dX3_ownedIn_1 ?_
  refine q_iconst (v := nI 0) hC dX3_ownedIn_2 (by decide) ?_
  refine q_istore_3 hC dX3_ownedIn_3 ?_
  exact loop 8 0 rfl
/-- Now.isStone(p) -/
theorem c_isStone (θ : Site) (S : St) (b p m : Nat) (hk : NowAt b) (hp : p < 8) (hm : m < 256) (hst : S.1 b 2 = nI m) : Cti yX3_isStone cX3_isStone 2 (some .boolean) 0 θ shX [.ref (sA θ b), .int (nI p)] S (fun r S' => r = nI (m / 2 ^ p % 2) ∧ S' = S) := by
  obtain ⟨h0, h1, h2, h3⟩ := hk
  refine Cti.mkz (own := RX3) 0 [some (.ref (sA θ b)), some (.int (nI p))] (fun K hC => ?_)
  have hb2 : m / 2 ^ p % 2 < 2 := Nat.mod_lt _ (by omega)
  refine q_aload_n hC dX3_isStone_0 ?_
  refine q_getI hC (by first | assumption | rfl) flX3_18 dX3_isStone_1 ?_
  refine q_iload_n hC dX3_isStone_4 ?_
  refine q_ishr hC dX3_isStone_5 ?_
  refine q_iconst (v := nI 1) hC dX3_isStone_6 (by decide) ?_
  refine q_iand hC dX3_isStone_7 ?_
  rw [hst, bit_n (by omega) (by omega)]
  refine q_if_eq hC 15 dX3_isStone_8 (by decide) (fun hb => ?_) (fun hb => ?_)
  · refine q_iconst (v := nI 0) hC dX3_isStone_15 (by decide) ?_
    refine q_iret hC dX3_isStone_16 ?_
    have e : m / 2 ^ p % 2 = 0 := nI_small (by omega) (by omega) hb
    exact ⟨⟨by rw [e], rfl⟩, by decide⟩
  · refine q_iconst (v := nI 1) hC dX3_isStone_11 (by decide) ?_
    refine q_goto hC 16 dX3_isStone_12 (by decide) ?_
    refine q_iret hC dX3_isStone_16 ?_
    have e : m / 2 ^ p % 2 = 1 := by
      have : ¬ m / 2 ^ p % 2 = 0 := fun z => hb (by rw [z]; rfl)
      omega
    exact ⟨⟨by rw [e], rfl⟩, by decide⟩
