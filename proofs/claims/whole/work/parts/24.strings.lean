theorem c_coder (θ : Site) (sx : List Shp) (S : St) (i : Nat) (hi : i < 5) : Cti yJ0_coder_7d493 cJ0_coder_7d493 1 (some .byte) 0 θ sx [.ref (sK θ i)] S (fun r S' => r = 0 ∧ S' = S) := by
  refine Cti.mkz (own := RJ0) 0 [some (.ref (sK θ i))] (fun K hC => ?_)
  refine q_compact hC fjJ0_38 dJ0_coder_7d493_0 ?_
  refine q_if_eq hC 13 dJ0_coder_7d493_3 (by decide) (fun hb => ?_) (fun hb => ?_)
  · exact absurd hb (by decide)
  · refine q_aload_n hC dJ0_coder_7d493_6 ?_
    refine q_scod hC hi fjJ0_15 dJ0_coder_7d493_7 ?_
    refine q_goto hC 14 dJ0_coder_7d493_10 (by decide) ?_
    refine q_iret hC dJ0_coder_7d493_14 ?_
    exact ⟨⟨rfl, rfl⟩, by decide⟩
theorem c_strlen (θ : Site) (sx : List Shp) (S : St) (i : Nat) (hi : i < 5) : Cti yJ0_length_8abf5 cJ0_length_8abf5 1 (some .int) 1 θ sx [.ref (sK θ i)] S (fun r S' => r = nI (lenS.getD i 0) ∧ S' = S) := by
  refine Cti.mk (own := RJ0) 0 [some (.ref (sK θ i))] (fun K hC => ?_)
  refine q_aload_n hC dJ0_length_8abf5_0 ?_
  refine q_sval hC hi fjJ0_9 dJ0_length_8abf5_1 ?_
  refine q_slen hC hi dJ0_length_8abf5_4 ?_
  refine q_aload_n hC dJ0_length_8abf5_5 ?_
  refine q_callis0 hC hi cjJ0_335 rfl dJ0_length_8abf5_6 (c_coder θ sx _ i hi) (by decide) (fun r S1 hr => ?_)
  obtain ⟨rfl, rfl⟩ := hr
  refine q_ishr hC dJ0_length_8abf5_9 ?_
  refine q_iret hC dJ0_length_8abf5_10 ?_
  refine ⟨?_, rfl⟩
  have : ∀ i, i < 5 → nI (lenS.getD i 0) >>> ((0 : Int32) &&& 31) = nI (lenS.getD i 0) := by decide
  exact this i hi
theorem c_isLatin1 (θ : Site) (sx : List Shp) (S : St) (i : Nat) (hi : i < 5) : Cti yJ0_isLatin1_aae02 cJ0_isLatin1_aae02 1 (some .boolean) 0 θ sx [.ref (sK θ i)] S (fun r S' => r = nI 1 ∧ S' = S) := by
  refine Cti.mkz (own := RJ0) 0 [some (.ref (sK θ i))] (fun K hC => ?_)
  refine q_compact hC fjJ0_38 dJ0_isLatin1_aae02_0 ?_
  refine q_if_eq hC 17 dJ0_isLatin1_aae02_3 (by decide) (fun hb => ?_) (fun hb => ?_)
  · exact absurd hb (by decide)
  · refine q_aload_n hC dJ0_isLatin1_aae02_6 ?_
    refine q_scod hC hi fjJ0_15 dJ0_isLatin1_aae02_7 ?_
    refine q_if_ne hC 17 dJ0_isLatin1_aae02_10 (by decide) (fun hb2 => ?_) (fun hb2 => ?_)
    · exact absurd rfl hb2
    · refine q_iconst (v := nI 1) hC dJ0_isLatin1_aae02_13 (by decide) ?_
      refine q_goto hC 18 dJ0_isLatin1_aae02_14 (by decide) ?_
      refine q_iret hC dJ0_isLatin1_aae02_18 ?_
      exact ⟨⟨rfl, rfl⟩, by decide⟩
theorem c_check3 (θ : Site) (sx : List Shp) (S : St) (i n : Nat) (v : Value) (hi : i < n) (hn : n < 1000) (hv : v = .null ∨ ∃ t, v = .ref t) : Cti yJ3_checkIndex_8e157 cJ3_checkIndex_8e157 3 (some .int) 0 θ sx [.int (nI i), .int (nI n), v] S (fun r S' => r = nI i ∧ S' = S) := by
  have body : ∀ K, Ok K cJ3_checkIndex_8e157 RJ3 3 0 θ sx (fun r S' => r = nI i ∧ S' = S) (fun _ _ => False) (fun _ => False) → K 0 [some (.int (nI i)), some (.int (nI n)), some v] [] S := by
    intro K hC
    refine q_iload_n hC dJ3_checkIndex_8e157_0 ?_
    refine q_if_lt hC 9 dJ3_checkIndex_8e157_1 (by decide) (fun hb => ?_) (fun hb => ?_)
    · exact absurd hb (nI_pos (by omega))
    · refine q_iload_n hC dJ3_checkIndex_8e157_4 ?_
      refine q_iload_n hC dJ3_checkIndex_8e157_5 ?_
      refine q_icmp_lt hC 16 dJ3_checkIndex_8e157_6 (by decide) (fun hb2 => ?_) (fun hb2 => ?_)
      · refine q_iload_n hC dJ3_checkIndex_8e157_16 ?_
        refine q_iret hC dJ3_checkIndex_8e157_17 ?_
        exact ⟨rfl, rfl⟩
      · exact absurd (nI_lt hi (by omega)) hb2
  rcases hv with rfl | ⟨t, rfl⟩
  · exact Cti.mk (own := RJ3) 0 [some (.int (nI i)), some (.int (nI n)), some .null] body
  · exact Cti.mk (own := RJ3) 0 [some (.int (nI i)), some (.int (nI n)), some (.ref t)] body
theorem c_check2 (θ : Site) (sx : List Shp) (S : St) (i n : Nat) (hi : i < n) (hn : n < 1000) : Ctv yJ0_checkIndex_df160 cJ0_checkIndex_df160 2 none 1 θ sx [.int (nI i), .int (nI n)] S (fun S' => S' = S) := by
  refine Ctv.mk (own := RJ0) 0 [some (.int (nI i)), some (.int (nI n))] (fun K hC => ?_)
  refine q_iload_n hC dJ0_checkIndex_df160_0 ?_
  refine q_iload_n hC dJ0_checkIndex_df160_1 ?_
  refine q_sioobe hC fjJ0_1053 dJ0_checkIndex_df160_2 (fun v hv => ?_)
  refine q_calliS3 hC csJ0_1059 dJ0_checkIndex_df160_5 (c_check3 θ sx _ i n v hi hn hv) (by decide) (fun r S1 hr => ?_)
  obtain ⟨rfl, rfl⟩ := hr
  refine q_pop hC dJ0_checkIndex_df160_8 rfl ?_
  refine q_vret hC dJ0_checkIndex_df160_9 ?_
  rfl
theorem c_latChar (θ : Site) (sx : List Shp) (S : St) (i j : Nat) (hi : i < 5) (hj : j < lenS.getD i 0) : Cti yJ1_charAt_3b067 cJ1_charAt_3b067 2 (some .char) 2 θ sx [.ref (sV θ i), .int (nI j)] S (fun r S' => r = (bytS.getD i []).getD j 0 ∧ S' = S) := by
  have h6 : lenS.getD i 0 ≤ 6 := by
    have : ∀ i, i < 5 → lenS.getD i 0 ≤ 6 := by decide
    exact this i hi
  refine Cti.mkz (own := RJ1) 0 [some (.ref (sV θ i)), some (.int (nI j))] (fun K hC => ?_)
  refine q_iload_n hC dJ1_charAt_3b067_0 ?_
  refine q_aload_n hC dJ1_charAt_3b067_1 ?_
  refine q_slen hC hi dJ1_charAt_3b067_2 ?_
  refine q_callvS2 hC csJ1_9 dJ1_charAt_3b067_3 (c_check2 θ sx _ j _ hj (by omega)) (by decide) (fun S1 hr => ?_)
  subst hr
  refine q_aload_n hC dJ1_charAt_3b067_6 ?_
  refine q_iload_n hC dJ1_charAt_3b067_7 ?_
  refine q_sbald hC hi hj h6 dJ1_charAt_3b067_8 ?_
  refine q_sipush (v := nI 255) hC dJ1_charAt_3b067_9 (by decide) ?_
  refine q_iand hC dJ1_charAt_3b067_12 ?_
  refine q_i2c hC dJ1_charAt_3b067_13 ?_
  refine q_iret hC dJ1_charAt_3b067_14 ?_
  have : ∀ i, i < 5 → ∀ j, j < 6 → (((bytS.getD i []).getD j 0 &&& nI 255).toUInt32 % 65536).toInt32 = (bytS.getD i []).getD j 0 ∧ narrow .char (.int ((bytS.getD i []).getD j 0)) = .int ((bytS.getD i []).getD j 0) := by decide
  obtain ⟨e1, e2⟩ := this i hi j (by omega)
  rw [e1]
  exact ⟨⟨rfl, rfl⟩, e2⟩
theorem c_charAt (θ : Site) (sx : List Shp) (S : St) (i j : Nat) (hi : i < 5) (hj : j < lenS.getD i 0) : Cti yJ0_charAt_5068e cJ0_charAt_5068e 2 (some .char) 3 θ sx [.ref (sK θ i), .int (nI j)] S (fun r S' => r = (bytS.getD i []).getD j 0 ∧ S' = S) := by
  have h6 : lenS.getD i 0 ≤ 6 := by
    have : ∀ i, i < 5 → lenS.getD i 0 ≤ 6 := by decide
    exact this i hi
  refine Cti.mkz (own := RJ0) 0 [some (.ref (sK θ i)), some (.int (nI j))] (fun K hC => ?_)
  refine q_aload_n hC dJ0_charAt_5068e_0 ?_
  refine q_callis0 hC hi cjJ0_492 rfl dJ0_charAt_5068e_1 (c_isLatin1 θ sx _ i hi) (by decide) (fun r S1 hr => ?_)
  obtain ⟨rfl, rfl⟩ := hr
  refine q_if_eq hC 16 dJ0_charAt_5068e_4 (by decide) (fun hb => ?_) (fun hb => ?_)
  · exact absurd hb (by decide)
  · refine q_aload_n hC dJ0_charAt_5068e_7 ?_
    refine q_sval hC hi fjJ0_9 dJ0_charAt_5068e_8 ?_
    refine q_iload_n hC dJ0_charAt_5068e_11 ?_
    refine q_calliS2 hC csJ0_495 dJ0_charAt_5068e_12 (c_latChar θ sx _ i j hi hj) (by decide) (fun r S1 hr => ?_)
    obtain ⟨rfl, rfl⟩ := hr
    refine q_iret hC dJ0_charAt_5068e_15 ?_
    have : ∀ i, i < 5 → ∀ j, j < 6 → narrow .char (.int ((bytS.getD i []).getD j 0)) = .int ((bytS.getD i []).getD j 0) := by decide
    exact ⟨⟨rfl, rfl⟩, this i hi j (by omega)⟩
