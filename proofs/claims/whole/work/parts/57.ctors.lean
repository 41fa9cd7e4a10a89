def mpI {α β : Type} (f : Nat → α → β) : Nat → List α → List β
  | _, [] => []
  | k, a :: t => f k a :: mpI f (k + 1) t
theorem mpI_eq {α β : Type} : ∀ (l : List α) (f : Nat → α → β) (k : Nat), l.mapIdx (fun i => f (k + i)) = mpI f k l
  | [], f, k => by simp [mpI]
  | a :: t, f, k => by
    rw [List.mapIdx_cons]
    show _ = f k a :: mpI f (k + 1) t
    rw [← mpI_eq t f (k + 1)]
    have : (fun i => f (k + (i + 1))) = fun i => f (k + 1 + i) := by funext i; rw [show k + (i + 1) = k + 1 + i by omega]
    rw [this]; rfl
theorem mpI_0 {α β : Type} (l : List α) (f : Nat → α → β) : l.mapIdx f = mpI f 0 l := by
  rw [← mpI_eq l f 0]
  have : (fun i => f (0 + i)) = f := by funext i; rw [Nat.zero_add]
  rw [this]
def gE (θ : Site) (S : St) (k : Nat) : Shp → va_E
  | .inl (t, n) => .inl (sC θ t, n, .inl (S.1 k))
  | .inr (.inl (ci, ks)) => .inr (ci, mpI (kndV θ S k) 0 ks)
  | .inr (.inr rs) => .inl (sC θ 3, rs.length, .inr (.inr (.inr (.inr fun j => (rs[j]?).map (sA θ)))))
theorem gE_eq (θ : Site) (S : St) (k : Nat) (z : Shp) : cellE θ S k z = gE θ S k z := by
  rcases z with ⟨t, n⟩ | ⟨ci, ks⟩ | rs
  · rfl
  · simp only [cellE, gE, mpI_0]
  · rfl
theorem GW_mpI (θ : Site) (sx : List Shp) (S : St) : GW θ sx S = mpI (fun k z => (sA θ k, gE θ S k z)) 0 sx := by
  unfold GW
  rw [mpI_0]
  congr 1
  funext k z
  rw [gE_eq]
def s0M : St := (fun _ _ => 0, fun _ _ => 0)
def s0X : St := (fun k j => match k with
  | 19 => if j < 8 then -9 else 0
  | 23 => if j < 8 then -9 else 0
  | 27 => if j < 8 then -9 else 0
  | 31 => if j < 8 then -9 else 0
  | 39 => match j with
    | 2 => -1
    | 4 => nI 100000
    | _ => 0
  | _ => 0, fun k j => match k with
  | 45 => match j with
    | 3 => lN 1
    | _ => 0
  | _ => 0)
theorem k_X7 (θ : Site) (a : Nat) : Ctn yX7_init cX7_init 1 1 1 300 θ [(a, .inr (7, [.null, .int 0]))] [.ref a] (fun w => ∃ q1, w = [(a, .inr (7, [.ref q1,.int (nI 0)])), (q1, .inl (sC θ 1, 300, .inl (fun _ => 0)))]) := by
  refine Ctn.mk (own := RX7) 0 [some (.ref a)] (fun K hC => ?_)
  refine n_aload_n hC dX7_init_0 ?_
  refine n_objInit hC oiX7_3 dX7_init_1 ?_
  refine n_aload_n hC dX7_init_4 ?_
  refine n_sipush (v := nI 300) hC dX7_init_5 (by decide) ?_
  refine n_newa (t := 1) (n := 300) hC rfl rfl wAb rfl (by decide) dX7_init_8 (fun q1 => ?_)
  refine n_putF (fs1 := [.ref q1, .int 0]) hC fqX7_9 dX7_init_10 ?_
  refine n_aload_n hC dX7_init_13 ?_
  refine n_iconst (v := nI 0) hC dX7_init_14 (by decide) ?_
  refine n_put (fs1 := [.ref q1, .int (nI 0)]) hC fpX7_15 dX7_init_15 ?_
  exact n_vret hC dX7_init_18 ⟨q1, rfl⟩
theorem k_X5 (θ : Site) (a : Nat) : Ctn yX5_init cX5_init 1 1 6 36 θ [(a, .inr (5, [.int 0, .null, .null, .null, .int 0, .null, .null, .null]))] [.ref a] (fun w => ∃ q1 q2 q3 q4 q5 q6, w = [(a, .inr (5, [.int (nI 0),.ref q1,.ref q2,.ref q3,.int (nI 0),.ref q4,.ref q5,.ref q6])), (q6, .inl (sC θ 0, 4, .inl (fun _ => 0))), (q5, .inl (sC θ 0, 4, .inl (fun _ => 0))), (q4, .inl (sC θ 0, 4, .inl (fun _ => 0))), (q3, .inl (sC θ 0, 8, .inl (fun _ => 0))), (q2, .inl (sC θ 0, 8, .inl (fun _ => 0))), (q1, .inl (sC θ 0, 8, .inl (fun _ => 0)))]) := by
  refine Ctn.mk (own := RX5) 0 [some (.ref a)] (fun K hC => ?_)
  refine n_aload_n hC dX5_init_0 ?_
  refine n_objInit hC oiX5_3 dX5_init_1 ?_
  refine n_aload_n hC dX5_init_4 ?_
  refine n_iconst (v := nI 0) hC dX5_init_5 (by decide) ?_
  refine n_put (fs1 := [.int (nI 0), .null, .null, .null, .int 0, .null, .null, .null]) hC fpX5_9 dX5_init_6 ?_
  refine n_aload_n hC dX5_init_9 ?_
  refine n_bipush (v := nI 8) hC dX5_init_10 (by decide) ?_
  refine n_newa (t := 0) (n := 8) hC rfl rfl wAi rfl (by decide) dX5_init_12 (fun q1 => ?_)
  refine n_putF (fs1 := [.int (nI 0), .ref q1, .null, .null, .int 0, .null, .null, .null]) hC fqX5_15 dX5_init_14 ?_
  refine n_aload_n hC dX5_init_17 ?_
  refine n_bipush (v := nI 8) hC dX5_init_18 (by decide) ?_
  refine n_newa (t := 0) (n := 8) hC rfl rfl wAi rfl (by decide) dX5_init_20 (fun q2 => ?_)
  refine n_putF (fs1 := [.int (nI 0), .ref q1, .ref q2, .null, .int 0, .null, .null, .null]) hC fqX5_19 dX5_init_22 ?_
  refine n_aload_n hC dX5_init_25 ?_
  refine n_bipush (v := nI 8) hC dX5_init_26 (by decide) ?_
  refine n_newa (t := 0) (n := 8) hC rfl rfl wAi rfl (by decide) dX5_init_28 (fun q3 => ?_)
  refine n_putF (fs1 := [.int (nI 0), .ref q1, .ref q2, .ref q3, .int 0, .null, .null, .null]) hC fqX5_22 dX5_init_30 ?_
  refine n_aload_n hC dX5_init_33 ?_
  refine n_iconst (v := nI 0) hC dX5_init_34 (by decide) ?_
  refine n_put (fs1 := [.int (nI 0), .ref q1, .ref q2, .ref q3, .int (nI 0), .null, .null, .null]) hC fpX5_25 dX5_init_35 ?_
  refine n_aload_n hC dX5_init_38 ?_
  refine n_iconst (v := nI 4) hC dX5_init_39 (by decide) ?_
  refine n_newa (t := 0) (n := 4) hC rfl rfl wAi rfl (by decide) dX5_init_40 (fun q4 => ?_)
  refine n_putF (fs1 := [.int (nI 0), .ref q1, .ref q2, .ref q3, .int (nI 0), .ref q4, .null, .null]) hC fqX5_28 dX5_init_42 ?_
  refine n_aload_n hC dX5_init_45 ?_
  refine n_iconst (v := nI 4) hC dX5_init_46 (by decide) ?_
  refine n_newa (t := 0) (n := 4) hC rfl rfl wAi rfl (by decide) dX5_init_47 (fun q5 => ?_)
  refine n_putF (fs1 := [.int (nI 0), .ref q1, .ref q2, .ref q3, .int (nI 0), .ref q4, .ref q5, .null]) hC fqX5_31 dX5_init_49 ?_
  refine n_aload_n hC dX5_init_52 ?_
  refine n_iconst (v := nI 4) hC dX5_init_53 (by decide) ?_
  refine n_newa (t := 0) (n := 4) hC rfl rfl wAi rfl (by decide) dX5_init_54 (fun q6 => ?_)
  refine n_putF (fs1 := [.int (nI 0), .ref q1, .ref q2, .ref q3, .int (nI 0), .ref q4, .ref q5, .ref q6]) hC fqX5_34 dX5_init_56 ?_
  exact n_vret hC dX5_init_59 ⟨q1, q2, q3, q4, q5, q6, rfl⟩
theorem k_X3 (θ : Site) (a : Nat) : Ctn yX3_init cX3_init 1 1 3 20 θ [(a, .inr (3, [.null, .null, .int 0, .int 0, .null]))] [.ref a] (fun w => ∃ q1 q2 q3, w = [(a, .inr (3, [.ref q1,.ref q2,.int (nI 0),.int (nI 0),.ref q3])), (q3, .inl (sC θ 0, 4, .inl (fun _ => 0))), (q2, .inl (sC θ 0, 8, .inl (fun _ => 0))), (q1, .inl (sC θ 0, 8, .inl (fun j => if j < 8 then -9 else 0)))]) := by
  refine Ctn.mk (own := RX3) 0 [some (.ref a)] (fun K hC => ?_)
  refine n_aload_n hC dX3_init_0 ?_
  refine n_objInit hC oiX3_3 dX3_init_1 ?_
  refine n_aload_n hC dX3_init_4 ?_
  refine n_bipush (v := nI 8) hC dX3_init_5 (by decide) ?_
  refine n_newa (t := 0) (n := 8) hC rfl rfl wAi rfl (by decide) dX3_init_7 (fun q1 => ?_)
  refine n_putF (fs1 := [.ref q1, .null, .int 0, .int 0, .null]) hC fqX3_9 dX3_init_9 ?_
  refine n_aload_n hC dX3_init_12 ?_
  refine n_bipush (v := nI 8) hC dX3_init_13 (by decide) ?_
  refine n_newa (t := 0) (n := 8) hC rfl rfl wAi rfl (by decide) dX3_init_15 (fun q2 => ?_)
  refine n_putF (fs1 := [.ref q1, .ref q2, .int 0, .int 0, .null]) hC fqX3_15 dX3_init_17 ?_
  refine n_aload_n hC dX3_init_20 ?_
  refine n_iconst (v := nI 0) hC dX3_init_21 (by decide) ?_
  refine n_put (fs1 := [.ref q1, .ref q2, .int (nI 0), .int 0, .null]) hC fpX3_18 dX3_init_22 ?_
  refine n_aload_n hC dX3_init_25 ?_
  refine n_iconst (v := nI 0) hC dX3_init_26 (by decide) ?_
  refine n_put (fs1 := [.ref q1, .ref q2, .int (nI 0), .int (nI 0), .null]) hC fpX3_22 dX3_init_27 ?_
  refine n_aload_n hC dX3_init_30 ?_
  refine n_iconst (v := nI 4) hC dX3_init_31 (by decide) ?_
  refine n_newa (t := 0) (n := 4) hC rfl rfl wAi rfl (by decide) dX3_init_32 (fun q3 => ?_)
  refine n_putF (fs1 := [.ref q1, .ref q2, .int (nI 0), .int (nI 0), .ref q3]) hC fqX3_25 dX3_init_34 ?_
  refine n_aload_n hC dX3_init_37 ?_
  refine n_getR hC flX3_9 dX3_init_38 ?_
  refine n_bipush (v := (-9)) hC dX3_init_41 (by decide) ?_
  refine n_sub hC (ws' := [(q1, .inl (sC θ 0, 8, .inl (fun _ => 0))), (a, .inr (3, [.ref q1, .ref q2, .int (nI 0), .int (nI 0), .ref q3])), (q3, .inl (sC θ 0, 4, .inl (fun _ => 0))), (q2, .inl (sC θ 0, 8, .inl (fun _ => 0)))]) [3, 0, 1, 2] ?_
  refine n_fill hC csX3_28 (by decide) dX3_init_43 ?_
  refine n_sub hC (ws' := [(a, .inr (3, [.ref q1, .ref q2, .int (nI 0), .int (nI 0), .ref q3])), (q3, .inl (sC θ 0, 4, .inl (fun _ => 0))), (q2, .inl (sC θ 0, 8, .inl (fun _ => 0))), (q1, .inl (sC θ 0, 8, .inl (fun j => if j < 8 then -9 else 0)))]) [1, 2, 3, 0] ?_
  exact n_vret hC dX3_init_46 ⟨q1, q2, q3, rfl⟩
theorem k_X4 (θ : Site) (a t u v: Nat) : Ctn yX4_init cX4_init 4 1 0 0 θ [(a, .inr (4, [.null, .null, .null, .int 0, .int 0, .int 0, .int 0]))] [.ref a, .ref t, .ref u, .ref v] (fun w => w = [(a, .inr (4, [.ref t,.ref u,.ref v,.int (nI 0),.int (nI 0),.int (nI 0),.int (nI 0)]))]) := by
  refine Ctn.mk (own := RX4) 0 [some (.ref a), some (.ref t), some (.ref u), some (.ref v)] (fun K hC => ?_)
  refine n_aload_n hC dX4_init_0 ?_
  refine n_objInit hC oiX4_3 dX4_init_1 ?_
  refine n_aload_n hC dX4_init_4 ?_
  refine n_iconst (v := nI 0) hC dX4_init_5 (by decide) ?_
  refine n_put (fs1 := [.null, .null, .null, .int (nI 0), .int 0, .int 0, .int 0]) hC fpX4_9 dX4_init_6 ?_
  refine n_aload_n hC dX4_init_9 ?_
  refine n_iconst (v := nI 0) hC dX4_init_10 (by decide) ?_
  refine n_put (fs1 := [.null, .null, .null, .int (nI 0), .int (nI 0), .int 0, .int 0]) hC fpX4_15 dX4_init_11 ?_
  refine n_aload_n hC dX4_init_14 ?_
  refine n_iconst (v := nI 0) hC dX4_init_15 (by decide) ?_
  refine n_put (fs1 := [.null, .null, .null, .int (nI 0), .int (nI 0), .int (nI 0), .int 0]) hC fpX4_18 dX4_init_16 ?_
  refine n_aload_n hC dX4_init_19 ?_
  refine n_iconst (v := nI 0) hC dX4_init_20 (by decide) ?_
  refine n_put (fs1 := [.null, .null, .null, .int (nI 0), .int (nI 0), .int (nI 0), .int (nI 0)]) hC fpX4_21 dX4_init_21 ?_
  refine n_aload_n hC dX4_init_24 ?_
  refine n_aload_n hC dX4_init_25 ?_
  refine n_putF (fs1 := [.ref t, .null, .null, .int (nI 0), .int (nI 0), .int (nI 0), .int (nI 0)]) hC fqX4_24 dX4_init_26 ?_
  refine n_aload_n hC dX4_init_29 ?_
  refine n_aload_n hC dX4_init_30 ?_
  refine n_putF (fs1 := [.ref t, .ref u, .null, .int (nI 0), .int (nI 0), .int (nI 0), .int (nI 0)]) hC fqX4_28 dX4_init_31 ?_
  refine n_aload_n hC dX4_init_34 ?_
  refine n_aload_n hC dX4_init_35 ?_
  refine n_putF (fs1 := [.ref t, .ref u, .ref v, .int (nI 0), .int (nI 0), .int (nI 0), .int (nI 0)]) hC fqX4_32 dX4_init_36 ?_
  exact n_vret hC dX4_init_39 rfl
theorem k_X8 (θ : Site) (a t: Nat) : Ctn yX8_init cX8_init 2 1 2 1030 θ [(a, .inr (8, [.null, .null, .null]))] [.ref a, .ref t] (fun w => ∃ q1 q2, w = [(a, .inr (8, [.ref t,.ref q1,.ref q2])), (q2, .inl (sC θ 0, 6, .inl (fun _ => 0))), (q1, .inl (sC θ 0, 1024, .inl (fun _ => 0)))]) := by
  refine Ctn.mk (own := RX8) 0 [some (.ref a), some (.ref t)] (fun K hC => ?_)
  refine n_aload_n hC dX8_init_0 ?_
  refine n_objInit hC oiX8_3 dX8_init_1 ?_
  refine n_aload_n hC dX8_init_4 ?_
  refine n_sipush (v := nI 1024) hC dX8_init_5 (by decide) ?_
  refine n_newa (t := 0) (n := 1024) hC rfl rfl wAi rfl (by decide) dX8_init_8 (fun q1 => ?_)
  refine n_putF (fs1 := [.null, .ref q1, .null]) hC fqX8_9 dX8_init_10 ?_
  refine n_aload_n hC dX8_init_13 ?_
  refine n_bipush (v := nI 6) hC dX8_init_14 (by decide) ?_
  refine n_newa (t := 0) (n := 6) hC rfl rfl wAi rfl (by decide) dX8_init_16 (fun q2 => ?_)
  refine n_putF (fs1 := [.null, .ref q1, .ref q2]) hC fqX8_15 dX8_init_18 ?_
  refine n_aload_n hC dX8_init_21 ?_
  refine n_aload_n hC dX8_init_22 ?_
  refine n_putF (fs1 := [.ref t, .ref q1, .ref q2]) hC fqX8_18 dX8_init_23 ?_
  exact n_vret hC dX8_init_26 ⟨q1, q2, rfl⟩
theorem k_X0 (θ : Site) (a t y: Nat) : Ctn yX0_init cX0_init 3 1 3 20 θ [(a, .inr (0, [.null, .null, .int 0, .int 0, .int 0, .null, .null, .null]))] [.ref a, .ref t, .ref y] (fun w => ∃ q1 q2 q3, w = [(a, .inr (0, [.ref t,.ref y,.int ((-1)),.int (nI 0),.int (nI 100000),.ref q1,.ref q2,.ref q3])), (q3, .inl (sC θ 0, 4, .inl (fun _ => 0))), (q2, .inl (sC θ 0, 8, .inl (fun _ => 0))), (q1, .inl (sC θ 0, 8, .inl (fun _ => 0)))]) := by
  refine Ctn.mk (own := RX0) 0 [some (.ref a), some (.ref t), some (.ref y)] (fun K hC => ?_)
  refine n_aload_n hC dX0_init_0 ?_
  refine n_objInit hC oiX0_3 dX0_init_1 ?_
  refine n_aload_n hC dX0_init_4 ?_
  refine n_iconst (v := (-1)) hC dX0_init_5 (by decide) ?_
  refine n_put (fs1 := [.null, .null, .int ((-1)), .int 0, .int 0, .null, .null, .null]) hC fpX0_11 dX0_init_6 ?_
  refine n_aload_n hC dX0_init_9 ?_
  refine n_iconst (v := nI 0) hC dX0_init_10 (by decide) ?_
  refine n_put (fs1 := [.null, .null, .int ((-1)), .int (nI 0), .int 0, .null, .null, .null]) hC fpX0_15 dX0_init_11 ?_
  refine n_aload_n hC dX0_init_14 ?_
  refine n_ldc hC dX0_init_15 kcX0_18 ?_
  refine n_put (fs1 := [.null, .null, .int ((-1)), .int (nI 0), .int (nI 100000), .null, .null, .null]) hC fpX0_19 dX0_init_17 ?_
  refine n_aload_n hC dX0_init_20 ?_
  refine n_bipush (v := nI 8) hC dX0_init_21 (by decide) ?_
  refine n_newa (t := 0) (n := 8) hC rfl rfl wAi rfl (by decide) dX0_init_23 (fun q1 => ?_)
  refine n_putF (fs1 := [.null, .null, .int ((-1)), .int (nI 0), .int (nI 100000), .ref q1, .null, .null]) hC fqX0_22 dX0_init_25 ?_
  refine n_aload_n hC dX0_init_28 ?_
  refine n_bipush (v := nI 8) hC dX0_init_29 (by decide) ?_
  refine n_newa (t := 0) (n := 8) hC rfl rfl wAi rfl (by decide) dX0_init_31 (fun q2 => ?_)
  refine n_putF (fs1 := [.null, .null, .int ((-1)), .int (nI 0), .int (nI 100000), .ref q1, .ref q2, .null]) hC fqX0_26 dX0_init_33 ?_
  refine n_aload_n hC dX0_init_36 ?_
  refine n_iconst (v := nI 4) hC dX0_init_37 (by decide) ?_
  refine n_newa (t := 0) (n := 4) hC rfl rfl wAi rfl (by decide) dX0_init_38 (fun q3 => ?_)
  refine n_putF (fs1 := [.null, .null, .int ((-1)), .int (nI 0), .int (nI 100000), .ref q1, .ref q2, .ref q3]) hC fqX0_29 dX0_init_40 ?_
  refine n_aload_n hC dX0_init_43 ?_
  refine n_aload_n hC dX0_init_44 ?_
  refine n_putF (fs1 := [.ref t, .null, .int ((-1)), .int (nI 0), .int (nI 100000), .ref q1, .ref q2, .ref q3]) hC fqX0_32 dX0_init_45 ?_
  refine n_aload_n hC dX0_init_48 ?_
  refine n_aload_n hC dX0_init_49 ?_
  refine n_putF (fs1 := [.ref t, .ref y, .int ((-1)), .int (nI 0), .int (nI 100000), .ref q1, .ref q2, .ref q3]) hC fqX0_36 dX0_init_50 ?_
  exact n_vret hC dX0_init_53 ⟨q1, q2, q3, rfl⟩
theorem k_X1 (θ : Site) (a t y: Nat) : Ctn yX1_init cX1_init 3 1 1 8 θ [(a, .inr (1, [.null, .null, .null]))] [.ref a, .ref t, .ref y] (fun w => ∃ q1, w = [(a, .inr (1, [.ref t,.ref y,.ref q1])), (q1, .inl (sC θ 0, 8, .inl (fun _ => 0)))]) := by
  refine Ctn.mk (own := RX1) 0 [some (.ref a), some (.ref t), some (.ref y)] (fun K hC => ?_)
  refine n_aload_n hC dX1_init_0 ?_
  refine n_objInit hC oiX1_3 dX1_init_1 ?_
  refine n_aload_n hC dX1_init_4 ?_
  refine n_bipush (v := nI 8) hC dX1_init_5 (by decide) ?_
  refine n_newa (t := 0) (n := 8) hC rfl rfl wAi rfl (by decide) dX1_init_7 (fun q1 => ?_)
  refine n_putF (fs1 := [.null, .null, .ref q1]) hC fqX1_9 dX1_init_9 ?_
  refine n_aload_n hC dX1_init_12 ?_
  refine n_aload_n hC dX1_init_13 ?_
  refine n_putF (fs1 := [.ref t, .null, .ref q1]) hC fqX1_15 dX1_init_14 ?_
  refine n_aload_n hC dX1_init_17 ?_
  refine n_aload_n hC dX1_init_18 ?_
  refine n_putF (fs1 := [.ref t, .ref y, .ref q1]) hC fqX1_19 dX1_init_19 ?_
  exact n_vret hC dX1_init_22 ⟨q1, rfl⟩
theorem k_X2 (θ : Site) (a t y: Nat) : Ctn yX2_init cX2_init 3 1 0 0 θ [(a, .inr (2, [.null, .null, .long 0, .long 0]))] [.ref a, .ref t, .ref y] (fun w => w = [(a, .inr (2, [.ref t,.ref y,.long (lN 0),.long (lN 1)]))]) := by
  refine Ctn.mk (own := RX2) 0 [some (.ref a), some (.ref t), some (.ref y)] (fun K hC => ?_)
  refine n_aload_n hC dX2_init_0 ?_
  refine n_objInit hC oiX2_3 dX2_init_1 ?_
  refine n_aload_n hC dX2_init_4 ?_
  refine n_lconst (v := lN 0) hC dX2_init_5 (by decide) ?_
  refine n_put (fs1 := [.null, .null, .long (lN 0), .long 0]) hC fpX2_9 dX2_init_6 ?_
  refine n_aload_n hC dX2_init_9 ?_
  refine n_lconst (v := lN 1) hC dX2_init_10 (by decide) ?_
  refine n_put (fs1 := [.null, .null, .long (lN 0), .long (lN 1)]) hC fpX2_15 dX2_init_11 ?_
  refine n_aload_n hC dX2_init_14 ?_
  refine n_aload_n hC dX2_init_15 ?_
  refine n_putF (fs1 := [.ref t, .null, .long (lN 0), .long (lN 1)]) hC fqX2_18 dX2_init_16 ?_
  refine n_aload_n hC dX2_init_19 ?_
  refine n_aload_n hC dX2_init_20 ?_
  refine n_putF (fs1 := [.ref t, .ref y, .long (lN 0), .long (lN 1)]) hC fqX2_22 dX2_init_21 ?_
  exact n_vret hC dX2_init_24 rfl
theorem k_X6 (θ : Site) (a t: Nat) : Ctn yX6_init cX6_init 2 1 2 32 θ [(a, .inr (6, [.null, .null, .null]))] [.ref a, .ref t] (fun w => ∃ q1 q2, w = [(a, .inr (6, [.ref t,.ref q1,.ref q2])), (q2, .inl (sC θ 0, 16, .inl (fun _ => 0))), (q1, .inl (sC θ 0, 16, .inl (fun _ => 0)))]) := by
  refine Ctn.mk (own := RX6) 0 [some (.ref a), some (.ref t)] (fun K hC => ?_)
  refine n_aload_n hC dX6_init_0 ?_
  refine n_objInit hC oiX6_3 dX6_init_1 ?_
  refine n_aload_n hC dX6_init_4 ?_
  refine n_bipush (v := nI 16) hC dX6_init_5 (by decide) ?_
  refine n_newa (t := 0) (n := 16) hC rfl rfl wAi rfl (by decide) dX6_init_7 (fun q1 => ?_)
  refine n_putF (fs1 := [.null, .ref q1, .null]) hC fqX6_9 dX6_init_9 ?_
  refine n_aload_n hC dX6_init_12 ?_
  refine n_bipush (v := nI 16) hC dX6_init_13 (by decide) ?_
  refine n_newa (t := 0) (n := 16) hC rfl rfl wAi rfl (by decide) dX6_init_15 (fun q2 => ?_)
  refine n_putF (fs1 := [.null, .ref q1, .ref q2]) hC fqX6_15 dX6_init_17 ?_
  refine n_aload_n hC dX6_init_20 ?_
  refine n_aload_n hC dX6_init_21 ?_
  refine n_putF (fs1 := [.ref t, .ref q1, .ref q2]) hC fqX6_18 dX6_init_22 ?_
  exact n_vret hC dX6_init_25 ⟨q1, q2, rfl⟩
theorem k_X10 (θ : Site) (a : Nat) : Ctn yX10_init cX10_init 1 1 19 1562 θ [(a, .inr (10, [.null, .int 0, .int 0, .null, .null, .null, .int 0, .null, .null, .null, .null, .null, .int 0, .null, .null, .null, .long 0, .int 0, .int 0, .int 0, .long 0, .int 0, .int 0, .null, .null, .null, .null, .null, .null, .null]))] [.ref a] (fun w => ∃ ad : Nat → Nat, ad 0 = a ∧ w = GW (sD θ, ad, sC θ, sK θ, sV θ) shM s0M) := by
  refine Ctn.mk (own := RX10) 0 [some (.ref a)] (fun K hC => ?_)
  refine n_aload_n hC dX10_init_0 ?_
  refine n_objInit hC oiX10_1 dX10_init_1 ?_
  refine n_aload_n hC dX10_init_4 ?_
  refine n_sipush (v := nI 300) hC dX10_init_5 (by decide) ?_
  refine n_newa (t := 0) (n := 300) hC rfl rfl wAi rfl (by decide) dX10_init_8 (fun q1 => ?_)
  refine n_putF (fs1 := [.ref q1, .int 0, .int 0, .null, .null, .null, .int 0, .null, .null, .null, .null, .null, .int 0, .null, .null, .null, .long 0, .int 0, .int 0, .int 0, .long 0, .int 0, .int 0, .null, .null, .null, .null, .null, .null, .null]) hC fqX10_7 dX10_init_10 ?_
  refine n_aload_n hC dX10_init_13 ?_
  refine n_bipush (v := nI 8) hC dX10_init_14 (by decide) ?_
  refine n_newa (t := 0) (n := 8) hC rfl rfl wAi rfl (by decide) dX10_init_16 (fun q2 => ?_)
  refine n_putF (fs1 := [.ref q1, .int 0, .int 0, .ref q2, .null, .null, .int 0, .null, .null, .null, .null, .null, .int 0, .null, .null, .null, .long 0, .int 0, .int 0, .int 0, .long 0, .int 0, .int 0, .null, .null, .null, .null, .null, .null, .null]) hC fqX10_13 dX10_init_18 ?_
  refine n_aload_n hC dX10_init_21 ?_
  refine n_bipush (v := nI 8) hC dX10_init_22 (by decide) ?_
  refine n_newa (t := 0) (n := 8) hC rfl rfl wAi rfl (by decide) dX10_init_24 (fun q3 => ?_)
  refine n_putF (fs1 := [.ref q1, .int 0, .int 0, .ref q2, .ref q3, .null, .int 0, .null, .null, .null, .null, .null, .int 0, .null, .null, .null, .long 0, .int 0, .int 0, .int 0, .long 0, .int 0, .int 0, .null, .null, .null, .null, .null, .null, .null]) hC fqX10_16 dX10_init_26 ?_
  refine n_aload_n hC dX10_init_29 ?_
  refine n_bipush (v := nI 8) hC dX10_init_30 (by decide) ?_
  refine n_newa (t := 0) (n := 8) hC rfl rfl wAi rfl (by decide) dX10_init_32 (fun q4 => ?_)
  refine n_putF (fs1 := [.ref q1, .int 0, .int 0, .ref q2, .ref q3, .ref q4, .int 0, .null, .null, .null, .null, .null, .int 0, .null, .null, .null, .long 0, .int 0, .int 0, .int 0, .long 0, .int 0, .int 0, .null, .null, .null, .null, .null, .null, .null]) hC fqX10_19 dX10_init_34 ?_
  refine n_aload_n hC dX10_init_37 ?_
  refine n_iconst (v := nI 4) hC dX10_init_38 (by decide) ?_
  refine n_newa (t := 0) (n := 4) hC rfl rfl wAi rfl (by decide) dX10_init_39 (fun q5 => ?_)
  refine n_putF (fs1 := [.ref q1, .int 0, .int 0, .ref q2, .ref q3, .ref q4, .int 0, .ref q5, .null, .null, .null, .null, .int 0, .null, .null, .null, .long 0, .int 0, .int 0, .int 0, .long 0, .int 0, .int 0, .null, .null, .null, .null, .null, .null, .null]) hC fqX10_22 dX10_init_41 ?_
  refine n_aload_n hC dX10_init_44 ?_
  refine n_iconst (v := nI 4) hC dX10_init_45 (by decide) ?_
  refine n_newa (t := 0) (n := 4) hC rfl rfl wAi rfl (by decide) dX10_init_46 (fun q6 => ?_)
  refine n_putF (fs1 := [.ref q1, .int 0, .int 0, .ref q2, .ref q3, .ref q4, .int 0, .ref q5, .ref q6, .null, .null, .null, .int 0, .null, .null, .null, .long 0, .int 0, .int 0, .int 0, .long 0, .int 0, .int 0, .null, .null, .null, .null, .null, .null, .null]) hC fqX10_25 dX10_init_48 ?_
  refine n_aload_n hC dX10_init_51 ?_
  refine n_iconst (v := nI 4) hC dX10_init_52 (by decide) ?_
  refine n_newa (t := 0) (n := 4) hC rfl rfl wAi rfl (by decide) dX10_init_53 (fun q7 => ?_)
  refine n_putF (fs1 := [.ref q1, .int 0, .int 0, .ref q2, .ref q3, .ref q4, .int 0, .ref q5, .ref q6, .ref q7, .null, .null, .int 0, .null, .null, .null, .long 0, .int 0, .int 0, .int 0, .long 0, .int 0, .int 0, .null, .null, .null, .null, .null, .null, .null]) hC fqX10_28 dX10_init_55 ?_
  refine n_aload_n hC dX10_init_58 ?_
  refine n_bipush (v := nI 8) hC dX10_init_59 (by decide) ?_
  refine n_newa (t := 0) (n := 8) hC rfl rfl wAi rfl (by decide) dX10_init_61 (fun q8 => ?_)
  refine n_putF (fs1 := [.ref q1, .int 0, .int 0, .ref q2, .ref q3, .ref q4, .int 0, .ref q5, .ref q6, .ref q7, .ref q8, .null, .int 0, .null, .null, .null, .long 0, .int 0, .int 0, .int 0, .long 0, .int 0, .int 0, .null, .null, .null, .null, .null, .null, .null]) hC fqX10_31 dX10_init_63 ?_
  refine n_aload_n hC dX10_init_66 ?_
  refine n_bipush (v := nI 8) hC dX10_init_67 (by decide) ?_
  refine n_newa (t := 0) (n := 8) hC rfl rfl wAi rfl (by decide) dX10_init_69 (fun q9 => ?_)
  refine n_putF (fs1 := [.ref q1, .int 0, .int 0, .ref q2, .ref q3, .ref q4, .int 0, .ref q5, .ref q6, .ref q7, .ref q8, .ref q9, .int 0, .null, .null, .null, .long 0, .int 0, .int 0, .int 0, .long 0, .int 0, .int 0, .null, .null, .null, .null, .null, .null, .null]) hC fqX10_34 dX10_init_71 ?_
  refine n_aload_n hC dX10_init_74 ?_
  refine n_bipush (v := nI 10) hC dX10_init_75 (by decide) ?_
  refine n_newa (t := 0) (n := 10) hC rfl rfl wAi rfl (by decide) dX10_init_77 (fun q10 => ?_)
  refine n_putF (fs1 := [.ref q1, .int 0, .int 0, .ref q2, .ref q3, .ref q4, .int 0, .ref q5, .ref q6, .ref q7, .ref q8, .ref q9, .int 0, .ref q10, .null, .null, .long 0, .int 0, .int 0, .int 0, .long 0, .int 0, .int 0, .null, .null, .null, .null, .null, .null, .null]) hC fqX10_37 dX10_init_79 ?_
  refine n_aload_n hC dX10_init_82 ?_
  refine n_bipush (v := nI 10) hC dX10_init_83 (by decide) ?_
  refine n_newa (t := 0) (n := 10) hC rfl rfl wAi rfl (by decide) dX10_init_85 (fun q11 => ?_)
  refine n_putF (fs1 := [.ref q1, .int 0, .int 0, .ref q2, .ref q3, .ref q4, .int 0, .ref q5, .ref q6, .ref q7, .ref q8, .ref q9, .int 0, .ref q10, .ref q11, .null, .long 0, .int 0, .int 0, .int 0, .long 0, .int 0, .int 0, .null, .null, .null, .null, .null, .null, .null]) hC fqX10_40 dX10_init_87 ?_
  refine n_aload_n hC dX10_init_90 ?_
  refine n_bipush (v := nI 80) hC dX10_init_91 (by decide) ?_
  refine n_newa (t := 0) (n := 80) hC rfl rfl wAi rfl (by decide) dX10_init_93 (fun q12 => ?_)
  refine n_putF (fs1 := [.ref q1, .int 0, .int 0, .ref q2, .ref q3, .ref q4, .int 0, .ref q5, .ref q6, .ref q7, .ref q8, .ref q9, .int 0, .ref q10, .ref q11, .ref q12, .long 0, .int 0, .int 0, .int 0, .long 0, .int 0, .int 0, .null, .null, .null, .null, .null, .null, .null]) hC fqX10_43 dX10_init_95 ?_
  refine n_aload_n hC dX10_init_98 ?_
  refine n_bipush (v := nI 52) hC dX10_init_99 (by decide) ?_
  refine n_newa (t := 0) (n := 52) hC rfl rfl wAi rfl (by decide) dX10_init_101 (fun q13 => ?_)
  refine n_putF (fs1 := [.ref q1, .int 0, .int 0, .ref q2, .ref q3, .ref q4, .int 0, .ref q5, .ref q6, .ref q7, .ref q8, .ref q9, .int 0, .ref q10, .ref q11, .ref q12, .long 0, .int 0, .int 0, .int 0, .long 0, .int 0, .int 0, .ref q13, .null, .null, .null, .null, .null, .null]) hC fqX10_46 dX10_init_103 ?_
  refine n_aload_n hC dX10_init_106 ?_
  refine n_bipush (v := nI 6) hC dX10_init_107 (by decide) ?_
  refine n_newa (t := 0) (n := 6) hC rfl rfl wAi rfl (by decide) dX10_init_109 (fun q14 => ?_)
  refine n_putF (fs1 := [.ref q1, .int 0, .int 0, .ref q2, .ref q3, .ref q4, .int 0, .ref q5, .ref q6, .ref q7, .ref q8, .ref q9, .int 0, .ref q10, .ref q11, .ref q12, .long 0, .int 0, .int 0, .int 0, .long 0, .int 0, .int 0, .ref q13, .ref q14, .null, .null, .null, .null, .null]) hC fqX10_49 dX10_init_111 ?_
  refine n_aload_n hC dX10_init_114 ?_
  refine n_sipush (v := nI 1024) hC dX10_init_115 (by decide) ?_
  refine n_newa (t := 0) (n := 1024) hC rfl rfl wAi rfl (by decide) dX10_init_118 (fun q15 => ?_)
  refine n_putF (fs1 := [.ref q1, .int 0, .int 0, .ref q2, .ref q3, .ref q4, .int 0, .ref q5, .ref q6, .ref q7, .ref q8, .ref q9, .int 0, .ref q10, .ref q11, .ref q12, .long 0, .int 0, .int 0, .int 0, .long 0, .int 0, .int 0, .ref q13, .ref q14, .ref q15, .null, .null, .null, .null]) hC fqX10_52 dX10_init_120 ?_
  refine n_aload_n hC dX10_init_123 ?_
  refine n_bipush (v := nI 8) hC dX10_init_124 (by decide) ?_
  refine n_newa (t := 0) (n := 8) hC rfl rfl wAi rfl (by decide) dX10_init_126 (fun q16 => ?_)
  refine n_putF (fs1 := [.ref q1, .int 0, .int 0, .ref q2, .ref q3, .ref q4, .int 0, .ref q5, .ref q6, .ref q7, .ref q8, .ref q9, .int 0, .ref q10, .ref q11, .ref q12, .long 0, .int 0, .int 0, .int 0, .long 0, .int 0, .int 0, .ref q13, .ref q14, .ref q15, .ref q16, .null, .null, .null]) hC fqX10_55 dX10_init_128 ?_
  refine n_aload_n hC dX10_init_131 ?_
  refine n_bipush (v := nI 8) hC dX10_init_132 (by decide) ?_
  refine n_newa (t := 0) (n := 8) hC rfl rfl wAi rfl (by decide) dX10_init_134 (fun q17 => ?_)
  refine n_putF (fs1 := [.ref q1, .int 0, .int 0, .ref q2, .ref q3, .ref q4, .int 0, .ref q5, .ref q6, .ref q7, .ref q8, .ref q9, .int 0, .ref q10, .ref q11, .ref q12, .long 0, .int 0, .int 0, .int 0, .long 0, .int 0, .int 0, .ref q13, .ref q14, .ref q15, .ref q16, .ref q17, .null, .null]) hC fqX10_58 dX10_init_136 ?_
  refine n_aload_n hC dX10_init_139 ?_
  refine n_iconst (v := nI 4) hC dX10_init_140 (by decide) ?_
  refine n_newa (t := 0) (n := 4) hC rfl rfl wAi rfl (by decide) dX10_init_141 (fun q18 => ?_)
  refine n_putF (fs1 := [.ref q1, .int 0, .int 0, .ref q2, .ref q3, .ref q4, .int 0, .ref q5, .ref q6, .ref q7, .ref q8, .ref q9, .int 0, .ref q10, .ref q11, .ref q12, .long 0, .int 0, .int 0, .int 0, .long 0, .int 0, .int 0, .ref q13, .ref q14, .ref q15, .ref q16, .ref q17, .ref q18, .null]) hC fqX10_61 dX10_init_143 ?_
  refine n_aload_n hC dX10_init_146 ?_
  refine n_bipush (v := nI 8) hC dX10_init_147 (by decide) ?_
  refine n_newa (t := 0) (n := 8) hC rfl rfl wAi rfl (by decide) dX10_init_149 (fun q19 => ?_)
  refine n_putF (fs1 := [.ref q1, .int 0, .int 0, .ref q2, .ref q3, .ref q4, .int 0, .ref q5, .ref q6, .ref q7, .ref q8, .ref q9, .int 0, .ref q10, .ref q11, .ref q12, .long 0, .int 0, .int 0, .int 0, .long 0, .int 0, .int 0, .ref q13, .ref q14, .ref q15, .ref q16, .ref q17, .ref q18, .ref q19]) hC fqX10_64 dX10_init_151 ?_
  obtain ⟨ad, had⟩ : ∃ ad : Nat → Nat, ad = fun k => [a, q1, q2, q3, q4, q5, q6, q7, q8, q9, q10, q11, q12, q13, q14, q15, q16, q17, q18, q19].getD k 0 := ⟨_, rfl⟩
  refine n_sub hC (ws' := GW (sD θ, ad, sC θ, sK θ, sV θ) shM s0M) [0, 19, 18, 17, 16, 15, 14, 13, 12, 11, 10, 9, 8, 7, 6, 5, 4, 3, 2, 1] ?_ ?_
  · exact n_vret hC dX10_init_154 ⟨ad, by rw [had]; rfl, rfl⟩
  · rw [GW_mpI]
    subst had
    rfl
