theorem n_astqG {K : KN} {cc : ByteArray} {own : String} {nL d mc ms : Nat} {θ : Site} {Fv : va_W → Prop} {pc : Nat} {lv : LV} {st : List Value} {ws : va_W} {cells slots : Nat} (hC : OkN K cc own nL d mc ms θ Fv) {a n v i : Nat} {vs : List Value} {f : Nat → Option Nat} (q0 qk : Nat) (hi : i < n) (dg : decode cc pc = .ok (.aastore, 1)) (k : K (pc + 1) lv st (ws.set q0 (a, .inl (sC θ 3, n, .inr (.inr (.inr (.inr (va_up f i (some v)))))))) cells slots) (ha : ws[q0]? = some (a, .inl (sC θ 3, n, .inr (.inr (.inr (.inr f))))) := by rfl) (hv : ws[qk]? = some (v, .inr (3, vs)) := by rfl) (hn9 : n ≤ 2048 := by exact Nat.le_of_ble_eq_true rfl) : K pc lv (.ref v :: .int (nI i) :: .ref a :: st) ws cells slots := by
  obtain ⟨p, l, e, s, m, args, below, meth, c, Q, A, hx, hb, hml, hown, hts, hK, hin, hA, hE, hX, rv, rfl⟩ := hC
  intro H locs ls hn hl hP hD hS
  refine va_astq (D := sD θ) (cl := vwCl) (tys := tyC θ) (A := A) (r := (RX3, TX3, 5)) hx hb hK hP hD hS q0 3 qk 3 ha rfl hv rfl (vp_in_nI hi (by omega)) dg (fun H1 locs1 hP1 hD1 hS1 => ?_)
  rw [nI_clamp (by omega)] at hP1 hD1
  exact k H1 locs1 ls hn hl hP1 hD1 hS1
theorem k_X9 (θ : Site) (a : Nat) : Ctn yX9_init cX9_init 2 2 48 1612 θ [(a, .inr (9, [.null, .null, .null, .null, .null, .null, .null, .null, .null, .null, .null, .null, .null, .long 0]))] [.ref a] (fun w => ∃ ad : Nat → Nat, ad 0 = a ∧ w = GW (sD θ, ad, sC θ, sK θ, sV θ) shX s0X) := by
  refine Ctn.mk (own := RX9) 1 [some (.ref a), none] (fun K hC => ?_)
  refine n_aload_n hC dX9_init_0 ?_
  refine n_objInit hC oiX9_1 dX9_init_1 ?_
  refine n_aload_n hC dX9_init_4 ?_
  refine n_new hC [.null, .int 0] nwX9_7 tyX7 tyX7_ok (fun j hj => match j, hj with | 0, _ => rfl | 1, _ => rfl | n + 2, h => absurd h (by omega)) dX9_init_5 (fun o1 => ?_)
  refine n_dup hC dX9_init_8 rfl ?_
  refine n_callIN hC ciX9_9 (fun U h => h.1) dX9_init_9 (k_X7 θ o1 ) rfl rfl (by decide) (fun w hw => ?_)
  obtain ⟨o1_1, rfl⟩ := hw
  simp only [List.cons_append, List.nil_append]
  refine n_putF (fs1 := [.ref o1, .null, .null, .null, .null, .null, .null, .null, .null, .null, .null, .null, .null, .long 0]) hC fqX9_10 dX9_init_12 ?_
  refine n_aload_n hC dX9_init_15 ?_
  refine n_new hC [.int 0, .null, .null, .null, .int 0, .null, .null, .null] nwX9_16 tyX5 tyX5_ok (fun j hj => match j, hj with | 0, _ => rfl | 1, _ => rfl | 2, _ => rfl | 3, _ => rfl | 4, _ => rfl | 5, _ => rfl | 6, _ => rfl | 7, _ => rfl | n + 8, h => absurd h (by omega)) dX9_init_16 (fun o2 => ?_)
  refine n_dup hC dX9_init_19 rfl ?_
  refine n_callIN hC ciX9_18 (fun U h => h.2.1) dX9_init_20 (k_X5 θ o2 ) rfl rfl (by decide) (fun w hw => ?_)
  obtain ⟨o2_1, o2_2, o2_3, o2_4, o2_5, o2_6, rfl⟩ := hw
  simp only [List.cons_append, List.nil_append]
  refine n_putF (fs1 := [.ref o1, .null, .ref o2, .null, .null, .null, .null, .null, .null, .null, .null, .null, .null, .long 0]) hC fqX9_19 dX9_init_23 ?_
  refine n_aload_n hC dX9_init_26 ?_
  refine n_new hC [.int 0, .null, .null, .null, .int 0, .null, .null, .null] nwX9_16 tyX5 tyX5_ok (fun j hj => match j, hj with | 0, _ => rfl | 1, _ => rfl | 2, _ => rfl | 3, _ => rfl | 4, _ => rfl | 5, _ => rfl | 6, _ => rfl | 7, _ => rfl | n + 8, h => absurd h (by omega)) dX9_init_27 (fun o3 => ?_)
  refine n_dup hC dX9_init_30 rfl ?_
  refine n_callIN hC ciX9_18 (fun U h => h.2.1) dX9_init_31 (k_X5 θ o3 ) rfl rfl (by decide) (fun w hw => ?_)
  obtain ⟨o3_1, o3_2, o3_3, o3_4, o3_5, o3_6, rfl⟩ := hw
  simp only [List.cons_append, List.nil_append]
  refine n_putF (fs1 := [.ref o1, .null, .ref o2, .ref o3, .null, .null, .null, .null, .null, .null, .null, .null, .null, .long 0]) hC fqX9_23 dX9_init_34 ?_
  refine n_aload_n hC dX9_init_37 ?_
  refine n_new hC [.null, .null, .int 0, .int 0, .null] nwX9_26 tyX3 tyX3_ok (fun j hj => match j, hj with | 0, _ => rfl | 1, _ => rfl | 2, _ => rfl | 3, _ => rfl | 4, _ => rfl | n + 5, h => absurd h (by omega)) dX9_init_38 (fun o4 => ?_)
  refine n_dup hC dX9_init_41 rfl ?_
  refine n_callI hC ciX9_28 clX9_28 dX9_init_42 (k_X3 θ o4 ) rfl rfl (by decide) (fun w hw => ?_)
  obtain ⟨o4_1, o4_2, o4_3, rfl⟩ := hw
  simp only [List.cons_append, List.nil_append]
  refine n_putF (fs1 := [.ref o1, .null, .ref o2, .ref o3, .ref o4, .null, .null, .null, .null, .null, .null, .null, .null, .long 0]) hC fqX9_29 dX9_init_45 ?_
  refine n_aload_n hC dX9_init_48 ?_
  refine n_new hC [.null, .null, .int 0, .int 0, .null] nwX9_26 tyX3 tyX3_ok (fun j hj => match j, hj with | 0, _ => rfl | 1, _ => rfl | 2, _ => rfl | 3, _ => rfl | 4, _ => rfl | n + 5, h => absurd h (by omega)) dX9_init_49 (fun o5 => ?_)
  refine n_dup hC dX9_init_52 rfl ?_
  refine n_callI hC ciX9_28 clX9_28 dX9_init_53 (k_X3 θ o5 ) rfl rfl (by decide) (fun w hw => ?_)
  obtain ⟨o5_1, o5_2, o5_3, rfl⟩ := hw
  simp only [List.cons_append, List.nil_append]
  refine n_putF (fs1 := [.ref o1, .null, .ref o2, .ref o3, .ref o4, .ref o5, .null, .null, .null, .null, .null, .null, .null, .long 0]) hC fqX9_33 dX9_init_56 ?_
  refine n_aload_n hC dX9_init_59 ?_
  refine n_new hC [.null, .null, .null, .int 0, .int 0, .int 0, .int 0] nwX9_36 tyX4 tyX4_ok (fun j hj => match j, hj with | 0, _ => rfl | 1, _ => rfl | 2, _ => rfl | 3, _ => rfl | 4, _ => rfl | 5, _ => rfl | 6, _ => rfl | n + 7, h => absurd h (by omega)) dX9_init_60 (fun o6 => ?_)
  refine n_dup hC dX9_init_63 rfl ?_
  refine n_aload_n hC dX9_init_64 ?_
  refine n_getR hC flX9_10 dX9_init_65 ?_
  refine n_aload_n hC dX9_init_68 ?_
  refine n_getR hC flX9_23 dX9_init_69 ?_
  refine n_aload_n hC dX9_init_72 ?_
  refine n_getR hC flX9_33 dX9_init_73 ?_
  refine n_callI hC ciX9_38 clX9_38 dX9_init_76 (k_X4 θ o6 o1 o3 o5) rfl rfl (by decide) (fun w hw => ?_)
  subst hw
  simp only [List.cons_append, List.nil_append]
  refine n_putF (fs1 := [.ref o1, .ref o6, .ref o2, .ref o3, .ref o4, .ref o5, .null, .null, .null, .null, .null, .null, .null, .long 0]) hC fqX9_41 dX9_init_79 ?_
  refine n_aload_n hC dX9_init_82 ?_
  refine n_iconst (v := nI 2) hC dX9_init_83 (by decide) ?_
  refine n_newq (n := 2) hC nwX9_26.2.1 dX9_init_84 (fun im => ?_)
  refine n_putF (fs1 := [.ref o1, .ref o6, .ref o2, .ref o3, .ref o4, .ref o5, .ref im, .null, .null, .null, .null, .null, .null, .long 0]) hC fqX9_45 dX9_init_87 ?_
  refine n_iconst (v := nI 0) hC dX9_init_90 (by decide) ?_
  refine n_istore_1 hC dX9_init_91 ?_
  refine n_iload_n hC dX9_init_92 ?_
  refine n_iconst (v := nI 2) hC dX9_init_93 (by decide) ?_
  refine n_icmp_ge hC 116 dX9_init_94 (by decide) (fun hz => absurd hz (by decide)) (fun _ => ?_)
  refine n_aload_n hC dX9_init_97 ?_
  refine n_getR hC flX9_45 dX9_init_98 ?_
  refine n_iload_n hC dX9_init_101 ?_
  refine n_new hC [.null, .null, .int 0, .int 0, .null] nwX9_26 tyX3 tyX3_ok (fun j hj => match j, hj with | 0, _ => rfl | 1, _ => rfl | 2, _ => rfl | 3, _ => rfl | 4, _ => rfl | n + 5, h => absurd h (by omega)) dX9_init_102 (fun o7 => ?_)
  refine n_dup hC dX9_init_105 rfl ?_
  refine n_callI hC ciX9_28 clX9_28 dX9_init_106 (k_X3 θ o7 ) rfl rfl (by decide) (fun w hw => ?_)
  obtain ⟨o7_1, o7_2, o7_3, rfl⟩ := hw
  simp only [List.cons_append, List.nil_append]
  refine n_astqG hC 5 1 (n := 2) (i := 0) (by decide) dX9_init_109 ?_
  refine n_iinc_1 (v := nI 1) hC dX9_init_110 (by decide) ?_
  refine n_goto hC 92 dX9_init_113 (by decide) ?_
  refine n_iload_n hC dX9_init_92 ?_
  refine n_iconst (v := nI 2) hC dX9_init_93 (by decide) ?_
  refine n_icmp_ge hC 116 dX9_init_94 (by decide) (fun hz => absurd hz (by decide)) (fun _ => ?_)
  refine n_aload_n hC dX9_init_97 ?_
  refine n_getR hC flX9_45 dX9_init_98 ?_
  refine n_iload_n hC dX9_init_101 ?_
  refine n_new hC [.null, .null, .int 0, .int 0, .null] nwX9_26 tyX3 tyX3_ok (fun j hj => match j, hj with | 0, _ => rfl | 1, _ => rfl | 2, _ => rfl | 3, _ => rfl | 4, _ => rfl | n + 5, h => absurd h (by omega)) dX9_init_102 (fun o8 => ?_)
  refine n_dup hC dX9_init_105 rfl ?_
  refine n_callI hC ciX9_28 clX9_28 dX9_init_106 (k_X3 θ o8 ) rfl rfl (by decide) (fun w hw => ?_)
  obtain ⟨o8_1, o8_2, o8_3, rfl⟩ := hw
  simp only [List.cons_append, List.nil_append]
  refine n_astqG hC 9 1 (n := 2) (i := 1) (by decide) dX9_init_109 ?_
  refine n_iinc_1 (v := nI 2) hC dX9_init_110 (by decide) ?_
  refine n_goto hC 92 dX9_init_113 (by decide) ?_
  refine n_iload_n hC dX9_init_92 ?_
  refine n_iconst (v := nI 2) hC dX9_init_93 (by decide) ?_
  refine n_icmp_ge hC 116 dX9_init_94 (by decide) (fun _ => ?_) (fun hz => absurd (by decide) hz)
  refine n_aload_n hC dX9_init_116 ?_
  refine n_iconst (v := nI 2) hC dX9_init_117 (by decide) ?_
  refine n_newa (t := 2) (n := 2) hC rfl rfl wAz rfl (by decide) dX9_init_118 (fun kp => ?_)
  refine n_putF (fs1 := [.ref o1, .ref o6, .ref o2, .ref o3, .ref o4, .ref o5, .ref im, .ref kp, .null, .null, .null, .null, .null, .long 0]) hC fqX9_49 dX9_init_120 ?_
  refine n_aload_n hC dX9_init_123 ?_
  refine n_new hC [.null, .null, .null] nwX9_53 tyX8 tyX8_ok (fun j hj => match j, hj with | 0, _ => rfl | 1, _ => rfl | 2, _ => rfl | n + 3, h => absurd h (by omega)) dX9_init_124 (fun o9 => ?_)
  refine n_dup hC dX9_init_127 rfl ?_
  refine n_aload_n hC dX9_init_128 ?_
  refine n_getR hC flX9_19 dX9_init_129 ?_
  refine n_callI hC ciX9_55 clX9_55 dX9_init_132 (k_X8 θ o9 o2) rfl rfl (by decide) (fun w hw => ?_)
  obtain ⟨o9_1, o9_2, rfl⟩ := hw
  simp only [List.cons_append, List.nil_append]
  refine n_putF (fs1 := [.ref o1, .ref o6, .ref o2, .ref o3, .ref o4, .ref o5, .ref im, .ref kp, .ref o9, .null, .null, .null, .null, .long 0]) hC fqX9_58 dX9_init_135 ?_
  refine n_aload_n hC dX9_init_138 ?_
  refine n_new hC [.null, .null, .int 0, .int 0, .int 0, .null, .null, .null] nwX9_62 tyX0 tyX0_ok (fun j hj => match j, hj with | 0, _ => rfl | 1, _ => rfl | 2, _ => rfl | 3, _ => rfl | 4, _ => rfl | 5, _ => rfl | 6, _ => rfl | 7, _ => rfl | n + 8, h => absurd h (by omega)) dX9_init_139 (fun o10 => ?_)
  refine n_dup hC dX9_init_142 rfl ?_
  refine n_aload_n hC dX9_init_143 ?_
  refine n_getR hC flX9_19 dX9_init_144 ?_
  refine n_aload_n hC dX9_init_147 ?_
  refine n_getR hC flX9_58 dX9_init_148 ?_
  refine n_callI hC ciX9_64 clX9_64 dX9_init_151 (k_X0 θ o10 o2 o9) rfl rfl (by decide) (fun w hw => ?_)
  obtain ⟨o10_1, o10_2, o10_3, rfl⟩ := hw
  simp only [List.cons_append, List.nil_append]
  refine n_putF (fs1 := [.ref o1, .ref o6, .ref o2, .ref o3, .ref o4, .ref o5, .ref im, .ref kp, .ref o9, .ref o10, .null, .null, .null, .long 0]) hC fqX9_67 dX9_init_154 ?_
  refine n_aload_n hC dX9_init_157 ?_
  refine n_new hC [.null, .null, .null] nwX9_71 tyX1 tyX1_ok (fun j hj => match j, hj with | 0, _ => rfl | 1, _ => rfl | 2, _ => rfl | n + 3, h => absurd h (by omega)) dX9_init_158 (fun o11 => ?_)
  refine n_dup hC dX9_init_161 rfl ?_
  refine n_aload_n hC dX9_init_162 ?_
  refine n_getR hC flX9_19 dX9_init_163 ?_
  refine n_aload_n hC dX9_init_166 ?_
  refine n_getR hC flX9_58 dX9_init_167 ?_
  refine n_callI hC ciX9_73 clX9_73 dX9_init_170 (k_X1 θ o11 o2 o9) rfl rfl (by decide) (fun w hw => ?_)
  obtain ⟨o11_1, rfl⟩ := hw
  simp only [List.cons_append, List.nil_append]
  refine n_putF (fs1 := [.ref o1, .ref o6, .ref o2, .ref o3, .ref o4, .ref o5, .ref im, .ref kp, .ref o9, .ref o10, .ref o11, .null, .null, .long 0]) hC fqX9_74 dX9_init_173 ?_
  refine n_aload_n hC dX9_init_176 ?_
  refine n_new hC [.null, .null, .long 0, .long 0] nwX9_78 tyX2 tyX2_ok (fun j hj => match j, hj with | 0, _ => rfl | 1, _ => rfl | 2, _ => rfl | 3, _ => rfl | n + 4, h => absurd h (by omega)) dX9_init_177 (fun o12 => ?_)
  refine n_dup hC dX9_init_180 rfl ?_
  refine n_aload_n hC dX9_init_181 ?_
  refine n_getR hC flX9_19 dX9_init_182 ?_
  refine n_aload_n hC dX9_init_185 ?_
  refine n_getR hC flX9_58 dX9_init_186 ?_
  refine n_callI hC ciX9_80 clX9_80 dX9_init_189 (k_X2 θ o12 o2 o9) rfl rfl (by decide) (fun w hw => ?_)
  subst hw
  simp only [List.cons_append, List.nil_append]
  refine n_putF (fs1 := [.ref o1, .ref o6, .ref o2, .ref o3, .ref o4, .ref o5, .ref im, .ref kp, .ref o9, .ref o10, .ref o11, .ref o12, .null, .long 0]) hC fqX9_81 dX9_init_192 ?_
  refine n_aload_n hC dX9_init_195 ?_
  refine n_new hC [.null, .null, .null] nwX9_85 tyX6 tyX6_ok (fun j hj => match j, hj with | 0, _ => rfl | 1, _ => rfl | 2, _ => rfl | n + 3, h => absurd h (by omega)) dX9_init_196 (fun o13 => ?_)
  refine n_dup hC dX9_init_199 rfl ?_
  refine n_aload_n hC dX9_init_200 ?_
  refine n_getR hC flX9_19 dX9_init_201 ?_
  refine n_callI hC ciX9_87 clX9_87 dX9_init_204 (k_X6 θ o13 o2) rfl rfl (by decide) (fun w hw => ?_)
  obtain ⟨o13_1, o13_2, rfl⟩ := hw
  simp only [List.cons_append, List.nil_append]
  refine n_putF (fs1 := [.ref o1, .ref o6, .ref o2, .ref o3, .ref o4, .ref o5, .ref im, .ref kp, .ref o9, .ref o10, .ref o11, .ref o12, .ref o13, .long 0]) hC fqX9_88 dX9_init_207 ?_
  refine n_aload_n hC dX9_init_210 ?_
  refine n_lconst (v := lN 0) hC dX9_init_211 (by decide) ?_
  refine n_put (fs1 := [.ref o1, .ref o6, .ref o2, .ref o3, .ref o4, .ref o5, .ref im, .ref kp, .ref o9, .ref o10, .ref o11, .ref o12, .ref o13, .long (lN 0)]) hC fpX9_92 dX9_init_212 ?_
  obtain ⟨ad, had⟩ : ∃ ad : Nat → Nat, ad = fun k => [a, o1, o1_1, o6, o2, o2_1, o2_2, o2_3, o2_4, o2_5, o2_6, o3, o3_1, o3_2, o3_3, o3_4, o3_5, o3_6, o4, o4_1, o4_2, o4_3, o5, o5_1, o5_2, o5_3, o7, o7_1, o7_2, o7_3, o8, o8_1, o8_2, o8_3, im, kp, o9, o9_1, o9_2, o10, o10_1, o10_2, o10_3, o11, o11_1, o12, o13, o13_1, o13_2].getD k 0 := ⟨_, rfl⟩
  have hg2 : va_up (va_up (fun _ => none) 0 (some o7)) 1 (some o8) = fun j => ([26, 30][j]?).map ad := by
    rw [had]
    funext j
    rcases j with _ | _ | j <;> simp [va_up]
  rw [hg2]
  refine n_sub hC (ws' := GW (sD θ, ad, sC θ, sK θ, sV θ) shX s0X) [0, 47, 48, 24, 40, 46, 45, 44, 43, 42, 41, 33, 39, 38, 37, 36, 35, 34, 29, 32, 31, 30, 25, 28, 27, 26, 19, 22, 21, 20, 15, 18, 17, 16, 23, 14, 11, 13, 12, 7, 10, 9, 8, 5, 6, 4, 1, 3, 2] ?_ ?_
  · exact n_vret hC dX9_init_215 ⟨ad, by rw [had]; rfl, rfl⟩
  · rw [GW_mpI]
    subst had
    rfl
