/-! ===== the law from its entry ===== -/
theorem D_addr {A : Nat → Prop} {w w2 : va_W} (h : va_D A w) (e : w.map Prod.fst = w2.map Prod.fst) : va_D A w2 := by
  have key : ∀ (k : Nat) (q : Nat × va_E), w2[k]? = some q → ∃ q0, w[k]? = some q0 ∧ q0.1 = q.1 := by
    intro k q hk
    have h1 : (w.map Prod.fst)[k]? = some q.1 := by rw [e, List.getElem?_map, hk]; rfl
    rw [List.getElem?_map] at h1
    cases hi : w[k]? with
    | none => rw [hi] at h1; cases h1
    | some q0 => rw [hi] at h1; exact ⟨q0, rfl, Option.some.inj h1⟩
  refine ⟨fun i j x y hi hj hxy => ?_, fun k q hk => ?_⟩
  · obtain ⟨x0, a1, a2⟩ := key i x hi
    obtain ⟨y0, b1, b2⟩ := key j y hj
    exact h.1 i j x0 y0 a1 b1 (a2.trans (hxy.trans b2.symm))
  · obtain ⟨q0, a1, a2⟩ := key k q hk
    rw [← a2]; exact h.2 k q0 a1
theorem GW_fst (θ : Site) (sx : List Shp) (S S2 : St) : (GW θ sx S).map Prod.fst = (GW θ sx S2).map Prod.fst := by
  apply List.ext_getElem?
  intro k
  rw [List.getElem?_map, List.getElem?_map]
  cases hk : sx[k]? with
  | none =>
    have hl : sx.length ≤ k := List.getElem?_eq_none_iff.mp hk
    rw [List.getElem?_eq_none_iff.mpr (by rw [GW_len]; exact hl), List.getElem?_eq_none_iff.mpr (by rw [GW_len]; exact hl)]
  | some z => rw [GW_get hk, GW_get hk]; rfl
/-- the loop, from two worlds at their start -/
theorem w_loop {p : Program} {e : Env} {s : State} {m : MethodId} {below : List Frame} {meth : Method} {c : Code} {l : Launch} {b L nc ns q0 q1 : Nat} {xs : Nat → Int32} {θ : Site} {ax am : Nat → Nat} {H : Heap} {locs : List Loc} {ls : Array Slot} (hL : L ≤ 2048) (hx : p.tables.exec = Jvm.exec) (hb : c.code = cL_law) (hr : meth.sig.returnType = ret) (hml : c.maxLocals = 4) (hown : s.vm.findClass RL = some m.cls) (hts : ∀ w ∈ lwT, w.before #[Value.ref b] s = true) (hX : va_X b L xs s s.heap) (hbl : b < s.heap.size) (hlk : meth.locks = false) (hK : va_K (sD θ) vwCl (tyC θ) s) (hE : Env9 θ (fun q => s.heap.size ≤ q) s s.heap) (eax : ax 0 = q0) (eam : am 0 = q1) (hnc : nc ≤ 600000) (hns : ns ≤ 7302250) (hP : va_P (sD θ) vwCl (GW (othS θ ax) shX s0X ++ GW (othS θ am) shM s0M) H) (hD : va_D (fun q => s.heap.size ≤ q) (GW (othS θ ax) shX s0X ++ GW (othS θ am) shM s0M)) (hS : va_S (fun q => s.heap.size ≤ q) s.heap H locs) (hl : lv_has ls 4 [(0, .ref b), (1, .ref q0), (2, .ref q1), (3, .int (nI 0))]) : W p l e room_1 s m #[Value.ref b] below meth c H locs nc ns (lw_Z below #[Value.ref b] s) (F0 m 18 ls []) := by
  subst eax
  have hC : OkL (fun pc lv st S S' => ∀ (H : Heap) (locs : List Loc) (ls : Array Slot), lv.length = 4 → lv_has ls 4 (lvA 0 lv) → va_P (sD θ) vwCl (GW (othS θ ax) shX S ++ GW (othS (othS θ ax) am) shM S') H → va_S (fun q => s.heap.size ≤ q) s.heap H locs → W p l e room_1 s m #[Value.ref b] below meth c H locs nc ns (lw_Z below #[Value.ref b] s) (F0 m pc ls st)) (othS θ ax) am b L xs := by
    refine ⟨p, l, e, s, m, below, meth, c, nc, ns, hx, hb, hr, hml, hown, hts, hX, hbl, hlk, hK, hE, fun S S' => ?_, hnc, hns, rfl⟩
    refine D_addr hD ?_
    rw [List.map_append, List.map_append, GW_fst (othS θ ax) shX s0X S, GW_fst (othS θ am) shM s0M S']
    rfl
  exact la_loop hC eam hL (L + 8) 0 (Nat.zero_le _) (by omega) s0X s0M both0 H locs ls rfl hl hP hS
set_option maxHeartbeats 4000000 in
set_option maxRecDepth 100000 in
/-- from the entry, for every script of at most 2048 ints, the law comes to its end with true -/
theorem whole_start {p : Program} {e : Env} {s : State} {m : MethodId} {below : List Frame} {meth : Method} {c : Code} (l : Launch) {b L : Nat} {xs : Nat → Int32} (hL : L ≤ 2048) (C0 : lw_At p s m meth c b L xs) : W p l e room_1 s m #[Value.ref b] below meth c s.heap [] 0 0 (lw_Z below #[Value.ref b] s) (entryFrame m ([Value.ref b] : List Value).toArray 4) := by
  obtain ⟨hx, hb, hr, hml, hown, htb, hX, hbl, hlk, hgv⟩ := id C0
  have hts : ∀ w ∈ lwT, w.before #[Value.ref b] s = true := fun w h => htb w (lwT_in h)
  have hA : ∀ q : Nat, s.heap.size ≤ q → (fun q : Nat => s.heap.size ≤ q) q := fun _ h => h
  obtain ⟨θ, hK, hE, hX9⟩ := enter htb hgv
  have hS : va_S (fun q : Nat => s.heap.size ≤ q) s.heap s.heap [] := va_S.rf
  have hP : va_P (sD θ) vwCl [] s.heap := fun k q h => by simp at h
  have hD : va_D (fun q : Nat => s.heap.size ≤ q) [] := ⟨fun i j p q h => by simp at h, fun k q h => by simp at h⟩
  have hl := lv_entry ([.ref b]) (n := 4) (Nat.le_of_ble_eq_true rfl)
  rw [lg_entry_eq]
  generalize (lg_sl ([.ref b]) ++ List.replicate (4 - (lg_sl ([.ref b])).length) Slot.unset).toArray = ls at hl ⊢
  have hl : lv_has ls 4 [(0, .ref b)] := hl
  obtain ⟨w1, w2, w3, w4⟩ := nwL_7
  refine va_new (D := sD θ) (cl := vwCl) (tys := tyC θ) (ci := 9) (fs := [.null, .null, .null, .null, .null, .null, .null, .null, .null, .null, .null, .null, .null, .long 0]) (C := RX9) (T := TX9) (N := 14) hx hb hts (clW w1) tyX9 tyX9_ok hown (hts _ w2) (hts _ w3) (hts _ w4) hK hP hD hS hA rfl (fun j hj => match j, hj with | 0, _ => rfl | 1, _ => rfl | 2, _ => rfl | 3, _ => rfl | 4, _ => rfl | 5, _ => rfl | 6, _ => rfl | 7, _ => rfl | 8, _ => rfl | 9, _ => rfl | 10, _ => rfl | 11, _ => rfl | 12, _ => rfl | 13, _ => rfl | n + 14, h => absurd h (by omega)) (by show 0 + 1 ≤ 600000; omega) (by show 0 + 14 ≤ 7302250; omega) dL_law_0 (fun q0 H hP hD hS => ?_)
  refine lv_dup hx hb dL_law_3 rfl ?_
  have hP' : va_P (sD θ) vwCl ([(q0, .inr (9, [.null, .null, .null, .null, .null, .null, .null, .null, .null, .null, .null, .null, .null, .long 0]))] ++ []) H := hP
  have hD' : va_D (fun q : Nat => s.heap.size ≤ q) ([(q0, .inr (9, [.null, .null, .null, .null, .null, .null, .null, .null, .null, .null, .null, .null, .null, .long 0]))] ++ []) := hD
  have hF := freeW hD' hS hA
  obtain ⟨c1, c2, c3, c4, c5, c6, c7, c8⟩ := ciL_9
  refine va_callv (va_runI (As := []) (rest := [.ref q0]) ⟨hx, hb, hml, hown, hts⟩ (k_X9 θ q0 l H.size) ⟨callB_of 0 hts (gTb c1) rfl rfl rfl (hts _ c3) (hts _ clL_9) ⟨c5, c6, c7⟩ (by constructor <;> (show _ ≤ _; simp only [rmN, room_1]; omega)), c4, hts _ c2⟩ ⟨PcN_blind, fun U hU hW => ⟨rfl, by rw [hU], by rw [hU]; exact (P_app.mp hP').1, va_K.moved hW.alike hK, (D_left hD').weaken (fun _ _ _ _ => trivial), by rw [hU]; exact hE.go hS.2.1 hF hW, hX9.warm hW⟩⟩ rfl rfl hl.1 rfl (lv_room (Nat.le_of_ble_eq_true rfl)) dL_law_4 ⟨by show 0 + 1 + 48 ≤ 600000; omega, by show 0 + 14 + 1612 ≤ 7302250; omega⟩) hS (fun q _ h => hF q h) hF (fun wx t H1 locs1 ht hvm hw hB hz1 hk1 hS => ?_)
  obtain ⟨ax, eax, ewx⟩ := hw
  obtain ⟨hP1, hD1⟩ := hB
  rw [ht] at hP1
  obtain ⟨hP2, hD2⟩ := joinW hP' hD' hk1 hF hP1 hD1
  rw [List.append_nil] at hP2 hD2
  refine lv_astore_n (lv' := [(1, .ref q0), (0, .ref b)]) hx hb dL_law_7 rfl hl (by decide) rfl (fun ls hl => ?_)
  obtain ⟨v1, v2, v3, v4⟩ := nwL_10
  refine va_new (D := sD θ) (cl := vwCl) (tys := tyC θ) (ci := 10) (fs := [.null, .int 0, .int 0, .null, .null, .null, .int 0, .null, .null, .null, .null, .null, .int 0, .null, .null, .null, .long 0, .int 0, .int 0, .int 0, .long 0, .int 0, .int 0, .null, .null, .null, .null, .null, .null, .null]) (C := RX10) (T := TX10) (N := 30) hx hb hts (clW v1) tyX10 tyX10_ok hown (hts _ v2) (hts _ v3) (hts _ v4) hK hP2 hD2 hS hA rfl (fun j hj => match j, hj with | 0, _ => rfl | 1, _ => rfl | 2, _ => rfl | 3, _ => rfl | 4, _ => rfl | 5, _ => rfl | 6, _ => rfl | 7, _ => rfl | 8, _ => rfl | 9, _ => rfl | 10, _ => rfl | 11, _ => rfl | 12, _ => rfl | 13, _ => rfl | 14, _ => rfl | 15, _ => rfl | 16, _ => rfl | 17, _ => rfl | 18, _ => rfl | 19, _ => rfl | 20, _ => rfl | 21, _ => rfl | 22, _ => rfl | 23, _ => rfl | 24, _ => rfl | 25, _ => rfl | 26, _ => rfl | 27, _ => rfl | 28, _ => rfl | 29, _ => rfl | n + 30, h => absurd h (by omega)) (by show 0 + 1 + 48 + 1 ≤ 600000; omega) (by show 0 + 14 + 1612 + 30 ≤ 7302250; omega) dL_law_8 (fun q1 H3 hP3 hD3 hS => ?_)
  refine lv_dup hx hb dL_law_11 rfl ?_
  have hP4 := P_app.mpr ⟨(P_app.mp hP3).2, (P_app.mp hP3).1⟩
  have hD4 := D_swap hD3
  have hF4 := freeW hD4 hS hA
  obtain ⟨d1, d2, d3, d4, d5, d6, d7, d8⟩ := ciL_12
  refine va_callv (va_runI (As := []) (rest := [.ref q1]) ⟨hx, hb, hml, hown, hts⟩ (k_X10 θ q1 l H3.size) ⟨callB_of 0 hts (gTb d1) rfl rfl rfl (hts _ d3) (hts _ clL_12) ⟨d5, d6, d7⟩ (by constructor <;> (show _ ≤ _; simp only [rmN, room_1]; omega)), d4, hts _ d2⟩ ⟨PcN_blind, fun U hU hW => ⟨rfl, by rw [hU], by rw [hU]; exact (P_app.mp hP4).1, va_K.moved hW.alike hK, (D_left hD4).weaken (fun _ _ _ _ => trivial), by rw [hU]; exact hE.go hS.2.1 hF4 hW, hX9.warm hW⟩⟩ rfl rfl hl.1 rfl (lv_room (Nat.le_of_ble_eq_true rfl)) dL_law_12 ⟨by show 0 + 1 + 48 + 1 + 19 ≤ 600000; omega, by show 0 + 14 + 1612 + 30 + 1562 ≤ 7302250; omega⟩) hS (fun q _ h => hF4 q h) hF4 (fun wm t H5 locs5 ht hvm hw hB hz5 hk5 hS => ?_)
  obtain ⟨am, eam, ewm⟩ := hw
  obtain ⟨hP5, hD5⟩ := hB
  rw [ht] at hP5
  obtain ⟨hP6, hD6⟩ := joinW hP4 hD4 hk5 hF4 hP5 hD5
  have hP7 := P_app.mpr ⟨(P_app.mp hP6).2, (P_app.mp hP6).1⟩
  have hD7 := D_swap hD6
  refine lv_astore_n (lv' := [(2, .ref q1), (1, .ref q0), (0, .ref b)]) hx hb dL_law_15 rfl hl (by decide) rfl (fun ls hl => ?_)
  refine lv_iconst (v := nI 0) hx hb dL_law_16 (by decide) ?_
  refine lv_istore_n (lv' := [(3, .int (nI 0)), (2, .ref q1), (1, .ref q0), (0, .ref b)]) hx hb dL_law_17 rfl hl (by decide) rfl (fun ls hl => ?_)
  have ex : wx = GW (othS θ ax) shX s0X := ewx
  have em : wm = GW (othS θ am) shM s0M := ewm
  rw [ex, em] at hP7 hD7
  exact w_loop hL hx hb hr hml hown hts hX hbl hlk hK hE eax eam (by show 0 + 1 + 48 + 1 + 19 ≤ 600000; omega) (by show 0 + 14 + 1612 + 30 + 1562 ≤ 7302250; omega) hP7 hD7 hS (lv_sub hl [3, 2, 1, 0] rfl)
