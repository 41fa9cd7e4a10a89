/-! THE CLAIM OUT OF ONE WALK OF THE LAW'S BODY. Your part is whole_start (and what it stands on); all else here is the same for every law, but numbers. -/
def R_law : String := "PavedBanLaw"
def lw_P (b : Addr) (xs : List Int32) (args : Array Value) (s : State) : Prop := args = #[.ref b] ∧ s.IntsAt b xs ∧ xs.length ≤ 2048 ∧ (Jvm.Cond.and given_1 narrow_1).before args s = true
def lw_Q (_ : Array Value) (s : State) (o : Outcome) (t : State) : Prop := o = .returned (some (.int 1)) ∧ Framed s o t [] 600000 7302250
def lw_Z (below : List Frame) (a : Array Value) (s : State) : State → Prop := fun t => ∃ o, t.status = .running ∧ Ended t below o ∧ lw_Q a s o t
/-- the law's own end, with 1 on the stack, nothing written that was there before, its room as the claim has it -/
theorem lw_ret {p : Program} {l : Launch} {e : Env} {s : State} {m : MethodId} {below : List Frame} {meth : Method} {c : Code} {b : Nat} (hx : p.tables.exec = Jvm.exec) (hb : c.code = code) (hr : meth.sig.returnType = ret) (hlocks : meth.locks = false) {pc : Nat} {H : Heap} {ls : Array Slot} (hdg : decode code pc = .ok (.ireturn, 1)) : W p l e room_1 s m #[Value.ref b] below meth c H [] 600000 7302250 (lw_Z below #[Value.ref b] s) (F0 m pc ls [.int 1]) := by
  intro T hT X
  obtain ⟨fs, hret, hrun, hended, hW, hframe⟩ := X.leave (v := some (.int 1)) (hlocks := hlocks) (fun h => by rw [hr] at h; cases h)
  have hmeth' : T.vm.method? m = some meth := X.method'
  refine ⟨T.setFrames fs, ?_, .returned (some (.int 1)), hrun, hended, rfl, ⟨_, rfl⟩, hW, hframe⟩
  jvm_step X.here [X.here.top, hx, hb, hdg, hmeth', hr, ret, narrow_b1]
  (try refine ⟨rfl, ?_⟩); (try refine ⟨rfl, ?_⟩)
  first | (intro acts; rw [hret _ acts rfl rfl rfl]) | rw [hret _ _ rfl rfl rfl]
  exact Steps.refl _
/-- what holds at the law's entry: the machine, the code, the tables' words (any of lw_tbl by 'hts w (by decide +kernel)'), the script of L ints xs at the cell b, what the Statement gives of the start (any of its parts by flat_of_before) -/
def lw_At (p : Program) (s : State) (m : MethodId) (meth : Method) (c : Code) (b L : Nat) (xs : Nat → Int32) : Prop :=
  p.tables.exec = Jvm.exec ∧ c.code = code ∧ meth.sig.returnType = ret ∧ c.maxLocals = 4 ∧ s.vm.findClass R_law = some m.cls ∧ (∀ w ∈ lw_tbl, w.before #[Value.ref b] s = true) ∧ va_X b L xs s s.heap ∧ b < s.heap.size ∧ meth.locks = false ∧ (Jvm.Cond.and given_1 narrow_1).before #[Value.ref b] s = true
/-! ===== the law: two worlds ===== -/
abbrev KL : Type := Nat → LV → List Value → St → St → Prop
def othS (θ : Site) (ad : Nat → Nat) : Site := (sD θ, ad, sC θ, sK θ, sV θ)
def OkL (K : KL) (θ : Site) (ad : Nat → Nat) (b L : Nat) (xs : Nat → Int32) : Prop :=
  ∃ (p : Program) (l : Launch) (e : Env) (s : State) (m : MethodId) (below : List Frame) (meth : Method) (c : Code) (nc ns : Nat),
    p.tables.exec = Jvm.exec ∧ c.code = cL_law ∧ meth.sig.returnType = ret ∧ c.maxLocals = 4 ∧ s.vm.findClass RL = some m.cls ∧ (∀ w ∈ lwT, w.before #[Value.ref b] s = true) ∧ va_X b L xs s s.heap ∧ b < s.heap.size ∧ meth.locks = false ∧ va_K (sD θ) vwCl (tyC θ) s ∧ Env9 θ (fun q => s.heap.size ≤ q) s s.heap ∧ (∀ S S', va_D (fun q => s.heap.size ≤ q) (GW θ shX S ++ GW (othS θ ad) shM S')) ∧ nc ≤ 600000 ∧ ns ≤ 7302250 ∧
    K = fun pc lv st S S' => ∀ (H : Heap) (locs : List Loc) (ls : Array Slot), lv.length = 4 → lv_has ls 4 (lvA 0 lv) → va_P (sD θ) vwCl (GW θ shX S ++ GW (othS θ ad) shM S') H → va_S (fun q => s.heap.size ≤ q) s.heap H locs → W p l e room_1 s m #[Value.ref b] below meth c H locs nc ns (lw_Z below #[Value.ref b] s) (F0 m pc ls st)
theorem AA_A {θ : Site} {sx : List Shp} {S : St} {sz q : Nat} (h : AA θ sx sz q) : va_A (GW θ sx S) sz q := by
  rcases h with ⟨k, hk, e⟩ | h
  · exact Or.inl ⟨k, _, by rw [e]; exact GW_get (List.getElem?_eq_getElem hk)⟩
  · exact Or.inr h
theorem DJ_of {θ : Site} {sx : List Shp} {S : St} {A : Nat → Prop} (h : va_D A (GW θ sx S)) : DJ θ sx := fun i j hi hj e => h.1 i j _ _ (GW_get (List.getElem?_eq_getElem hi)) (GW_get (List.getElem?_eq_getElem hj)) e
section LU
variable {K : KL} {θ : Site} {ad : Nat → Nat} {b L : Nat} {xs : Nat → Int32} {pc : Nat} {lv : LV} {st : List Value} {S S' : St}
theorem l_aload_n (hC : OkL K θ ad b L xs) {n : Fin 4} {x : Nat} (dg : decode cL_law pc = .ok (.aload_n n, 1)) (k : K (pc + 1) lv (.ref x :: st) S S') (hi : lv[(n : Nat)]? = some (some (.ref x)) := by rfl) : K pc lv st S S' := by
  obtain ⟨p, l, e, s, m, below, meth, c, nc, ns, hx, hb, hr, hml, hown, hts, hX, hbl, hlk, hK, hE, hD, hnc, hns, rfl⟩ := hC
  intro H locs ls hn hl hP hS
  exact lv_aload_n hx hb dg rfl (lv_rd hl hi) (k H locs ls hn hl hP hS)
theorem l_iload_n (hC : OkL K θ ad b L xs) {n : Fin 4} {x : Int32} (dg : decode cL_law pc = .ok (.iload_n n, 1)) (k : K (pc + 1) lv (.int x :: st) S S') (hi : lv[(n : Nat)]? = some (some (.int x)) := by rfl) : K pc lv st S S' := by
  obtain ⟨p, l, e, s, m, below, meth, c, nc, ns, hx, hb, hr, hml, hown, hts, hX, hbl, hlk, hK, hE, hD, hnc, hns, rfl⟩ := hC
  intro H locs ls hn hl hP hS
  exact lv_iload_n hx hb dg rfl (lv_rd hl hi) (k H locs ls hn hl hP hS)
theorem l_iconst (hC : OkL K θ ad b L xs) {n : Int} {v : Int32} (dg : decode cL_law pc = .ok (.iconst n, 1)) (hv : Int32.ofInt n = v) (k : K (pc + 1) lv (.int v :: st) S S') : K pc lv st S S' := by
  obtain ⟨p, l, e, s, m, below, meth, c, nc, ns, hx, hb, hr, hml, hown, hts, hX, hbl, hlk, hK, hE, hD, hnc, hns, rfl⟩ := hC
  intro H locs ls hn hl hP hS
  exact lv_iconst hx hb dg hv (k H locs ls hn hl hP hS)
theorem l_bipush (hC : OkL K θ ad b L xs) {n : Int} {v : Int32} (dg : decode cL_law pc = .ok (.bipush n, 2)) (hv : (Int8.ofInt n).toInt32 = v) (k : K (pc + 2) lv (.int v :: st) S S') : K pc lv st S S' := by
  obtain ⟨p, l, e, s, m, below, meth, c, nc, ns, hx, hb, hr, hml, hown, hts, hX, hbl, hlk, hK, hE, hD, hnc, hns, rfl⟩ := hC
  intro H locs ls hn hl hP hS
  exact lv_bipush hx hb dg hv (k H locs ls hn hl hP hS)
theorem l_ldc2 (hC : OkL K θ ad b L xs) {index : Nat} {v : Int64} (dg : decode cL_law pc = .ok (.ldc2_w index, 3)) (hc : Cond.constantLong RL index v ∈ lwT) (k : K (pc + 3) lv (.long v :: st) S S') : K pc lv st S S' := by
  obtain ⟨p, l, e, s, m, below, meth, c, nc, ns, hx, hb, hr, hml, hown, hts, hX, hbl, hlk, hK, hE, hD, hnc, hns, rfl⟩ := hC
  intro H locs ls hn hl hP hS
  exact lv_ldc2 hx hb hown (hts _ hc) dg (k H locs ls hn hl hP hS)
theorem l_iadd (hC : OkL K θ ad b L xs) {x y : Int32} (dg : decode cL_law pc = .ok (.iadd, 1))  (k : K (pc + 1) lv (.int (x + y) :: st) S S') : K pc lv (.int y :: .int x :: st) S S' := by
  obtain ⟨p, l, e, s, m, below, meth, c, nc, ns, hx, hb, hr, hml, hown, hts, hX, hbl, hlk, hK, hE, hD, hnc, hns, rfl⟩ := hC
  intro H locs ls hn hl hP hS
  exact lv_iadd hx hb dg (k H locs ls hn hl hP hS)
theorem l_isub (hC : OkL K θ ad b L xs) {x y : Int32} (dg : decode cL_law pc = .ok (.isub, 1))  (k : K (pc + 1) lv (.int (x - y) :: st) S S') : K pc lv (.int y :: .int x :: st) S S' := by
  obtain ⟨p, l, e, s, m, below, meth, c, nc, ns, hx, hb, hr, hml, hown, hts, hX, hbl, hlk, hK, hE, hD, hnc, hns, rfl⟩ := hC
  intro H locs ls hn hl hP hS
  exact lv_isub hx hb dg (k H locs ls hn hl hP hS)
theorem l_iand (hC : OkL K θ ad b L xs) {x y : Int32} (dg : decode cL_law pc = .ok (.iand, 1))  (k : K (pc + 1) lv (.int (x &&& y) :: st) S S') : K pc lv (.int y :: .int x :: st) S S' := by
  obtain ⟨p, l, e, s, m, below, meth, c, nc, ns, hx, hb, hr, hml, hown, hts, hX, hbl, hlk, hK, hE, hD, hnc, hns, rfl⟩ := hC
  intro H locs ls hn hl hP hS
  exact lv_iand hx hb dg (k H locs ls hn hl hP hS)
theorem l_i2l (hC : OkL K θ ad b L xs) {x : Int32} (dg : decode cL_law pc = .ok (.i2l, 1))  (k : K (pc + 1) lv (.long x.toInt64 :: st) S S') : K pc lv (.int x :: st) S S' := by
  obtain ⟨p, l, e, s, m, below, meth, c, nc, ns, hx, hb, hr, hml, hown, hts, hX, hbl, hlk, hK, hE, hD, hnc, hns, rfl⟩ := hC
  intro H locs ls hn hl hP hS
  exact lv_i2l hx hb dg rfl (k H locs ls hn hl hP hS)
theorem l_lshl (hC : OkL K θ ad b L xs) {x : Int64} {y : Int32} (dg : decode cL_law pc = .ok (.lshl, 1))  (k : K (pc + 1) lv (.long (x <<< (y.toInt64 &&& 63)) :: st) S S') : K pc lv (.int y :: .long x :: st) S S' := by
  obtain ⟨p, l, e, s, m, below, meth, c, nc, ns, hx, hb, hr, hml, hown, hts, hX, hbl, hlk, hK, hE, hD, hnc, hns, rfl⟩ := hC
  intro H locs ls hn hl hP hS
  exact lv_lshl hx hb dg rfl (k H locs ls hn hl hP hS)
theorem l_land (hC : OkL K θ ad b L xs) {x y : Int64} (dg : decode cL_law pc = .ok (.land, 1))  (k : K (pc + 1) lv (.long (x &&& y) :: st) S S') : K pc lv (.long y :: .long x :: st) S S' := by
  obtain ⟨p, l, e, s, m, below, meth, c, nc, ns, hx, hb, hr, hml, hown, hts, hX, hbl, hlk, hK, hE, hD, hnc, hns, rfl⟩ := hC
  intro H locs ls hn hl hP hS
  exact lv_land hx hb dg (k H locs ls hn hl hP hS)
theorem l_lor (hC : OkL K θ ad b L xs) {x y : Int64} (dg : decode cL_law pc = .ok (.lor, 1))  (k : K (pc + 1) lv (.long (x ||| y) :: st) S S') : K pc lv (.long y :: .long x :: st) S S' := by
  obtain ⟨p, l, e, s, m, below, meth, c, nc, ns, hx, hb, hr, hml, hown, hts, hX, hbl, hlk, hK, hE, hD, hnc, hns, rfl⟩ := hC
  intro H locs ls hn hl hP hS
  exact lv_lor hx hb dg (k H locs ls hn hl hP hS)
theorem l_lcmp (hC : OkL K θ ad b L xs) {x y : Int64} (dg : decode cL_law pc = .ok (.lcmp, 1))  (k : K (pc + 1) lv (.int (lg_cmp x y) :: st) S S') : K pc lv (.long y :: .long x :: st) S S' := by
  obtain ⟨p, l, e, s, m, below, meth, c, nc, ns, hx, hb, hr, hml, hown, hts, hX, hbl, hlk, hK, hE, hD, hnc, hns, rfl⟩ := hC
  intro H locs ls hn hl hP hS
  exact W.lcmp hx hb dg (k H locs ls hn hl hP hS)
theorem l_sld (hC : OkL K θ ad b L xs) {i : Nat} (dg : decode cL_law pc = .ok (.iaload, 1)) (hi : i < L) (hL : L ≤ 2048) (k : K (pc + 1) lv (.int (xs i) :: st) S S') : K pc lv (.int (nI i) :: .ref b :: st) S S' := by
  obtain ⟨p, l, e, s, m, below, meth, c, nc, ns, hx, hb, hr, hml, hown, hts, hX, hbl, hlk, hK, hE, hD, hnc, hns, rfl⟩ := hC
  intro H locs ls hn hl hP hS
  exact va_sld hx hb hX hbl (Nat.not_le.mpr hbl) hS (vp_in_nI hi (by omega)) dg (by rw [nI_clamp (by omega)]; exact (k H locs ls hn hl hP hS))
theorem l_slen (hC : OkL K θ ad b L xs)  (dg : decode cL_law pc = .ok (.arraylength, 1))  (k : K (pc + 1) lv (.int (nI L) :: st) S S') : K pc lv (.ref b :: st) S S' := by
  obtain ⟨p, l, e, s, m, below, meth, c, nc, ns, hx, hb, hr, hml, hown, hts, hX, hbl, hlk, hK, hE, hD, hnc, hns, rfl⟩ := hC
  intro H locs ls hn hl hP hS
  exact va_slen hx hb hX hbl (Nat.not_le.mpr hbl) hS dg (k H locs ls hn hl hP hS)
theorem l_goto (hC : OkL K θ ad b L xs) {off : Int} (tgt : Nat) (dg : decode cL_law pc = .ok (.goto off, 3)) (ht : (pc : Int) + off = (tgt : Int)) (k : K tgt lv st S S') : K pc lv st S S' := by
  obtain ⟨p, l, e, s, m, below, meth, c, nc, ns, hx, hb, hr, hml, hown, hts, hX, hbl, hlk, hK, hE, hD, hnc, hns, rfl⟩ := hC
  intro H locs ls hn hl hP hS
  exact lv_goto hx hb dg ht (k H locs ls hn hl hP hS)
theorem l_icmp_eq (hC : OkL K θ ad b L xs) {x y : Int32} {off : Int} (tgt : Nat) (dg : decode cL_law pc = .ok (.if_icmp .eq off, 3)) (ht : (pc : Int) + off = (tgt : Int)) (kt : x = y → K tgt lv st S S') (kf : ¬ x = y → K (pc + 3) lv st S S') : K pc lv (.int y :: .int x :: st) S S' := by
  obtain ⟨p, l, e, s, m, below, meth, c, nc, ns, hx, hb, hr, hml, hown, hts, hX, hbl, hlk, hK, hE, hD, hnc, hns, rfl⟩ := hC
  intro H locs ls hn hl hP hS
  exact lv_icmp_eq hx hb dg ht (fun h => kt h H locs ls hn hl hP hS) (fun h => kf h H locs ls hn hl hP hS)
theorem l_icmp_gt (hC : OkL K θ ad b L xs) {x y : Int32} {off : Int} (tgt : Nat) (dg : decode cL_law pc = .ok (.if_icmp .gt off, 3)) (ht : (pc : Int) + off = (tgt : Int)) (kt : y < x → K tgt lv st S S') (kf : ¬ y < x → K (pc + 3) lv st S S') : K pc lv (.int y :: .int x :: st) S S' := by
  obtain ⟨p, l, e, s, m, below, meth, c, nc, ns, hx, hb, hr, hml, hown, hts, hX, hbl, hlk, hK, hE, hD, hnc, hns, rfl⟩ := hC
  intro H locs ls hn hl hP hS
  exact lv_icmp_gt hx hb dg ht (fun h => kt h H locs ls hn hl hP hS) (fun h => kf h H locs ls hn hl hP hS)
theorem l_if_eq (hC : OkL K θ ad b L xs) {x : Int32} {off : Int} (tgt : Nat) (dg : decode cL_law pc = .ok (.ifCond .eq off, 3)) (ht : (pc : Int) + off = (tgt : Int)) (kt : x = 0 → K tgt lv st S S') (kf : ¬ x = 0 → K (pc + 3) lv st S S') : K pc lv (.int x :: st) S S' := by
  obtain ⟨p, l, e, s, m, below, meth, c, nc, ns, hx, hb, hr, hml, hown, hts, hX, hbl, hlk, hK, hE, hD, hnc, hns, rfl⟩ := hC
  intro H locs ls hn hl hP hS
  exact lv_if_eq hx hb dg ht (fun h => kt h H locs ls hn hl hP hS) (fun h => kf h H locs ls hn hl hP hS)
theorem l_iinc_3 (hC : OkL K θ ad b L xs) {n : Int} {x v : Int32} {a0 a1 a2 : Option Value} (dg : decode cL_law pc = .ok (.iinc 3 n, 3)) (hv : x + Int32.ofInt n = v) (k : K (pc + 3) [a0, a1, a2, some (.int v)] st S S') (hh : nl1 a2 = true := by rfl) : K pc [a0, a1, a2, some (.int x)] st S S' := by
  obtain ⟨p, l, e, s, m, below, meth, c, nc, ns, hx, hb, hr, hml, hown, hts, hX, hbl, hlk, hK, hE, hD, hnc, hns, rfl⟩ := hC
  intro H locs ls hn hl hP hS
  obtain ⟨q, hq⟩ := List.getElem?_of_mem ((lvA_mem [a0, a1, a2, some (.int x)] 0 3 (.int x)).mpr ⟨3, by omega, rfl⟩)
  exact lv_iinc hx hb dg hl hq hv (by decide) rfl (fun ls' hl' => k H locs ls' rfl (lv_st1 (i := 3) hl' (by simp) (nlg_i (i := 2) rfl (nl1_ok hh))) hP hS)
theorem l_tabIn (hC : OkL K θ ad b L xs) {dflt lo hi : Int} {offs : Array Int} {len : Nat} {x : Int32} {off : Int} {tgt : Nat} (dg : decode cL_law pc = .ok (.tableswitch dflt lo hi offs, len)) (h1 : ¬ x.toInt < lo) (h2 : ¬ hi < x.toInt) (ho : offs[(x.toInt - lo).toNat]? = some off) (ht : (pc : Int) + off = (tgt : Int)) (k : K tgt lv st S S') : K pc lv (.int x :: st) S S' := by
  obtain ⟨p, l, e, s, m, below, meth, c, nc, ns, hx, hb, hr, hml, hown, hts, hX, hbl, hlk, hK, hE, hD, hnc, hns, rfl⟩ := hC
  intro H locs ls hn hl hP hS
  exact lv_tableIn hx hb dg h1 h2 ho ht (k H locs ls hn hl hP hS)
theorem l_tabOut (hC : OkL K θ ad b L xs) {dflt lo hi : Int} {offs : Array Int} {len : Nat} {x : Int32} {tgt : Nat} (dg : decode cL_law pc = .ok (.tableswitch dflt lo hi offs, len)) (h : x.toInt < lo ∨ hi < x.toInt) (ht : (pc : Int) + dflt = (tgt : Int)) (k : K tgt lv st S S') : K pc lv (.int x :: st) S S' := by
  obtain ⟨p, l, e, s, m, below, meth, c, nc, ns, hx, hb, hr, hml, hown, hts, hX, hbl, hlk, hK, hE, hD, hnc, hns, rfl⟩ := hC
  intro H locs ls hn hl hP hS
  exact lv_tableOut hx hb dg h ht (k H locs ls hn hl hP hS)
theorem l_ret (hC : OkL K θ ad b L xs) (dg : decode cL_law pc = .ok (.ireturn, 1)) : K pc lv [.int 1] S S' := by
  obtain ⟨p, l, e, s, m, below, meth, c, nc, ns, hx, hb, hr, hml, hown, hts, hX, hbl, hlk, hK, hE, hD, hnc, hns, rfl⟩ := hC
  intro H locs ls hn hl hP hS
  refine va_forget (fun q hq => hS.2.2 q hq) ?_
  exact W.widen (k := 600000) (n := 7302250) hnc hns (lw_ret hx hb hr hlk dg)
/-- the locals of the loop in another face -/
theorem l_lv (hC : OkL K θ ad b L xs) {lv2 : LV} (h : lv = lv2) (k : K pc lv2 st S S') : K pc lv st S S' := h ▸ k
theorem l_xi (hC : OkL K θ ad b L xs) {idx ml n : Nat} {y : MethodName} {bs : ByteArray} {As stk : List Value} {P : Int32 → St → Prop} (cv : CV RL idx y bs ml (some .int) n 9) (dg : decode cL_law pc = .ok (.invokevirtual idx, 3)) (hM : Cti y bs ml (some .int) 20 θ shX (.ref (sA θ 0) :: As) S P) (hstk : stk = As.reverse ++ .ref (sA θ 0) :: st) (hAs : As.length = n) (kk : ∀ r S1, P r S1 → K (pc + 3) lv (.int r :: st) S1 S') (hst : (st.map fun v => v.category).sum ≤ 8 := by (first | exact Nat.le_of_ble_eq_true rfl | decide)) : K pc lv stk S S' := by
  obtain ⟨p, l, e, s, m, below, meth, c, nc, ns, hx, hb, hr, hml, hown, hts, hX, hbl, hlk, hK, hE, hD, hnc, hns, rfl⟩ := hC
  intro H locs ls hn hl hP hS
  obtain ⟨c1, c2, c3, c4, c5, c6, c7, c8, c9, T, N, c10⟩ := cv
  have hP' := hP
  have hD' := hD S S'
  have hJ : DJ θ shX := DJ_of (D_left hD')
  have hA : ∀ q : Nat, s.heap.size ≤ q → (fun q : Nat => s.heap.size ≤ q) q := fun _ h => h
  have hF := freeW hD' hS hA
  subst hstk
  refine va_calli (va_runV (As := As) (rest := st) ⟨hx, hb, hml, hown, hts⟩ (hM l H.size) ⟨callB_of n hts (gTb c1) rfl rfl rfl (hts _ c5) (hts _ c2) ⟨c6, c7, c8⟩ (by constructor <;> (show _ ≤ _; simp only [rmD, room_1]; omega)), hts _ c3, hts _ c4⟩ ⟨PcW_blind, va_recv (D := sD θ) (cl := vwCl) (ci := 9) (q0 := 0) hK (P_app.mp hP').1 c10 (GW_get sX_0), fun U hU hW => ⟨rfl, by rw [hU], by rw [hU]; exact (P_app.mp hP').1, va_K.moved hW.alike hK, hJ, by rw [hU]; exact hE.go hS.2.1 (fun q h => hF q (AA_A h)) hW⟩⟩ rfl hAs hl.1 rfl (lv_room hst) dg ⟨by show nc + 0 ≤ 600000; omega, by show ns + 0 ≤ 7302250; omega⟩) hS (fun q _ h => hF q (AA_A h)) (fun q h => hF q (AA_A h)) (fun r u t H1 locs1 ht hvm hw hB hz1 hk1 hS1 => ?_)
  have hB1 : va_P (sD θ) vwCl (GW θ shX u) H1 := by rw [← ht]; exact hB
  obtain ⟨j1, -⟩ := joinW (w1 := GW θ shX u) hP' hD' (fun q g1 g2 => hk1 q g1 (fun w => g2 (AA_A w))) hF hB1 ((GW_D hJ).weaken (fun _ _ _ h => AA_A h))
  exact kk r u hw H1 locs1 ls hn hl j1 hS1
theorem l_xl (hC : OkL K θ ad b L xs) {idx ml n : Nat} {y : MethodName} {bs : ByteArray} {As stk : List Value} {P : Int64 → St → Prop} (cv : CV RL idx y bs ml (some .long) n 9) (dg : decode cL_law pc = .ok (.invokevirtual idx, 3)) (hM : Ctl y bs ml (some .long) 20 θ shX (.ref (sA θ 0) :: As) S P) (hstk : stk = As.reverse ++ .ref (sA θ 0) :: st) (hAs : As.length = n) (kk : ∀ r S1, P r S1 → K (pc + 3) lv (.long r :: st) S1 S') (hst : (st.map fun v => v.category).sum ≤ 8 := by (first | exact Nat.le_of_ble_eq_true rfl | decide)) : K pc lv stk S S' := by
  obtain ⟨p, l, e, s, m, below, meth, c, nc, ns, hx, hb, hr, hml, hown, hts, hX, hbl, hlk, hK, hE, hD, hnc, hns, rfl⟩ := hC
  intro H locs ls hn hl hP hS
  obtain ⟨c1, c2, c3, c4, c5, c6, c7, c8, c9, T, N, c10⟩ := cv
  have hP' := hP
  have hD' := hD S S'
  have hJ : DJ θ shX := DJ_of (D_left hD')
  have hA : ∀ q : Nat, s.heap.size ≤ q → (fun q : Nat => s.heap.size ≤ q) q := fun _ h => h
  have hF := freeW hD' hS hA
  subst hstk
  refine va_calll (va_runV (As := As) (rest := st) ⟨hx, hb, hml, hown, hts⟩ (hM l H.size) ⟨callB_of n hts (gTb c1) rfl rfl rfl (hts _ c5) (hts _ c2) ⟨c6, c7, c8⟩ (by constructor <;> (show _ ≤ _; simp only [rmD, room_1]; omega)), hts _ c3, hts _ c4⟩ ⟨PcW_blind, va_recv (D := sD θ) (cl := vwCl) (ci := 9) (q0 := 0) hK (P_app.mp hP').1 c10 (GW_get sX_0), fun U hU hW => ⟨rfl, by rw [hU], by rw [hU]; exact (P_app.mp hP').1, va_K.moved hW.alike hK, hJ, by rw [hU]; exact hE.go hS.2.1 (fun q h => hF q (AA_A h)) hW⟩⟩ rfl hAs hl.1 rfl (lv_room hst) dg ⟨by show nc + 0 ≤ 600000; omega, by show ns + 0 ≤ 7302250; omega⟩) hS (fun q _ h => hF q (AA_A h)) (fun q h => hF q (AA_A h)) (fun r u t H1 locs1 ht hvm hw hB hz1 hk1 hS1 => ?_)
  have hB1 : va_P (sD θ) vwCl (GW θ shX u) H1 := by rw [← ht]; exact hB
  obtain ⟨j1, -⟩ := joinW (w1 := GW θ shX u) hP' hD' (fun q g1 g2 => hk1 q g1 (fun w => g2 (AA_A w))) hF hB1 ((GW_D hJ).weaken (fun _ _ _ h => AA_A h))
  exact kk r u hw H1 locs1 ls hn hl j1 hS1
theorem l_mi (hC : OkL K θ ad b L xs) {idx ml n : Nat} {y : MethodName} {bs : ByteArray} {As stk : List Value} {P : Int32 → St → Prop} (cv : CV RL idx y bs ml (some .int) n 10) (dg : decode cL_law pc = .ok (.invokevirtual idx, 3)) (hM : Cti y bs ml (some .int) 20 (othS θ ad) shM (.ref (sA (othS θ ad) 0) :: As) S' P) (hstk : stk = As.reverse ++ .ref (sA (othS θ ad) 0) :: st) (hAs : As.length = n) (kk : ∀ r S1, P r S1 → K (pc + 3) lv (.int r :: st) S S1) (hst : (st.map fun v => v.category).sum ≤ 8 := by (first | exact Nat.le_of_ble_eq_true rfl | decide)) : K pc lv stk S S' := by
  obtain ⟨p, l, e, s, m, below, meth, c, nc, ns, hx, hb, hr, hml, hown, hts, hX, hbl, hlk, hK, hE, hD, hnc, hns, rfl⟩ := hC
  intro H locs ls hn hl hP hS
  obtain ⟨c1, c2, c3, c4, c5, c6, c7, c8, c9, T, N, c10⟩ := cv
  have hP' : va_P (sD θ) vwCl (GW (othS θ ad) shM S' ++ GW θ shX S) H := P_app.mpr ⟨(P_app.mp hP).2, (P_app.mp hP).1⟩
  have hD' := D_swap (hD S S')
  have hJ : DJ (othS θ ad) shM := DJ_of (D_left hD')
  have hA : ∀ q : Nat, s.heap.size ≤ q → (fun q : Nat => s.heap.size ≤ q) q := fun _ h => h
  have hF := freeW hD' hS hA
  subst hstk
  refine va_calli (va_runV (As := As) (rest := st) ⟨hx, hb, hml, hown, hts⟩ (hM l H.size) ⟨callB_of n hts (gTb c1) rfl rfl rfl (hts _ c5) (hts _ c2) ⟨c6, c7, c8⟩ (by constructor <;> (show _ ≤ _; simp only [rmD, room_1]; omega)), hts _ c3, hts _ c4⟩ ⟨PcW_blind, va_recv (D := sD θ) (cl := vwCl) (ci := 10) (q0 := 0) hK (P_app.mp hP').1 c10 (GW_get sM_0), fun U hU hW => ⟨rfl, by rw [hU], by rw [hU]; exact (P_app.mp hP').1, va_K.moved hW.alike hK, hJ, by rw [hU]; exact hE.go hS.2.1 (fun q h => hF q (AA_A h)) hW⟩⟩ rfl hAs hl.1 rfl (lv_room hst) dg ⟨by show nc + 0 ≤ 600000; omega, by show ns + 0 ≤ 7302250; omega⟩) hS (fun q _ h => hF q (AA_A h)) (fun q h => hF q (AA_A h)) (fun r u t H1 locs1 ht hvm hw hB hz1 hk1 hS1 => ?_)
  have hB1 : va_P (sD θ) vwCl (GW (othS θ ad) shM u) H1 := by rw [← ht]; exact hB
  obtain ⟨j1, -⟩ := joinW (w1 := GW (othS θ ad) shM u) hP' hD' (fun q g1 g2 => hk1 q g1 (fun w => g2 (AA_A w))) hF hB1 ((GW_D hJ).weaken (fun _ _ _ h => AA_A h))
  exact kk r u hw H1 locs1 ls hn hl (P_app.mpr ⟨(P_app.mp j1).2, (P_app.mp j1).1⟩) hS1
theorem l_ml (hC : OkL K θ ad b L xs) {idx ml n : Nat} {y : MethodName} {bs : ByteArray} {As stk : List Value} {P : Int64 → St → Prop} (cv : CV RL idx y bs ml (some .long) n 10) (dg : decode cL_law pc = .ok (.invokevirtual idx, 3)) (hM : Ctl y bs ml (some .long) 20 (othS θ ad) shM (.ref (sA (othS θ ad) 0) :: As) S' P) (hstk : stk = As.reverse ++ .ref (sA (othS θ ad) 0) :: st) (hAs : As.length = n) (kk : ∀ r S1, P r S1 → K (pc + 3) lv (.long r :: st) S S1) (hst : (st.map fun v => v.category).sum ≤ 8 := by (first | exact Nat.le_of_ble_eq_true rfl | decide)) : K pc lv stk S S' := by
  obtain ⟨p, l, e, s, m, below, meth, c, nc, ns, hx, hb, hr, hml, hown, hts, hX, hbl, hlk, hK, hE, hD, hnc, hns, rfl⟩ := hC
  intro H locs ls hn hl hP hS
  obtain ⟨c1, c2, c3, c4, c5, c6, c7, c8, c9, T, N, c10⟩ := cv
  have hP' : va_P (sD θ) vwCl (GW (othS θ ad) shM S' ++ GW θ shX S) H := P_app.mpr ⟨(P_app.mp hP).2, (P_app.mp hP).1⟩
  have hD' := D_swap (hD S S')
  have hJ : DJ (othS θ ad) shM := DJ_of (D_left hD')
  have hA : ∀ q : Nat, s.heap.size ≤ q → (fun q : Nat => s.heap.size ≤ q) q := fun _ h => h
  have hF := freeW hD' hS hA
  subst hstk
  refine va_calll (va_runV (As := As) (rest := st) ⟨hx, hb, hml, hown, hts⟩ (hM l H.size) ⟨callB_of n hts (gTb c1) rfl rfl rfl (hts _ c5) (hts _ c2) ⟨c6, c7, c8⟩ (by constructor <;> (show _ ≤ _; simp only [rmD, room_1]; omega)), hts _ c3, hts _ c4⟩ ⟨PcW_blind, va_recv (D := sD θ) (cl := vwCl) (ci := 10) (q0 := 0) hK (P_app.mp hP').1 c10 (GW_get sM_0), fun U hU hW => ⟨rfl, by rw [hU], by rw [hU]; exact (P_app.mp hP').1, va_K.moved hW.alike hK, hJ, by rw [hU]; exact hE.go hS.2.1 (fun q h => hF q (AA_A h)) hW⟩⟩ rfl hAs hl.1 rfl (lv_room hst) dg ⟨by show nc + 0 ≤ 600000; omega, by show ns + 0 ≤ 7302250; omega⟩) hS (fun q _ h => hF q (AA_A h)) (fun q h => hF q (AA_A h)) (fun r u t H1 locs1 ht hvm hw hB hz1 hk1 hS1 => ?_)
  have hB1 : va_P (sD θ) vwCl (GW (othS θ ad) shM u) H1 := by rw [← ht]; exact hB
  obtain ⟨j1, -⟩ := joinW (w1 := GW (othS θ ad) shM u) hP' hD' (fun q g1 g2 => hk1 q g1 (fun w => g2 (AA_A w))) hF hB1 ((GW_D hJ).weaken (fun _ _ _ h => AA_A h))
  exact kk r u hw H1 locs1 ls hn hl (P_app.mpr ⟨(P_app.mp j1).2, (P_app.mp j1).1⟩) hS1
end LU
