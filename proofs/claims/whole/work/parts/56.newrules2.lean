theorem P_sub {D : va_G} {ws ws' : va_W} {H : Heap} (h : va_P D vwCl ws H) (is : List Nat) (hs : is.map (fun i => ws[i]?) = ws'.map some) : va_P D vwCl ws' H := by
  intro k q hk
  have h1 : (is.map (fun i => ws[i]?))[k]? = some (some q) := by rw [hs, List.getElem?_map, hk]; rfl
  rw [List.getElem?_map] at h1
  cases hi : is[k]? with
  | none => rw [hi] at h1; cases h1
  | some i => rw [hi] at h1; exact h i q (Option.some.inj h1)
theorem D_crossM {A : Nat → Prop} {a b : va_W} (h : va_D A (a ++ b)) {x y : Nat × va_E} (hx : x ∈ a) (hy : y ∈ b) : x.1 ≠ y.1 := by
  obtain ⟨i, hi⟩ := List.getElem?_of_mem hx
  obtain ⟨j, hj⟩ := List.getElem?_of_mem hy
  exact D_cross h hi hj
theorem D_mid {A : Nat → Prop} {a b c : va_W} (h : va_D A (a ++ (b ++ c))) : va_D A (a ++ (c ++ b)) := va_D.app (D_left h) (D_swap (D_right h)) (fun i j x y hx hy => D_crossM h (List.mem_of_getElem? hx) (by have := List.mem_of_getElem? hy; simp only [List.mem_append] at this ⊢; exact this.symm))
theorem P_ins {D : va_G} {h x : Nat × va_E} {R : va_W} {H : Heap} (hP : va_P D vwCl ((h :: R) ++ [x]) H) : va_P D vwCl (h :: x :: R) H := by
  obtain ⟨a, b⟩ := P_app.mp hP
  obtain ⟨a1, a2⟩ := (P_app (a := [h])).mp a
  exact (P_app (a := [h])).mpr ⟨a1, (P_app (a := [x])).mpr ⟨b, a2⟩⟩
theorem rA_eq {s : State} {θ : Site} (hK : va_K (sD θ) vwCl (tyC θ) s) {t : Nat} {cA : ClassId} {ty : FieldType} (ht : (tyC θ)[t]? = some (sC θ t, ty)) (h : va_RA s cA ty) : cA = sC θ t := by
  have h0 := (hK.2 t _ ht).2
  cases ty with
  | object C =>
    obtain ⟨_, _, -, -, -, g⟩ := h
    obtain ⟨_, _, -, -, -, g2⟩ := h0
    exact Option.some.inj (g.symm.trans g2)
  | _ => exact Option.some.inj (Eq.trans (Eq.symm h) h0)
section NU
variable {K : KN} {cc : ByteArray} {own : String} {nL d mc ms : Nat} {θ : Site} {Fv : va_W → Prop} {pc : Nat} {lv : LV} {st : List Value} {ws : va_W} {cells slots : Nat}
theorem n_aload_n (hC : OkN K cc own nL d mc ms θ Fv) {n : Fin 4} {x : Nat} (dg : decode cc pc = .ok (.aload_n n, 1)) (k : K (pc + 1) lv (.ref x :: st) ws cells slots) (hi : lv[(n : Nat)]? = some (some (.ref x)) := by rfl) : K pc lv st ws cells slots := by
  obtain ⟨p, l, e, s, m, args, below, meth, c, Q, A, hx, hb, hml, hown, hts, hK, hin, hA, hE, hX, rv, rfl⟩ := hC
  intro H locs ls hn hl hP hD hS
  exact lv_aload_n hx hb dg rfl (lv_rd hl hi) (k H locs ls hn hl hP hD hS)
theorem n_iload_n (hC : OkN K cc own nL d mc ms θ Fv) {n : Fin 4} {x : Int32} (dg : decode cc pc = .ok (.iload_n n, 1)) (k : K (pc + 1) lv (.int x :: st) ws cells slots) (hi : lv[(n : Nat)]? = some (some (.int x)) := by rfl) : K pc lv st ws cells slots := by
  obtain ⟨p, l, e, s, m, args, below, meth, c, Q, A, hx, hb, hml, hown, hts, hK, hin, hA, hE, hX, rv, rfl⟩ := hC
  intro H locs ls hn hl hP hD hS
  exact lv_iload_n hx hb dg rfl (lv_rd hl hi) (k H locs ls hn hl hP hD hS)
theorem n_iconst (hC : OkN K cc own nL d mc ms θ Fv) {n : Int} {v : Int32} (dg : decode cc pc = .ok (.iconst n, 1)) (hv : Int32.ofInt n = v) (k : K (pc + 1) lv (.int v :: st) ws cells slots) : K pc lv st ws cells slots := by
  obtain ⟨p, l, e, s, m, args, below, meth, c, Q, A, hx, hb, hml, hown, hts, hK, hin, hA, hE, hX, rv, rfl⟩ := hC
  intro H locs ls hn hl hP hD hS
  exact lv_iconst hx hb dg hv (k H locs ls hn hl hP hD hS)
theorem n_bipush (hC : OkN K cc own nL d mc ms θ Fv) {n : Int} {v : Int32} (dg : decode cc pc = .ok (.bipush n, 2)) (hv : (Int8.ofInt n).toInt32 = v) (k : K (pc + 2) lv (.int v :: st) ws cells slots) : K pc lv st ws cells slots := by
  obtain ⟨p, l, e, s, m, args, below, meth, c, Q, A, hx, hb, hml, hown, hts, hK, hin, hA, hE, hX, rv, rfl⟩ := hC
  intro H locs ls hn hl hP hD hS
  exact lv_bipush hx hb dg hv (k H locs ls hn hl hP hD hS)
theorem n_sipush (hC : OkN K cc own nL d mc ms θ Fv) {n : Int} {v : Int32} (dg : decode cc pc = .ok (.sipush n, 3)) (hv : (Int16.ofInt n).toInt32 = v) (k : K (pc + 3) lv (.int v :: st) ws cells slots) : K pc lv st ws cells slots := by
  obtain ⟨p, l, e, s, m, args, below, meth, c, Q, A, hx, hb, hml, hown, hts, hK, hin, hA, hE, hX, rv, rfl⟩ := hC
  intro H locs ls hn hl hP hD hS
  exact lv_sipush hx hb dg hv (k H locs ls hn hl hP hD hS)
theorem n_lconst (hC : OkN K cc own nL d mc ms θ Fv) {n : Fin 2} {v : Int64} (dg : decode cc pc = .ok (.lconst n, 1)) (hv : Int64.ofNat (n : Nat) = v) (k : K (pc + 1) lv (.long v :: st) ws cells slots) : K pc lv st ws cells slots := by
  obtain ⟨p, l, e, s, m, args, below, meth, c, Q, A, hx, hb, hml, hown, hts, hK, hin, hA, hE, hX, rv, rfl⟩ := hC
  intro H locs ls hn hl hP hD hS
  exact lv_lconst hx hb dg hv (k H locs ls hn hl hP hD hS)
theorem n_ldc (hC : OkN K cc own nL d mc ms θ Fv) {index : Nat} {v : Int32} (dg : decode cc pc = .ok (.ldc index, 2)) (hc : Cond.constant own index v ∈ lwT) (k : K (pc + 2) lv (.int v :: st) ws cells slots) : K pc lv st ws cells slots := by
  obtain ⟨p, l, e, s, m, args, below, meth, c, Q, A, hx, hb, hml, hown, hts, hK, hin, hA, hE, hX, rv, rfl⟩ := hC
  intro H locs ls hn hl hP hD hS
  exact lv_ldc hx hb hown (hts _ hc) dg (k H locs ls hn hl hP hD hS)
theorem n_dup (hC : OkN K cc own nL d mc ms θ Fv) {va : Value} (dg : decode cc pc = .ok (.dup, 1)) (h1 : va.category = 1) (k : K (pc + 1) lv (va :: va :: st) ws cells slots) : K pc lv (va :: st) ws cells slots := by
  obtain ⟨p, l, e, s, m, args, below, meth, c, Q, A, hx, hb, hml, hown, hts, hK, hin, hA, hE, hX, rv, rfl⟩ := hC
  intro H locs ls hn hl hP hD hS
  exact lv_dup hx hb dg h1 (k H locs ls hn hl hP hD hS)
theorem n_goto (hC : OkN K cc own nL d mc ms θ Fv) {off : Int} (tgt : Nat) (dg : decode cc pc = .ok (.goto off, 3)) (ht : (pc : Int) + off = (tgt : Int)) (k : K tgt lv st ws cells slots) : K pc lv st ws cells slots := by
  obtain ⟨p, l, e, s, m, args, below, meth, c, Q, A, hx, hb, hml, hown, hts, hK, hin, hA, hE, hX, rv, rfl⟩ := hC
  intro H locs ls hn hl hP hD hS
  exact lv_goto hx hb dg ht (k H locs ls hn hl hP hD hS)
theorem n_icmp_ge (hC : OkN K cc own nL d mc ms θ Fv) {x y : Int32} {off : Int} (tgt : Nat) (dg : decode cc pc = .ok (.if_icmp .ge off, 3)) (ht : (pc : Int) + off = (tgt : Int)) (kt : y ≤ x → K tgt lv st ws cells slots) (kf : ¬ y ≤ x → K (pc + 3) lv st ws cells slots) : K pc lv (.int y :: .int x :: st) ws cells slots := by
  obtain ⟨p, l, e, s, m, args, below, meth, c, Q, A, hx, hb, hml, hown, hts, hK, hin, hA, hE, hX, rv, rfl⟩ := hC
  intro H locs ls hn hl hP hD hS
  exact lv_icmp_ge hx hb dg ht (fun h => kt h H locs ls hn hl hP hD hS) (fun h => kf h H locs ls hn hl hP hD hS)
theorem n_istore_1 (hC : OkN K cc own nL d mc ms θ Fv) {x : Int32} {a0 o : Option Value} {tl : LV} (dg : decode cc pc = .ok (.istore_n 1, 1)) (k : K (pc + 1) (a0 :: some (.int x) :: tl) st ws cells slots) (hh : nl1 a0 = true := by rfl) : K pc (a0 :: o :: tl) (.int x :: st) ws cells slots := by
  obtain ⟨p, l, e, s, m, args, below, meth, c, Q, A, hx, hb, hml, hown, hts, hK, hin, hA, hE, hX, rv, rfl⟩ := hC
  intro H locs ls hn hl hP hD hS
  exact lv_istore_n (lv' := _) hx hb dg rfl hl (by simp only [List.length_cons] at hn; omega) rfl (fun ls' hl' => k H locs ls' (by simpa using hn) (lv_st1 (i := 1) hl' (by simp) (nlg_i (i := 0) rfl (nl1_ok hh))) hP hD hS)
theorem n_iinc_1 (hC : OkN K cc own nL d mc ms θ Fv) {n : Int} {x v : Int32} {a0 : Option Value} {tl : LV} (dg : decode cc pc = .ok (.iinc 1 n, 3)) (hv : x + Int32.ofInt n = v) (k : K (pc + 3) (a0 :: some (.int v) :: tl) st ws cells slots) (hh : nl1 a0 = true := by rfl) : K pc (a0 :: some (.int x) :: tl) st ws cells slots := by
  obtain ⟨p, l, e, s, m, args, below, meth, c, Q, A, hx, hb, hml, hown, hts, hK, hin, hA, hE, hX, rv, rfl⟩ := hC
  intro H locs ls hn hl hP hD hS
  obtain ⟨q, hq⟩ := List.getElem?_of_mem ((lvA_mem (a0 :: some (.int x) :: tl) 0 1 (.int x)).mpr ⟨1, by omega, rfl⟩)
  exact lv_iinc hx hb dg hl hq hv (by simp only [List.length_cons] at hn; omega) rfl (fun ls' hl' => k H locs ls' (by simpa using hn) (lv_st1 (i := 1) hl' (by simp) (nlg_i (i := 0) rfl (nl1_ok hh))) hP hD hS)
theorem n_vret (hC : OkN K cc own nL d mc ms θ Fv) (dg : decode cc pc = .ok (.return_, 1)) (h : Fv ws) (h1 : cells ≤ mc := by exact Nat.le_of_ble_eq_true rfl) (h2 : slots ≤ ms := by exact Nat.le_of_ble_eq_true rfl) : K pc lv [] ws cells slots := by
  obtain ⟨p, l, e, s, m, args, below, meth, c, Q, A, hx, hb, hml, hown, hts, hK, hin, hA, hE, hX, rv, rfl⟩ := hC
  intro H locs ls hn hl hP hD hS
  exact W.widen (k := mc) (n := ms) h1 h2 (rv pc ls ws H locs dg h hP hD hS)
theorem n_objInit (hC : OkN K cc own nL d mc ms θ Fv) {idx a : Nat} (hl0 : Cond.methodLink own idx objectInit ∈ lwT) (dg : decode cc pc = .ok (.invokespecial idx, 3)) (k : K (pc + 3) lv st ws cells slots) (hd : 1 ≤ d := by decide) (hst : (st.map fun v => v.category).sum ≤ 8 := by (first | exact Nat.le_of_ble_eq_true rfl | decide)) : K pc lv (.ref a :: st) ws cells slots := by
  obtain ⟨p, l, e, s, m, args, below, meth, c, Q, A, hx, hb, hml, hown, hts, hK, hin, hA, hE, hX, rv, rfl⟩ := hC
  intro H locs ls hn hl hP hD hS
  refine W.objInit hx hb hown (hts _ hl0) (hts _ wOI) (hts _ wOC) rfl (by rw [hml]; exact hl.1) rfl dg (by show 1 ≤ d; exact hd) (Nat.le_trans (Nat.add_le_add_right (lv_room hst) 12) (by show 20 ≤ 80 * d; omega)) ?_
  exact (k H locs ls hn hl hP hD hS)
/-- cells in another order, or fewer -/
theorem n_sub (hC : OkN K cc own nL d mc ms θ Fv) {ws' : va_W} (is : List Nat) (k : K pc lv st ws' cells slots) (hs : is.map (fun i => ws[i]?) = ws'.map some := by rfl) (hn0 : va_nd is = true := by decide) : K pc lv st ws cells slots := by
  obtain ⟨p, l, e, s, m, args, below, meth, c, Q, A, hx, hb, hml, hown, hts, hK, hin, hA, hE, hX, rv, rfl⟩ := hC
  intro H locs ls hn hl hP hD hS
  exact k H locs ls hn hl (P_sub hP is hs) (hD.sub is hn0 hs) hS
theorem n_ws (hC : OkN K cc own nL d mc ms θ Fv) {ws' : va_W} (h : ws = ws') (k : K pc lv st ws' cells slots) : K pc lv st ws cells slots := h ▸ k
theorem n_getR (hC : OkN K cc own nL d mc ms θ Fv) {a ci j idx r : Nat} {fs : List Value} {R : va_W} (fl : FL own idx ci j) (dg : decode cc pc = .ok (.getfield idx, 3)) (k : K (pc + 3) lv (.ref r :: st) ((a, .inr (ci, fs)) :: R) cells slots) (hj : fs[j]? = some (.ref r) := by rfl) : K pc lv (.ref a :: st) ((a, .inr (ci, fs)) :: R) cells slots := by
  obtain ⟨p, l, e, s, m, args, below, meth, c, Q, A, hx, hb, hml, hown, hts, hK, hin, hA, hE, hX, rv, rfl⟩ := hC
  intro H locs ls hn hl hP hD hS
  obtain ⟨C, T, N, f1, f2, f3, f4⟩ := fl
  exact va_get (D := sD θ) (cl := vwCl) (tys := tyC θ) (C := C) (T := T) (N := N) hx hb hts (clW f1) hown hK hP 0 rfl f1 j f2 (hts _ f3) (fun x h => by rw [f4] at h; exact h) (v := .ref r) hj dg (k H locs ls hn hl hP hD hS)
theorem n_put (hC : OkN K cc own nL d mc ms θ Fv) {a ci j idx : Nat} {ty : FieldType} {v : Value} {fs fs1 : List Value} {R : va_W} (fl : FP own idx ci j ty) (dg : decode cc pc = .ok (.putfield idx, 3)) (k : K (pc + 3) lv st ((a, .inr (ci, fs1)) :: R) cells slots) (he : fs.set j v = fs1 := by rfl) (h1 : narrow ty v = v := by rfl) (h2 : fits ty v = true := by rfl) (hj : j < fs.length := by exact Nat.le_of_ble_eq_true rfl) : K pc lv (v :: .ref a :: st) ((a, .inr (ci, fs)) :: R) cells slots := by
  obtain ⟨p, l, e, s, m, args, below, meth, c, Q, A, hx, hb, hml, hown, hts, hK, hin, hA, hE, hX, rv, rfl⟩ := hC
  intro H locs ls hn hl hP hD hS
  obtain ⟨⟨C, T, N, f1, f2, f3, f4⟩, f5⟩ := fl
  obtain ⟨f6, f7⟩ := f5 C T N f1
  subst he
  obtain ⟨ty0, g1, g2⟩ := clT f1
  exact va_put (D := sD θ) (cl := vwCl) (tys := tyC θ) (A := A) (C := C) (T := T) (N := N) hx hb hts (clW f1) ty0 g1 g2 hown hK hP hD hS 0 rfl f1 j f2 (hts _ f3) (fun x h => by rw [f4] at h; exact h) f6 (ty := ty) (v := v) f7 h1 h2 hj dg (fun H1 locs1 hP1 hD1 hS1 => k H1 locs1 ls hn hl hP1 hD1 hS1)
theorem n_putF (hC : OkN K cc own nL d mc ms θ Fv) {a ci j idx : Nat} {ty : FieldType} {v : Value} {fs fs1 : List Value} {R : va_W} (fl : FQ own idx ci j ty) (dg : decode cc pc = .ok (.putfield idx, 3)) (k : K (pc + 3) lv st ((a, .inr (ci, fs1)) :: R) cells slots) (he : fs.set j v = fs1 := by rfl) (h1 : narrow ty v = v := by rfl) (h2 : fits ty v = true := by rfl) (hj : j < fs.length := by exact Nat.le_of_ble_eq_true rfl) : K pc lv (v :: .ref a :: st) ((a, .inr (ci, fs)) :: R) cells slots := by
  obtain ⟨p, l, e, s, m, args, below, meth, c, Q, A, hx, hb, hml, hown, hts, hK, hin, hA, hE, hX, rv, rfl⟩ := hC
  intro H locs ls hn hl hP hD hS
  obtain ⟨⟨C, T, N, f1, f2, f3, f4⟩, f5⟩ := fl
  obtain ⟨f6, f8, f7⟩ := f5 C T N f1
  subst he
  obtain ⟨ty0, g1, g2⟩ := clT f1
  exact va_putF (D := sD θ) (cl := vwCl) (tys := tyC θ) (A := A) (C := C) (T := T) (N := N) hx hb hts (clW f1) ty0 g1 g2 hown hK hP hD hS 0 rfl f1 j f2 (hts _ f3) (fun x h => by rw [f4] at h; exact h) f6 hin f8 (ty := ty) (v := v) f7 h1 h2 hj dg (fun H1 locs1 hP1 hD1 hS1 => k H1 locs1 ls hn hl hP1 hD1 hS1)
theorem n_new (hC : OkN K cc own nL d mc ms θ Fv) {ci idx N : Nat} {C : String} {T : u_T} {h : Nat × va_E} {R : va_W} (fs : List Value) (nw : NWc own idx ci C T N) (ty0 : Nat → FieldType) (hty : ∀ k, k < N → parseFieldDescriptor (T k).2.2.1 = some (ty0 k)) (hfs : ∀ j, j < N → defaultValue (ty0 j) = vp_V fs j) (dg : decode cc pc = .ok (.new idx, 3)) (k : ∀ q, K (pc + 3) lv (.ref q :: st) (h :: (q, .inr (ci, fs)) :: R) (cells + 1) (slots + N)) (h1 : cells + 1 ≤ mc := by exact Nat.le_of_ble_eq_true rfl) (h2 : slots + N ≤ ms := by exact Nat.le_of_ble_eq_true rfl) : K pc lv st (h :: R) cells slots := by
  obtain ⟨p, l, e, s, m, args, below, meth, c, Q, A, hx, hb, hml, hown, hts, hK, hin, hA, hE, hX, rv, rfl⟩ := hC
  intro H locs ls hn hl hP hD hS
  obtain ⟨w1, w2, w3, w4⟩ := nw
  refine va_new (D := sD θ) (cl := vwCl) (tys := tyC θ) (A := A) (C := C) (T := T) (N := N) hx hb hts (clW w1) ty0 hty hown (hts _ w2) (hts _ w3) (hts _ w4) hK hP hD hS hA w1 hfs h1 h2 dg (fun q H1 hP1 hD1 hS1 => k q H1 locs ls hn hl ?_ ?_ hS1)
  · obtain ⟨a, b⟩ := P_app.mp hP1
    obtain ⟨a1, a2⟩ := (P_app (a := [h])).mp a
    exact (P_app (a := [h])).mpr ⟨a1, (P_app (a := [_])).mpr ⟨b, a2⟩⟩
  · have hD2 : va_D A ([h] ++ (R ++ [(q, .inr (ci, fs))])) := hD1
    exact D_mid hD2
theorem n_newa (hC : OkN K cc own nL d mc ms θ Fv) {n t : Nat} {h : Nat × va_E} {R : va_W} {at0 : ArrayType} {ty : FieldType} (ht : (tyC θ)[t]? = some (sC θ t, ty)) (hat : newarray.typeOf at0 = ty) (hw : Cond.arrayClass ty ∈ lwT) (hdv : defaultValue ty = .int 0) (hcb : componentBytes ty ≤ 8) (dg : decode cc pc = .ok (.newarray at0, 2)) (k : ∀ q, K (pc + 2) lv (.ref q :: st) (h :: (q, .inl (sC θ t, n, .inl (fun _ => 0))) :: R) (cells + 1) (slots + n)) (hn9 : n ≤ 2048 := by exact Nat.le_of_ble_eq_true rfl) (h1 : cells + 1 ≤ mc := by exact Nat.le_of_ble_eq_true rfl) (h2 : slots + n ≤ ms := by exact Nat.le_of_ble_eq_true rfl) : K pc lv (.int (nI n) :: st) (h :: R) cells slots := by
  obtain ⟨p, l, e, s, m, args, below, meth, c, Q, A, hx, hb, hml, hown, hts, hK, hin, hA, hE, hX, rv, rfl⟩ := hC
  intro H locs ls hn hl hP hD hS
  refine va_newa (D := sD θ) (cl := vwCl) (tys := tyC θ) (A := A) (ty := ty) (a0 := (n, .inl (fun _ => 0))) hx hb (by rw [hat]; exact hts _ hw) hat hK hP hD hS hA (fun cA => by rw [hdv]; rfl) (nI_pos (by omega)) (nI_clamp (by omega)) (by have : n * componentBytes ty ≤ 2048 * 8 := Nat.mul_le_mul hn9 hcb; omega) h1 h2 dg (fun q cA H1 hK1 hP1 hD1 hS1 => ?_)
  have e : cA = sC θ t := rA_eq hK ht (hK1.2 4 (cA, ty) rfl).2
  subst e
  exact k q H1 locs ls hn hl (P_ins hP1) (D_mid (a := [h]) (b := R) (c := [_]) hD1) hS1
theorem n_newq (hC : OkN K cc own nL d mc ms θ Fv) {n idx : Nat} {h : Nat × va_E} {R : va_W} (hcl : Cond.classLink own idx "PavedBan$Now" ∈ lwT) (dg : decode cc pc = .ok (.anewarray idx, 3)) (k : ∀ q, K (pc + 3) lv (.ref q :: st) (h :: (q, .inl (sC θ 3, n, .inr (.inr (.inr (.inr (fun _ => none)))))) :: R) (cells + 1) (slots + n)) (hn9 : n ≤ 2048 := by exact Nat.le_of_ble_eq_true rfl) (h1 : cells + 1 ≤ mc := by exact Nat.le_of_ble_eq_true rfl) (h2 : slots + n ≤ ms := by exact Nat.le_of_ble_eq_true rfl) : K pc lv (.int (nI n) :: st) (h :: R) cells slots := by
  obtain ⟨p, l, e, s, m, args, below, meth, c, Q, A, hx, hb, hml, hown, hts, hK, hin, hA, hE, hX, rv, rfl⟩ := hC
  intro H locs ls hn hl hP hD hS
  refine va_newq (D := sD θ) (cl := vwCl) (tys := tyC θ) (A := A) hx hb hown (hts _ hcl) hX.2.2 hK hP hD hS hA (nI_pos (by omega)) (nI_clamp (by omega)) (by omega) h1 h2 dg (fun q cA H1 hK1 hP1 hD1 hS1 => ?_)
  have e : cA = sC θ 3 := rA_eq (t := 3) hK rfl (hK1.2 4 (cA, .object "PavedBan$Now") rfl).2
  subst e
  exact k q H1 locs ls hn hl (P_ins hP1) (D_mid (a := [h]) (b := R) (c := [_]) hD1) hS1
theorem n_astq (hC : OkN K cc own nL d mc ms θ Fv) {a n v i : Nat} {vs : List Value} {f : Nat → Option Nat} {R : va_W} {h : Nat × va_E} (hi : i < n) (dg : decode cc pc = .ok (.aastore, 1)) (k : K (pc + 1) lv st (h :: (a, .inl (sC θ 3, n, .inr (.inr (.inr (.inr (va_up f i (some v))))))) :: (v, .inr (3, vs)) :: R) cells slots) (hn9 : n ≤ 2048 := by exact Nat.le_of_ble_eq_true rfl) : K pc lv (.ref v :: .int (nI i) :: .ref a :: st) (h :: (a, .inl (sC θ 3, n, .inr (.inr (.inr (.inr f))))) :: (v, .inr (3, vs)) :: R) cells slots := by
  obtain ⟨p, l, e, s, m, args, below, meth, c, Q, A, hx, hb, hml, hown, hts, hK, hin, hA, hE, hX, rv, rfl⟩ := hC
  intro H locs ls hn hl hP hD hS
  refine va_astq (D := sD θ) (cl := vwCl) (tys := tyC θ) (A := A) (r := (RX3, TX3, 5)) hx hb hK hP hD hS 1 3 2 3 rfl rfl rfl rfl (vp_in_nI hi (by omega)) dg (fun H1 locs1 hP1 hD1 hS1 => ?_)
  rw [nI_clamp (by omega)] at hP1 hD1
  exact k H1 locs1 ls hn hl hP1 hD1 hS1
theorem n_callI (hC : OkN K cc own nL d mc ms θ Fv) {idx ml d2 n mc2 ms2 a : Nat} {y : MethodName} {bs : ByteArray} {As : List Value} {x : va_E} {h : Nat × va_E} {R : va_W} {P : va_W → Prop} {stk : List Value} (ci : CIw own idx y bs ml n) (hlk : Cond.methodLink own idx y ∈ lwT) (dg : decode cc pc = .ok (.invokespecial idx, 3)) (hM : Ctn y bs ml d2 mc2 ms2 θ [(a, x)] (.ref a :: As) P) (hstk : stk = As.reverse ++ .ref a :: st) (hAs : As.length = n) (hd : d2 + 1 ≤ d) (kk : ∀ w, P w → K (pc + 3) lv st (h :: (w ++ R)) (cells + mc2) (slots + ms2)) (h1 : cells + mc2 ≤ mc := by exact Nat.le_of_ble_eq_true rfl) (h2 : slots + ms2 ≤ ms := by exact Nat.le_of_ble_eq_true rfl) (hst : (st.map fun v => v.category).sum ≤ 8 := by (first | exact Nat.le_of_ble_eq_true rfl | decide)) : K pc lv stk (h :: (a, x) :: R) cells slots := by
  obtain ⟨p, l, e, s, m, args, below, meth, c, Q, A, hx, hb, hml, hown, hts, hK, hin, hA, hE, hX, rv, rfl⟩ := hC
  intro H locs ls hn hl hP hD hS
  obtain ⟨c1, c2, c3, c4, c5, c6, c7, c8⟩ := ci
  have hP' : va_P (sD θ) vwCl ([(a, x)] ++ ([h] ++ R)) H := by
    obtain ⟨p1, p2⟩ := (P_app (a := [h])).mp hP
    obtain ⟨p3, p4⟩ := (P_app (a := [(a, x)])).mp p2
    exact P_app.mpr ⟨p3, P_app.mpr ⟨p1, p4⟩⟩
  have hD' : va_D A ([(a, x)] ++ ([h] ++ R)) := by
    have hD1 : va_D A ([h] ++ ([(a, x)] ++ R)) := hD
    have hD2 := D_swap (D_mid hD1)
    have hD3 : va_D A ((R ++ [(a, x)]) ++ [h]) := hD2
    have hD4 := D_swap hD3
    have hD5 : va_D A ([h] ++ (R ++ [(a, x)])) := hD4
    have hD6 : va_D A (([h] ++ R) ++ [(a, x)]) := by rw [List.append_assoc]; exact hD5
    exact D_swap hD6
  have hF := freeW hD' hS hA
  subst hstk
  refine va_callv (va_runI (As := As) (rest := st) ⟨hx, hb, hml, hown, hts⟩ (hM l H.size) ⟨callB_of n hts (gTb c1) rfl rfl rfl (hts _ c3) (hts _ hlk) ⟨c5, c6, c7⟩ (by constructor <;> (show _ ≤ _; simp only [rmN]; omega)), c4, hts _ c2⟩ ⟨PcN_blind, fun U hU hW => ⟨rfl, by rw [hU], by rw [hU]; exact (P_app.mp hP').1, va_K.moved hW.alike hK, (D_left hD').weaken (fun _ _ _ _ => trivial), by rw [hU]; exact hE.go hS.2.1 hF hW, hX.warm hW⟩⟩ rfl hAs hl.1 rfl (lv_room hst) dg ⟨h1, h2⟩) hS (fun q _ h => hF q h) hF (fun w t H1 locs1 ht hvm hw hB hz1 hk1 hS1 => ?_)
  obtain ⟨hP1, hD1⟩ := hB
  rw [ht] at hP1
  obtain ⟨j1, j2⟩ := joinW hP' hD' hk1 hF hP1 hD1
  refine kk w hw H1 locs1 ls hn hl ?_ ?_ hS1
  · obtain ⟨p1, p2⟩ := P_app.mp j1
    obtain ⟨p3, p4⟩ := P_app.mp p2
    exact (P_app (a := [h])).mpr ⟨p3, P_app.mpr ⟨p1, p4⟩⟩
  · have e1 : va_D A (([h] ++ R) ++ w) := D_swap j2
    have e2 : va_D A ([h] ++ (R ++ w)) := by rw [← List.append_assoc]; exact e1
    exact D_mid e2
theorem n_callIN (hC : OkN K cc own nL d mc ms θ Fv) {idx ml d2 n mc2 ms2 a : Nat} {y : MethodName} {bs : ByteArray} {As : List Value} {x : va_E} {h : Nat × va_E} {R : va_W} {P : va_W → Prop} {stk : List Value} (ci : CIw own idx y bs ml n) (hlk : ∀ U, Ex9 U → va_Nw (.methodLinkNest own idx y "PavedBan") U) (dg : decode cc pc = .ok (.invokespecial idx, 3)) (hM : Ctn y bs ml d2 mc2 ms2 θ [(a, x)] (.ref a :: As) P) (hstk : stk = As.reverse ++ .ref a :: st) (hAs : As.length = n) (hd : d2 + 1 ≤ d) (kk : ∀ w, P w → K (pc + 3) lv st (h :: (w ++ R)) (cells + mc2) (slots + ms2)) (h1 : cells + mc2 ≤ mc := by exact Nat.le_of_ble_eq_true rfl) (h2 : slots + ms2 ≤ ms := by exact Nat.le_of_ble_eq_true rfl) (hst : (st.map fun v => v.category).sum ≤ 8 := by (first | exact Nat.le_of_ble_eq_true rfl | decide)) : K pc lv stk (h :: (a, x) :: R) cells slots := by
  obtain ⟨p, l, e, s, m, args, below, meth, c, Q, A, hx, hb, hml, hown, hts, hK, hin, hA, hE, hX, rv, rfl⟩ := hC
  intro H locs ls hn hl hP hD hS
  obtain ⟨c1, c2, c3, c4, c5, c6, c7, c8⟩ := ci
  have hP' : va_P (sD θ) vwCl ([(a, x)] ++ ([h] ++ R)) H := by
    obtain ⟨p1, p2⟩ := (P_app (a := [h])).mp hP
    obtain ⟨p3, p4⟩ := (P_app (a := [(a, x)])).mp p2
    exact P_app.mpr ⟨p3, P_app.mpr ⟨p1, p4⟩⟩
  have hD' : va_D A ([(a, x)] ++ ([h] ++ R)) := by
    have hD1 : va_D A ([h] ++ ([(a, x)] ++ R)) := hD
    have hD2 := D_swap (D_mid hD1)
    have hD3 : va_D A ((R ++ [(a, x)]) ++ [h]) := hD2
    have hD4 := D_swap hD3
    have hD5 : va_D A ([h] ++ (R ++ [(a, x)])) := hD4
    have hD6 : va_D A (([h] ++ R) ++ [(a, x)]) := by rw [List.append_assoc]; exact hD5
    exact D_swap hD6
  have hF := freeW hD' hS hA
  subst hstk
  refine va_callv (va_runIN (As := As) (rest := st) ⟨hx, hb, hml, hown, hts⟩ (hM l H.size) ⟨va_cnB n hts (gTb c1) rfl rfl rfl (hlk s hX) (hts _ c3) ⟨c5, c6, c7⟩ (by constructor <;> (show _ ≤ _; simp only [rmN]; omega)), c4, hts _ c2⟩ ⟨PcN_blind, fun U hU hW => ⟨rfl, by rw [hU], by rw [hU]; exact (P_app.mp hP').1, va_K.moved hW.alike hK, (D_left hD').weaken (fun _ _ _ _ => trivial), by rw [hU]; exact hE.go hS.2.1 hF hW, hX.warm hW⟩⟩ rfl hAs hl.1 rfl (lv_room hst) dg ⟨h1, h2⟩) hS (fun q _ h => hF q h) hF (fun w t H1 locs1 ht hvm hw hB hz1 hk1 hS1 => ?_)
  obtain ⟨hP1, hD1⟩ := hB
  rw [ht] at hP1
  obtain ⟨j1, j2⟩ := joinW hP' hD' hk1 hF hP1 hD1
  refine kk w hw H1 locs1 ls hn hl ?_ ?_ hS1
  · obtain ⟨p1, p2⟩ := P_app.mp j1
    obtain ⟨p3, p4⟩ := P_app.mp p2
    exact (P_app (a := [h])).mpr ⟨p3, P_app.mpr ⟨p1, p4⟩⟩
  · have e1 : va_D A (([h] ++ R) ++ w) := D_swap j2
    have e2 : va_D A ([h] ++ (R ++ w)) := by rw [← List.append_assoc]; exact e1
    exact D_mid e2
theorem n_fill (hC : OkN K cc own nL d mc ms θ Fv) {idx q n : Nat} {v : Int32} {f : Nat → Int32} {R : va_W} (cv : CSt own idx yJ7_fill_53178 cJ7_fill_53178 4 none 2) (hnn : n ≤ 2048) (dg : decode cc pc = .ok (.invokestatic idx, 3)) (kk : K (pc + 3) lv st ((q, .inl (sC θ 0, n, .inl (fun j => if j < n then v else f j))) :: R) cells slots) (hd : 1 ≤ d := by decide) (h1 : cells + 0 ≤ mc := by exact Nat.le_of_ble_eq_true rfl) (h2 : slots + 0 ≤ ms := by exact Nat.le_of_ble_eq_true rfl) (hst : (st.map fun v => v.category).sum ≤ 8 := by (first | exact Nat.le_of_ble_eq_true rfl | decide)) : K pc lv (.int v :: .ref q :: st) ((q, .inl (sC θ 0, n, .inl f)) :: R) cells slots := by
  obtain ⟨p, l, e, s, m, args, below, meth, c, Q, A, hx, hb, hml, hown, hts, hK, hin, hA, hE, hX, rv, rfl⟩ := hC
  intro H locs ls hn hl hP hD hS
  obtain ⟨c1, c2, c3, c5, c6, c7, c8, c9⟩ := cv
  have hP' : va_P (sD θ) vwCl ([(q, .inl (sC θ 0, n, .inl f))] ++ R) H := hP
  have hD' : va_D A ([(q, .inl (sC θ 0, n, .inl f))] ++ R) := hD
  have hF := freeW hD' hS hA
  have hAA : ∀ z, AA ((sD θ, (fun _ => q), sC θ, sK θ, sV θ) : Site) [.inl (0, n)] H.size z → va_A [(q, .inl (sC θ 0, n, .inl f))] H.size z := by
    intro z hz
    rcases hz with ⟨k, hk, e⟩ | hz
    · exact Or.inl ⟨0, _, by rw [e]; rfl⟩
    · exact Or.inr hz
  have hM := c_fillG (sD θ, (fun _ => q), sC θ, sK θ, sV θ) [.inl (0, n)] ((fun _ => f), fun _ _ => 0) 0 n v hnn rfl
  refine va_callv (va_runS (As := [.ref q, .int v]) (rest := st) ⟨hx, hb, hml, hown, hts⟩ (hM l H.size) ⟨callB_of 2 hts (gTb c1) rfl rfl rfl (hts _ c5) (hts _ c2) ⟨c6, c7, c8⟩ (by constructor <;> (show _ ≤ _; simp only [rmD, rmN]; omega)), hts _ c3⟩ ⟨PcW_blind, fun U hU hW => ⟨rfl, by rw [hU], by rw [hU]; exact (P_app.mp hP').1, va_K.moved hW.alike hK, fun i j hi hj _ => by have : i < 1 := hi; have : j < 1 := hj; omega, by rw [hU]; exact hE.go hS.2.1 (fun z hz => hF z (hAA z hz)) hW⟩⟩ rfl rfl hl.1 rfl (lv_room hst) dg ⟨h1, h2⟩) hS (fun z _ h => hF z (hAA z h)) (fun z h => hF z (hAA z h)) (fun u t H1 locs1 ht hvm hw hB hz1 hk1 hS1 => ?_)
  subst hw
  have hB1 : va_P (sD θ) vwCl [(q, .inl (sC θ 0, n, .inl (fun j => if j < n then v else f j)))] H1 := by rw [← ht]; exact hB
  have hk2 : ∀ z : Nat, z < H.size → ¬ va_A [(q, .inl (sC θ 0, n, .inl f))] H.size z → H1[z]? = H[z]? := fun z g1 g2 => hk1 z g1 (fun w => g2 (hAA z w))
  obtain ⟨j1, j2⟩ := joinW (w1 := [(q, .inl (sC θ 0, n, .inl (fun j => if j < n then v else f j)))]) hP' hD' hk2 hF hB1 ⟨fun i j x y hi hj _ => by have := (List.getElem?_eq_some_iff.mp hi).1; have := (List.getElem?_eq_some_iff.mp hj).1; simp only [List.length_cons, List.length_nil] at *; omega, fun k z hk => by
    have hz : k < 1 := (List.getElem?_eq_some_iff.mp hk).1
    rw [show k = 0 by omega] at hk
    cases hk
    exact Or.inl ⟨0, _, rfl⟩⟩
  exact kk H1 locs1 ls hn hl j1 j2 hS1
end NU
