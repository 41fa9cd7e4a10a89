section RU2
variable {K : KT} {cc : ByteArray} {own : String} {nL d : Nat} {θ : Site} {sx : List Shp} {Fi : Int32 → St → Prop} {Fl : Int64 → St → Prop} {Fv : St → Prop} {pc : Nat} {lv : LV} {st : List Value} {S : St}
theorem nI_inc (p : Nat) : nI p + Int32.ofInt 1 = nI (p + 1) := by rw [show Int32.ofInt 1 = 1 by decide]; exact nI_1 p
theorem q_inc1_0 (hC : Ok K cc own nL d θ sx Fi Fl Fv) {p : Nat} {tl : LV} (dg : decode cc pc = .ok (.iinc 0 1, 3)) (k : K (pc + 3) (some (.int (nI (p + 1))) :: tl) st S)  : K pc (some (.int (nI p)) :: tl) st S :=
  q_iinc_0 hC dg (nI_inc p) k 
theorem q_inc1_1 (hC : Ok K cc own nL d θ sx Fi Fl Fv) {p : Nat} {a0 : Option Value} {tl : LV} (dg : decode cc pc = .ok (.iinc 1 1, 3)) (k : K (pc + 3) (a0 :: some (.int (nI (p + 1))) :: tl) st S) (hh : nl1 a0 = true := by rfl) : K pc (a0 :: some (.int (nI p)) :: tl) st S :=
  q_iinc_1 hC dg (nI_inc p) k hh
theorem q_inc1_2 (hC : Ok K cc own nL d θ sx Fi Fl Fv) {p : Nat} {a0 a1 : Option Value} {tl : LV} (dg : decode cc pc = .ok (.iinc 2 1, 3)) (k : K (pc + 3) (a0 :: a1 :: some (.int (nI (p + 1))) :: tl) st S) (hh : nl1 a1 = true := by rfl) : K pc (a0 :: a1 :: some (.int (nI p)) :: tl) st S :=
  q_iinc_2 hC dg (nI_inc p) k hh
theorem q_inc1_3 (hC : Ok K cc own nL d θ sx Fi Fl Fv) {p : Nat} {a0 a1 a2 : Option Value} {tl : LV} (dg : decode cc pc = .ok (.iinc 3 1, 3)) (k : K (pc + 3) (a0 :: a1 :: a2 :: some (.int (nI (p + 1))) :: tl) st S) (hh : nl1 a2 = true := by rfl) : K pc (a0 :: a1 :: a2 :: some (.int (nI p)) :: tl) st S :=
  q_iinc_3 hC dg (nI_inc p) k hh
theorem q_inc1_4 (hC : Ok K cc own nL d θ sx Fi Fl Fv) {p : Nat} {a0 a1 a2 a3 : Option Value} {tl : LV} (dg : decode cc pc = .ok (.iinc 4 1, 3)) (k : K (pc + 3) (a0 :: a1 :: a2 :: a3 :: some (.int (nI (p + 1))) :: tl) st S) (hh : nl1 a3 = true := by rfl) : K pc (a0 :: a1 :: a2 :: a3 :: some (.int (nI p)) :: tl) st S :=
  q_iinc_4 hC dg (nI_inc p) k hh
theorem q_inc1_5 (hC : Ok K cc own nL d θ sx Fi Fl Fv) {p : Nat} {a0 a1 a2 a3 a4 : Option Value} {tl : LV} (dg : decode cc pc = .ok (.iinc 5 1, 3)) (k : K (pc + 3) (a0 :: a1 :: a2 :: a3 :: a4 :: some (.int (nI (p + 1))) :: tl) st S) (hh : nl1 a4 = true := by rfl) : K pc (a0 :: a1 :: a2 :: a3 :: a4 :: some (.int (nI p)) :: tl) st S :=
  q_iinc_5 hC dg (nI_inc p) k hh
theorem q_inc1_6 (hC : Ok K cc own nL d θ sx Fi Fl Fv) {p : Nat} {a0 a1 a2 a3 a4 a5 : Option Value} {tl : LV} (dg : decode cc pc = .ok (.iinc 6 1, 3)) (k : K (pc + 3) (a0 :: a1 :: a2 :: a3 :: a4 :: a5 :: some (.int (nI (p + 1))) :: tl) st S) (hh : nl1 a5 = true := by rfl) : K pc (a0 :: a1 :: a2 :: a3 :: a4 :: a5 :: some (.int (nI p)) :: tl) st S :=
  q_iinc_6 hC dg (nI_inc p) k hh
theorem q_inc1_7 (hC : Ok K cc own nL d θ sx Fi Fl Fv) {p : Nat} {a0 a1 a2 a3 a4 a5 a6 : Option Value} {tl : LV} (dg : decode cc pc = .ok (.iinc 7 1, 3)) (k : K (pc + 3) (a0 :: a1 :: a2 :: a3 :: a4 :: a5 :: a6 :: some (.int (nI (p + 1))) :: tl) st S) (hh : nl1 a6 = true := by rfl) : K pc (a0 :: a1 :: a2 :: a3 :: a4 :: a5 :: a6 :: some (.int (nI p)) :: tl) st S :=
  q_iinc_7 hC dg (nI_inc p) k hh
theorem q_inc1_8 (hC : Ok K cc own nL d θ sx Fi Fl Fv) {p : Nat} {a0 a1 a2 a3 a4 a5 a6 a7 : Option Value} {tl : LV} (dg : decode cc pc = .ok (.iinc 8 1, 3)) (k : K (pc + 3) (a0 :: a1 :: a2 :: a3 :: a4 :: a5 :: a6 :: a7 :: some (.int (nI (p + 1))) :: tl) st S) (hh : nl1 a7 = true := by rfl) : K pc (a0 :: a1 :: a2 :: a3 :: a4 :: a5 :: a6 :: a7 :: some (.int (nI p)) :: tl) st S :=
  q_iinc_8 hC dg (nI_inc p) k hh
theorem q_inc1_9 (hC : Ok K cc own nL d θ sx Fi Fl Fv) {p : Nat} {a0 a1 a2 a3 a4 a5 a6 a7 a8 : Option Value} {tl : LV} (dg : decode cc pc = .ok (.iinc 9 1, 3)) (k : K (pc + 3) (a0 :: a1 :: a2 :: a3 :: a4 :: a5 :: a6 :: a7 :: a8 :: some (.int (nI (p + 1))) :: tl) st S) (hh : nl1 a8 = true := by rfl) : K pc (a0 :: a1 :: a2 :: a3 :: a4 :: a5 :: a6 :: a7 :: a8 :: some (.int (nI p)) :: tl) st S :=
  q_iinc_9 hC dg (nI_inc p) k hh
theorem q_inc1_10 (hC : Ok K cc own nL d θ sx Fi Fl Fv) {p : Nat} {a0 a1 a2 a3 a4 a5 a6 a7 a8 a9 : Option Value} {tl : LV} (dg : decode cc pc = .ok (.iinc 10 1, 3)) (k : K (pc + 3) (a0 :: a1 :: a2 :: a3 :: a4 :: a5 :: a6 :: a7 :: a8 :: a9 :: some (.int (nI (p + 1))) :: tl) st S) (hh : nl1 a9 = true := by rfl) : K pc (a0 :: a1 :: a2 :: a3 :: a4 :: a5 :: a6 :: a7 :: a8 :: a9 :: some (.int (nI p)) :: tl) st S :=
  q_iinc_10 hC dg (nI_inc p) k hh
theorem q_inc1_11 (hC : Ok K cc own nL d θ sx Fi Fl Fv) {p : Nat} {a0 a1 a2 a3 a4 a5 a6 a7 a8 a9 a10 : Option Value} {tl : LV} (dg : decode cc pc = .ok (.iinc 11 1, 3)) (k : K (pc + 3) (a0 :: a1 :: a2 :: a3 :: a4 :: a5 :: a6 :: a7 :: a8 :: a9 :: a10 :: some (.int (nI (p + 1))) :: tl) st S) (hh : nl1 a10 = true := by rfl) : K pc (a0 :: a1 :: a2 :: a3 :: a4 :: a5 :: a6 :: a7 :: a8 :: a9 :: a10 :: some (.int (nI p)) :: tl) st S :=
  q_iinc_11 hC dg (nI_inc p) k hh
theorem q_inc1_12 (hC : Ok K cc own nL d θ sx Fi Fl Fv) {p : Nat} {a0 a1 a2 a3 a4 a5 a6 a7 a8 a9 a10 a11 : Option Value} {tl : LV} (dg : decode cc pc = .ok (.iinc 12 1, 3)) (k : K (pc + 3) (a0 :: a1 :: a2 :: a3 :: a4 :: a5 :: a6 :: a7 :: a8 :: a9 :: a10 :: a11 :: some (.int (nI (p + 1))) :: tl) st S) (hh : nl1 a11 = true := by rfl) : K pc (a0 :: a1 :: a2 :: a3 :: a4 :: a5 :: a6 :: a7 :: a8 :: a9 :: a10 :: a11 :: some (.int (nI p)) :: tl) st S :=
  q_iinc_12 hC dg (nI_inc p) k hh
theorem q_inc1_13 (hC : Ok K cc own nL d θ sx Fi Fl Fv) {p : Nat} {a0 a1 a2 a3 a4 a5 a6 a7 a8 a9 a10 a11 a12 : Option Value} {tl : LV} (dg : decode cc pc = .ok (.iinc 13 1, 3)) (k : K (pc + 3) (a0 :: a1 :: a2 :: a3 :: a4 :: a5 :: a6 :: a7 :: a8 :: a9 :: a10 :: a11 :: a12 :: some (.int (nI (p + 1))) :: tl) st S) (hh : nl1 a12 = true := by rfl) : K pc (a0 :: a1 :: a2 :: a3 :: a4 :: a5 :: a6 :: a7 :: a8 :: a9 :: a10 :: a11 :: a12 :: some (.int (nI p)) :: tl) st S :=
  q_iinc_13 hC dg (nI_inc p) k hh
theorem q_inc1_14 (hC : Ok K cc own nL d θ sx Fi Fl Fv) {p : Nat} {a0 a1 a2 a3 a4 a5 a6 a7 a8 a9 a10 a11 a12 a13 : Option Value} {tl : LV} (dg : decode cc pc = .ok (.iinc 14 1, 3)) (k : K (pc + 3) (a0 :: a1 :: a2 :: a3 :: a4 :: a5 :: a6 :: a7 :: a8 :: a9 :: a10 :: a11 :: a12 :: a13 :: some (.int (nI (p + 1))) :: tl) st S) (hh : nl1 a13 = true := by rfl) : K pc (a0 :: a1 :: a2 :: a3 :: a4 :: a5 :: a6 :: a7 :: a8 :: a9 :: a10 :: a11 :: a12 :: a13 :: some (.int (nI p)) :: tl) st S :=
  q_iinc_14 hC dg (nI_inc p) k hh
theorem q_inc1_15 (hC : Ok K cc own nL d θ sx Fi Fl Fv) {p : Nat} {a0 a1 a2 a3 a4 a5 a6 a7 a8 a9 a10 a11 a12 a13 a14 : Option Value} {tl : LV} (dg : decode cc pc = .ok (.iinc 15 1, 3)) (k : K (pc + 3) (a0 :: a1 :: a2 :: a3 :: a4 :: a5 :: a6 :: a7 :: a8 :: a9 :: a10 :: a11 :: a12 :: a13 :: a14 :: some (.int (nI (p + 1))) :: tl) st S) (hh : nl1 a14 = true := by rfl) : K pc (a0 :: a1 :: a2 :: a3 :: a4 :: a5 :: a6 :: a7 :: a8 :: a9 :: a10 :: a11 :: a12 :: a13 :: a14 :: some (.int (nI p)) :: tl) st S :=
  q_iinc_15 hC dg (nI_inc p) k hh
theorem q_inc1_16 (hC : Ok K cc own nL d θ sx Fi Fl Fv) {p : Nat} {a0 a1 a2 a3 a4 a5 a6 a7 a8 a9 a10 a11 a12 a13 a14 a15 : Option Value} {tl : LV} (dg : decode cc pc = .ok (.iinc 16 1, 3)) (k : K (pc + 3) (a0 :: a1 :: a2 :: a3 :: a4 :: a5 :: a6 :: a7 :: a8 :: a9 :: a10 :: a11 :: a12 :: a13 :: a14 :: a15 :: some (.int (nI (p + 1))) :: tl) st S) (hh : nl1 a15 = true := by rfl) : K pc (a0 :: a1 :: a2 :: a3 :: a4 :: a5 :: a6 :: a7 :: a8 :: a9 :: a10 :: a11 :: a12 :: a13 :: a14 :: a15 :: some (.int (nI p)) :: tl) st S :=
  q_iinc_16 hC dg (nI_inc p) k hh
theorem q_inc1_17 (hC : Ok K cc own nL d θ sx Fi Fl Fv) {p : Nat} {a0 a1 a2 a3 a4 a5 a6 a7 a8 a9 a10 a11 a12 a13 a14 a15 a16 : Option Value} {tl : LV} (dg : decode cc pc = .ok (.iinc 17 1, 3)) (k : K (pc + 3) (a0 :: a1 :: a2 :: a3 :: a4 :: a5 :: a6 :: a7 :: a8 :: a9 :: a10 :: a11 :: a12 :: a13 :: a14 :: a15 :: a16 :: some (.int (nI (p + 1))) :: tl) st S) (hh : nl1 a16 = true := by rfl) : K pc (a0 :: a1 :: a2 :: a3 :: a4 :: a5 :: a6 :: a7 :: a8 :: a9 :: a10 :: a11 :: a12 :: a13 :: a14 :: a15 :: a16 :: some (.int (nI p)) :: tl) st S :=
  q_iinc_17 hC dg (nI_inc p) k hh
theorem q_inc1_18 (hC : Ok K cc own nL d θ sx Fi Fl Fv) {p : Nat} {a0 a1 a2 a3 a4 a5 a6 a7 a8 a9 a10 a11 a12 a13 a14 a15 a16 a17 : Option Value} {tl : LV} (dg : decode cc pc = .ok (.iinc 18 1, 3)) (k : K (pc + 3) (a0 :: a1 :: a2 :: a3 :: a4 :: a5 :: a6 :: a7 :: a8 :: a9 :: a10 :: a11 :: a12 :: a13 :: a14 :: a15 :: a16 :: a17 :: some (.int (nI (p + 1))) :: tl) st S) (hh : nl1 a17 = true := by rfl) : K pc (a0 :: a1 :: a2 :: a3 :: a4 :: a5 :: a6 :: a7 :: a8 :: a9 :: a10 :: a11 :: a12 :: a13 :: a14 :: a15 :: a16 :: a17 :: some (.int (nI p)) :: tl) st S :=
  q_iinc_18 hC dg (nI_inc p) k hh
theorem q_inc1_19 (hC : Ok K cc own nL d θ sx Fi Fl Fv) {p : Nat} {a0 a1 a2 a3 a4 a5 a6 a7 a8 a9 a10 a11 a12 a13 a14 a15 a16 a17 a18 : Option Value} {tl : LV} (dg : decode cc pc = .ok (.iinc 19 1, 3)) (k : K (pc + 3) (a0 :: a1 :: a2 :: a3 :: a4 :: a5 :: a6 :: a7 :: a8 :: a9 :: a10 :: a11 :: a12 :: a13 :: a14 :: a15 :: a16 :: a17 :: a18 :: some (.int (nI (p + 1))) :: tl) st S) (hh : nl1 a18 = true := by rfl) : K pc (a0 :: a1 :: a2 :: a3 :: a4 :: a5 :: a6 :: a7 :: a8 :: a9 :: a10 :: a11 :: a12 :: a13 :: a14 :: a15 :: a16 :: a17 :: a18 :: some (.int (nI p)) :: tl) st S :=
  q_iinc_19 hC dg (nI_inc p) k hh
theorem q_inc1_20 (hC : Ok K cc own nL d θ sx Fi Fl Fv) {p : Nat} {a0 a1 a2 a3 a4 a5 a6 a7 a8 a9 a10 a11 a12 a13 a14 a15 a16 a17 a18 a19 : Option Value} {tl : LV} (dg : decode cc pc = .ok (.iinc 20 1, 3)) (k : K (pc + 3) (a0 :: a1 :: a2 :: a3 :: a4 :: a5 :: a6 :: a7 :: a8 :: a9 :: a10 :: a11 :: a12 :: a13 :: a14 :: a15 :: a16 :: a17 :: a18 :: a19 :: some (.int (nI (p + 1))) :: tl) st S) (hh : nl1 a19 = true := by rfl) : K pc (a0 :: a1 :: a2 :: a3 :: a4 :: a5 :: a6 :: a7 :: a8 :: a9 :: a10 :: a11 :: a12 :: a13 :: a14 :: a15 :: a16 :: a17 :: a18 :: a19 :: some (.int (nI p)) :: tl) st S :=
  q_iinc_20 hC dg (nI_inc p) k hh
theorem q_inc1_21 (hC : Ok K cc own nL d θ sx Fi Fl Fv) {p : Nat} {a0 a1 a2 a3 a4 a5 a6 a7 a8 a9 a10 a11 a12 a13 a14 a15 a16 a17 a18 a19 a20 : Option Value} {tl : LV} (dg : decode cc pc = .ok (.iinc 21 1, 3)) (k : K (pc + 3) (a0 :: a1 :: a2 :: a3 :: a4 :: a5 :: a6 :: a7 :: a8 :: a9 :: a10 :: a11 :: a12 :: a13 :: a14 :: a15 :: a16 :: a17 :: a18 :: a19 :: a20 :: some (.int (nI (p + 1))) :: tl) st S) (hh : nl1 a20 = true := by rfl) : K pc (a0 :: a1 :: a2 :: a3 :: a4 :: a5 :: a6 :: a7 :: a8 :: a9 :: a10 :: a11 :: a12 :: a13 :: a14 :: a15 :: a16 :: a17 :: a18 :: a19 :: a20 :: some (.int (nI p)) :: tl) st S :=
  q_iinc_21 hC dg (nI_inc p) k hh
theorem q_ialdn (hC : Ok K cc own nL d θ sx Fi Fl Fv) {q n i : Nat} (hs : sx[q]? = some (.inl (0, n))) (hi : i < n) (dg : decode cc pc = .ok (.iaload, 1)) (k : K (pc + 1) lv (.int (S.1 q i) :: st) S) (hn : n ≤ 2048 := by (first | decide | assumption)) : K pc lv (.int (nI i) :: .ref (sA θ q) :: st) S := by
  refine q_iald hC hs (vp_in_nI hi (by omega)) dg ?_
  rw [nI_clamp (by omega)]; exact k
theorem q_baldn (hC : Ok K cc own nL d θ sx Fi Fl Fv) {q n i : Nat} (hs : sx[q]? = some (.inl (1, n))) (hi : i < n) (dg : decode cc pc = .ok (.baload, 1)) (k : K (pc + 1) lv (.int (S.1 q i) :: st) S) (hn : n ≤ 2048 := by (first | decide | assumption)) : K pc lv (.int (nI i) :: .ref (sA θ q) :: st) S := by
  refine q_bald hC hs (vp_in_nI hi (by omega)) dg ?_
  rw [nI_clamp (by omega)]; exact k
theorem q_zaldn (hC : Ok K cc own nL d θ sx Fi Fl Fv) {q n i : Nat} (hs : sx[q]? = some (.inl (2, n))) (hi : i < n) (dg : decode cc pc = .ok (.baload, 1)) (k : K (pc + 1) lv (.int (S.1 q i) :: st) S) (hn : n ≤ 2048 := by (first | decide | assumption)) : K pc lv (.int (nI i) :: .ref (sA θ q) :: st) S := by
  refine q_zald hC hs (vp_in_nI hi (by omega)) dg ?_
  rw [nI_clamp (by omega)]; exact k
theorem q_iastn (hC : Ok K cc own nL d θ sx Fi Fl Fv) {q n i : Nat} {v : Int32} (hs : sx[q]? = some (.inl (0, n))) (hi : i < n) (dg : decode cc pc = .ok (.iastore, 1)) (k : K (pc + 1) lv st (up S q i v)) (hn : n ≤ 2048 := by (first | decide | assumption)) : K pc lv (.int v :: .int (nI i) :: .ref (sA θ q) :: st) S := by
  refine q_iast hC hs (vp_in_nI hi (by omega)) dg ?_
  rw [nI_clamp (by omega)]; exact k
theorem q_bastn (hC : Ok K cc own nL d θ sx Fi Fl Fv) {q n i : Nat} {v : Int32} (hs : sx[q]? = some (.inl (1, n))) (hi : i < n) (dg : decode cc pc = .ok (.bastore, 1)) (k : K (pc + 1) lv st (up S q i (vp_nar .byte v))) (hn : n ≤ 2048 := by (first | decide | assumption)) : K pc lv (.int v :: .int (nI i) :: .ref (sA θ q) :: st) S := by
  refine q_bast hC hs (vp_in_nI hi (by omega)) dg ?_
  rw [nI_clamp (by omega)]; exact k
theorem q_zastn (hC : Ok K cc own nL d θ sx Fi Fl Fv) {q n i : Nat} {v : Int32} (hs : sx[q]? = some (.inl (2, n))) (hi : i < n) (dg : decode cc pc = .ok (.bastore, 1)) (k : K (pc + 1) lv st (up S q i (vp_nar .boolean v))) (hn : n ≤ 2048 := by (first | decide | assumption)) : K pc lv (.int v :: .int (nI i) :: .ref (sA θ q) :: st) S := by
  refine q_zast hC hs (vp_in_nI hi (by omega)) dg ?_
  rw [nI_clamp (by omega)]; exact k
theorem q_alenn (hC : Ok K cc own nL d θ sx Fi Fl Fv) {q t n : Nat} (hs : sx[q]? = some (.inl (t, n))) (ht : t < 3) (dg : decode cc pc = .ok (.arraylength, 1)) (k : K (pc + 1) lv (.int (nI n) :: st) S) : K pc lv (.ref (sA θ q) :: st) S := q_alen hC hs ht rfl dg k
/-- a computed value gets another face -/
theorem q_eq (hC : Ok K cc own nL d θ sx Fi Fl Fv) {x y : Int32} (h : x = y) (k : K pc lv (.int y :: st) S) : K pc lv (.int x :: st) S := h ▸ k
theorem q_eql (hC : Ok K cc own nL d θ sx Fi Fl Fv) {x y : Int64} (h : x = y) (k : K pc lv (.long y :: st) S) : K pc lv (.long x :: st) S := h ▸ k
theorem q_St (hC : Ok K cc own nL d θ sx Fi Fl Fv) {S2 : St} (h : S = S2) (k : K pc lv st S2) : K pc lv st S := h ▸ k
end RU2

-- numbers
theorem nI_small {a b : Nat} (ha : a < 2 ^ 31) (hb : b < 2 ^ 31) (h : nI a = nI b) : a = b := (nI_eq ha hb).mp h
theorem sh1 {p : Nat} (h : p < 31) : nI 1 <<< (nI p &&& 31) = nI (2 ^ p) := by
  have : ∀ p, p < 31 → nI 1 <<< (nI p &&& 31) = nI (2 ^ p) := by decide +kernel
  exact this p h
theorem bmod32 {p : Nat} (h : p < 31) : ((nI p &&& 31).toBitVec.smod 32).toNat = p := by
  have : ∀ p, p < 31 → ((nI p &&& 31).toBitVec.smod 32).toNat = p := by decide +kernel
  exact this p h
theorem shr_n {m p : Nat} (hm : m < 2 ^ 31) (h : p < 31) : nI m >>> (nI p &&& 31) = nI (m / 2 ^ p) := pk_shrN hm _ p (bmod32 h)
theorem and1_n {m : Nat} (hm : m < 2 ^ 31) : nI m &&& nI 1 = nI (m % 2) := by
  rw [pk_andN (show m < 2 ^ 32 by omega) (m := nI 1) 1 (by decide)]
theorem bit_n {m p : Nat} (hm : m < 2 ^ 31) (h : p < 31) : (nI m >>> (nI p &&& 31)) &&& nI 1 = nI (m / 2 ^ p % 2) := by
  rw [shr_n hm h, and1_n (Nat.lt_of_le_of_lt (Nat.div_le_self _ _) hm)]
theorem nI_bv {n : Nat} : (nI n).toBitVec = BitVec.ofNat 32 n := rfl
theorem or_n {a b : Nat} : nI a ||| nI b = nI (a ||| b) := by
  apply Int32.toBitVec_inj.mp
  show (nI a).toBitVec ||| (nI b).toBitVec = (nI (a ||| b)).toBitVec
  rw [nI_bv, nI_bv, nI_bv, BitVec.ofNat_or]
theorem and_n {a b : Nat} : nI a &&& nI b = nI (a &&& b) := by
  apply Int32.toBitVec_inj.mp
  show (nI a).toBitVec &&& (nI b).toBitVec = (nI (a &&& b)).toBitVec
  rw [nI_bv, nI_bv, nI_bv, BitVec.ofNat_and]
theorem or_add {m p : Nat} (h : m < 2 ^ p) : m ||| 2 ^ p = m + 2 ^ p := by
  have := Nat.two_pow_add_eq_or_of_lt h 1
  rw [Nat.mul_one] at this
  rw [Nat.or_comm, ← this, Nat.add_comm]
def b2n (b : Bool) : Nat := if b then 1 else 0
/-- the bits of the first n that have g -/
def msk (g : Nat → Bool) : Nat → Nat
  | 0 => 0
  | n + 1 => msk g n + (if g n then 2 ^ n else 0)
theorem msk_lt (g : Nat → Bool) : ∀ n, msk g n < 2 ^ n
  | 0 => by simp [msk]
  | n + 1 => by
    have := msk_lt g n
    simp only [msk, Nat.pow_succ]
    split <;> omega
theorem msk_congr {g h : Nat → Bool} : ∀ {n : Nat}, (∀ p, p < n → g p = h p) → msk g n = msk h n
  | 0, _ => rfl
  | n + 1, hh => by
    simp only [msk]
    rw [msk_congr (n := n) (fun p hp => hh p (by omega)), hh n (by omega)]
theorem msk_or (g : Nat → Bool) (n : Nat) : nI (msk g n) ||| (if g n then nI (2 ^ n) else nI 0) = nI (msk g (n + 1)) := by
  simp only [msk]
  split
  · rw [or_n, or_add (msk_lt g n)]
  · rw [or_n, Nat.or_zero, Nat.add_zero]
theorem msk_bit (g : Nat → Bool) : ∀ n p, msk g n / 2 ^ p % 2 = if p < n ∧ g p = true then 1 else 0
  | 0, p => by simp [msk]
  | n + 1, p => by
    have ih := msk_bit g n p
    have hl := msk_lt g n
    simp only [msk]
    by_cases hp : p = n
    · subst hp
      have h0 : msk g p / 2 ^ p = 0 := Nat.div_eq_of_lt hl
      split
      · rename_i hg
        rw [Nat.add_div_right _ (Nat.two_pow_pos p), h0, if_pos ⟨by omega, hg⟩]
      · rename_i hg
        rw [Nat.add_zero, h0, if_neg (fun h => hg h.2)]
    · by_cases hlt : p < n
      · have e : (if g n = true then 2 ^ n else 0) = 2 ^ p * (2 * (if g n = true then 2 ^ (n - p - 1) else 0)) := by
          split
          · rw [← Nat.mul_assoc, ← Nat.pow_succ, ← Nat.pow_add]; congr 1; omega
          · rfl
        rw [e, Nat.add_mul_div_left _ _ (Nat.two_pow_pos p), Nat.add_mul_mod_self_left, ih]
        simp only [show (p < n + 1) = True from by simp; omega, hlt, true_and]
      · have h1 : msk g n + (if g n = true then 2 ^ n else 0) < 2 ^ p := by
          have h2 : 2 ^ (n + 1) ≤ 2 ^ p := Nat.pow_le_pow_right (by omega) (by omega)
          have h3 : 2 ^ (n + 1) = 2 ^ n + 2 ^ n := by rw [Nat.pow_succ]; omega
          split <;> omega
        rw [Nat.div_eq_of_lt h1, if_neg (by omega)]

