/-! the five words of the reader, as the machine has them -/
section RUS
variable {K : KT} {cc : ByteArray} {own : String} {nL d : Nat} {θ : Site} {sx : List Shp} {Fi : Int32 → St → Prop} {Fl : Int64 → St → Prop} {Fv : St → Prop} {pc : Nat} {lv : LV} {st : List Value} {S : St}
theorem q_ldcS0 (hC : Ok K cc "PavedBan$Reader" nL d θ sx Fi Fl Fv) (dg : decode cc pc = .ok (.ldc 119, 2)) (k : K (pc + 2) lv (.ref (sK θ 0) :: st) S) : K pc lv st S := by
  obtain ⟨p, l, e, s, m, args, below, meth, c, Q, hx, hb, hml, hown, hts, hK, hJ, hE, ri, rl, rv, rfl⟩ := hC
  intro H locs ls hn hl hP hS
  exact va_ldcS hx hb hown hE.2.2.2.1 dg (k H locs ls hn hl hP hS)
theorem q_ldcS1 (hC : Ok K cc "PavedBan$Reader" nL d θ sx Fi Fl Fv) (dg : decode cc pc = .ok (.ldc 125, 2)) (k : K (pc + 2) lv (.ref (sK θ 1) :: st) S) : K pc lv st S := by
  obtain ⟨p, l, e, s, m, args, below, meth, c, Q, hx, hb, hml, hown, hts, hK, hJ, hE, ri, rl, rv, rfl⟩ := hC
  intro H locs ls hn hl hP hS
  exact va_ldcS hx hb hown hE.2.2.2.2.1 dg (k H locs ls hn hl hP hS)
theorem q_ldcS2 (hC : Ok K cc "PavedBan$Reader" nL d θ sx Fi Fl Fv) (dg : decode cc pc = .ok (.ldc 127, 2)) (k : K (pc + 2) lv (.ref (sK θ 2) :: st) S) : K pc lv st S := by
  obtain ⟨p, l, e, s, m, args, below, meth, c, Q, hx, hb, hml, hown, hts, hK, hJ, hE, ri, rl, rv, rfl⟩ := hC
  intro H locs ls hn hl hP hS
  exact va_ldcS hx hb hown hE.2.2.2.2.2.1 dg (k H locs ls hn hl hP hS)
theorem q_ldcS3 (hC : Ok K cc "PavedBan$Reader" nL d θ sx Fi Fl Fv) (dg : decode cc pc = .ok (.ldc 129, 2)) (k : K (pc + 2) lv (.ref (sK θ 3) :: st) S) : K pc lv st S := by
  obtain ⟨p, l, e, s, m, args, below, meth, c, Q, hx, hb, hml, hown, hts, hK, hJ, hE, ri, rl, rv, rfl⟩ := hC
  intro H locs ls hn hl hP hS
  exact va_ldcS hx hb hown hE.2.2.2.2.2.2.1 dg (k H locs ls hn hl hP hS)
theorem q_ldcS4 (hC : Ok K cc "PavedBan$Reader" nL d θ sx Fi Fl Fv) (dg : decode cc pc = .ok (.ldc 131, 2)) (k : K (pc + 2) lv (.ref (sK θ 4) :: st) S) : K pc lv st S := by
  obtain ⟨p, l, e, s, m, args, below, meth, c, Q, hx, hb, hml, hown, hts, hK, hJ, hE, ri, rl, rv, rfl⟩ := hC
  intro H locs ls hn hl hP hS
  exact va_ldcS hx hb hown hE.2.2.2.2.2.2.2 dg (k H locs ls hn hl hP hS)
theorem q_sval (hC : Ok K cc own nL d θ sx Fi Fl Fv) {i idx : Nat} (hi : i < 5) (hln : Cond.fieldLink own idx "java/lang/String" "value" "[B" ∈ lwT) (dg : decode cc pc = .ok (.getfield idx, 3)) (k : K (pc + 3) lv (.ref (sV θ i) :: st) S) : K pc lv (.ref (sK θ i) :: st) S := by
  obtain ⟨p, l, e, s, m, args, below, meth, c, Q, hx, hb, hml, hown, hts, hK, hJ, hE, ri, rl, rv, rfl⟩ := hC
  intro H locs ls hn hl hP hS
  exact vk_getf hx hb (hE.1.1 i hi).2.2.1 hS hown (hts _ hln) (fun x h => h) dg (k H locs ls hn hl hP hS)
theorem q_scod (hC : Ok K cc own nL d θ sx Fi Fl Fv) {i idx : Nat} (hi : i < 5) (hln : Cond.fieldLink own idx "java/lang/String" "coder" "B" ∈ lwT) (dg : decode cc pc = .ok (.getfield idx, 3)) (k : K (pc + 3) lv (.int 0 :: st) S) : K pc lv (.ref (sK θ i) :: st) S := by
  obtain ⟨p, l, e, s, m, args, below, meth, c, Q, hx, hb, hml, hown, hts, hK, hJ, hE, ri, rl, rv, rfl⟩ := hC
  intro H locs ls hn hl hP hS
  exact vk_getf hx hb (hE.1.1 i hi).2.1 hS hown (hts _ hln) (fun x h => h) dg (k H locs ls hn hl hP hS)
theorem q_slen (hC : Ok K cc own nL d θ sx Fi Fl Fv) {i : Nat} (hi : i < 5) (dg : decode cc pc = .ok (.arraylength, 1)) (k : K (pc + 1) lv (.int (nI (lenS.getD i 0)) :: st) S) : K pc lv (.ref (sV θ i) :: st) S := by
  obtain ⟨p, l, e, s, m, args, below, meth, c, Q, hx, hb, hml, hown, hts, hK, hJ, hE, ri, rl, rv, rfl⟩ := hC
  intro H locs ls hn hl hP hS
  exact va_tlen hx hb (hE.1.1 i hi).2.2.2 hS rfl dg (k H locs ls hn hl hP hS)
theorem q_sbald (hC : Ok K cc own nL d θ sx Fi Fl Fv) {i j : Nat} (hi : i < 5) (hj : j < lenS.getD i 0) (h6 : lenS.getD i 0 ≤ 6) (dg : decode cc pc = .ok (.baload, 1)) (k : K (pc + 1) lv (.int ((bytS.getD i []).getD j 0) :: st) S) : K pc lv (.int (nI j) :: .ref (sV θ i) :: st) S := by
  obtain ⟨p, l, e, s, m, args, below, meth, c, Q, hx, hb, hml, hown, hts, hK, hJ, hE, ri, rl, rv, rfl⟩ := hC
  intro H locs ls hn hl hP hS
  exact va_tb hx hb (hE.1.1 i hi).2.2.2 hS (vp_in_nI hj (by omega)) (by rw [nI_clamp (by omega)]) dg (k H locs ls hn hl hP hS)
theorem q_compact (hC : Ok K cc own nL d θ sx Fi Fl Fv) {idx : Nat} (hln : Cond.fieldLink own idx "java/lang/String" "COMPACT_STRINGS" "Z" ∈ lwT) (dg : decode cc pc = .ok (.getstatic idx, 3)) (k : K (pc + 3) lv (.int 1 :: st) S) : K pc lv st S := by
  obtain ⟨p, l, e, s, m, args, below, meth, c, Q, hx, hb, hml, hown, hts, hK, hJ, hE, ri, rl, rv, rfl⟩ := hC
  intro H locs ls hn hl hP hS
  exact va_gets hx hb hE.2.1 hS hown (hts _ hln) (fun x h => h) dg (k H locs ls hn hl hP hS)
theorem q_sioobe (hC : Ok K cc own nL d θ sx Fi Fl Fv) {idx : Nat} (hln : Cond.fieldLink own idx "jdk/internal/util/Preconditions" "SIOOBE_FORMATTER" "Ljava/util/function/BiFunction;" ∈ lwT) (dg : decode cc pc = .ok (.getstatic idx, 3)) (k : ∀ v : Value, (v = .null ∨ ∃ t, v = .ref t) → K (pc + 3) lv (v :: st) S) : K pc lv st S := by
  obtain ⟨p, l, e, s, m, args, below, meth, c, Q, hx, hb, hml, hown, hts, hK, hJ, hE, ri, rl, rv, rfl⟩ := hC
  intro H locs ls hn hl hP hS
  rcases hE.2.2.1 with hz | ⟨t, hz⟩
  · exact va_gets hx hb hz hS hown (hts _ hln) (fun x h => h) dg (k _ (Or.inl rfl) H locs ls hn hl hP hS)
  · exact va_gets hx hb hz hS hown (hts _ hln) (fun x h => h) dg (k _ (Or.inr ⟨t, rfl⟩) H locs ls hn hl hP hS)
theorem q_callis0 (hC : Ok K cc own nL d θ sx Fi Fl Fv) {i idx ml d2 : Nat} {y : MethodName} {bs : ByteArray} {rt : Option FieldType} {P : Int32 → St → Prop} (hi : i < 5) (cv : CVj own idx y bs ml rt 0) (hy : y.cls = "java/lang/String") (dg : decode cc pc = .ok (.invokevirtual idx, 3)) (hM : Cti y bs ml rt d2 θ sx (.ref (sK θ i) :: []) S P) (hd : d2 + 1 ≤ d) (kk : ∀ r S', P r S' → K (pc + 3) lv (.int r :: st) S') (hst : (st.map fun v => v.category).sum ≤ 8 := by (first | exact Nat.le_of_ble_eq_true rfl | decide)) : K pc lv (.ref (sK θ i) :: st) S := by
  obtain ⟨p, l, e, s, m, args, below, meth, c, Q, hx, hb, hml, hown, hts, hK, hJ, hE, ri, rl, rv, rfl⟩ := hC
  intro H locs ls hn hl hP hS
  obtain ⟨c1, c2, c3, c4, c5, c6, c7, c8, c9⟩ := cv
  exact va_calli (va_runV (As := []) (rest := st) ⟨hx, hb, hml, hown, hts⟩ (hM l H.size) ⟨callB_of 0 hts (gTb c1) rfl rfl rfl (hts _ c5) (hts _ c2) ⟨c6, c7, c8⟩ (by constructor <;> (show _ ≤ _; simp only [rmD]; omega)), hts _ c3, hts _ c4⟩ ⟨PcW_blind, by rw [hy]; exact vk_recv hE.1 hi hS, fun U hU hW => ⟨rfl, by rw [hU], by rw [hU]; exact hP, va_K.moved hW.alike hK, hJ, by rw [hU]; exact hE.go hS.2.1 (fun q h => h.elim Or.inl (fun z => Or.inr (Nat.le_trans hS.1 z))) hW⟩⟩ rfl rfl hl.1 rfl (lv_room hst) dg ⟨Nat.zero_le _, Nat.zero_le _⟩) hS (fun q h1 h2 => h2.elim Or.inl (fun z => absurd h1 (Nat.not_lt.mpr z))) (fun q h => h.elim Or.inl (fun z => Or.inr (Nat.le_trans hS.1 z))) (fun r u t H1 locs1 ht hvm hw hB hz1 hk1 hS1 => kk r u hw H1 locs1 ls hn hl (by rw [← ht]; exact hB) hS1)
theorem q_callis1 (hC : Ok K cc own nL d θ sx Fi Fl Fv) {i idx ml d2 : Nat} {y : MethodName} {bs : ByteArray} {rt : Option FieldType} {v0 : Value} {P : Int32 → St → Prop} (hi : i < 5) (cv : CVj own idx y bs ml rt 1) (hy : y.cls = "java/lang/String") (dg : decode cc pc = .ok (.invokevirtual idx, 3)) (hM : Cti y bs ml rt d2 θ sx (.ref (sK θ i) :: [v0]) S P) (hd : d2 + 1 ≤ d) (kk : ∀ r S', P r S' → K (pc + 3) lv (.int r :: st) S') (hst : (st.map fun v => v.category).sum ≤ 8 := by (first | exact Nat.le_of_ble_eq_true rfl | decide)) : K pc lv (v0 :: .ref (sK θ i) :: st) S := by
  obtain ⟨p, l, e, s, m, args, below, meth, c, Q, hx, hb, hml, hown, hts, hK, hJ, hE, ri, rl, rv, rfl⟩ := hC
  intro H locs ls hn hl hP hS
  obtain ⟨c1, c2, c3, c4, c5, c6, c7, c8, c9⟩ := cv
  exact va_calli (va_runV (As := [v0]) (rest := st) ⟨hx, hb, hml, hown, hts⟩ (hM l H.size) ⟨callB_of 1 hts (gTb c1) rfl rfl rfl (hts _ c5) (hts _ c2) ⟨c6, c7, c8⟩ (by constructor <;> (show _ ≤ _; simp only [rmD]; omega)), hts _ c3, hts _ c4⟩ ⟨PcW_blind, by rw [hy]; exact vk_recv hE.1 hi hS, fun U hU hW => ⟨rfl, by rw [hU], by rw [hU]; exact hP, va_K.moved hW.alike hK, hJ, by rw [hU]; exact hE.go hS.2.1 (fun q h => h.elim Or.inl (fun z => Or.inr (Nat.le_trans hS.1 z))) hW⟩⟩ rfl rfl hl.1 rfl (lv_room hst) dg ⟨Nat.zero_le _, Nat.zero_le _⟩) hS (fun q h1 h2 => h2.elim Or.inl (fun z => absurd h1 (Nat.not_lt.mpr z))) (fun q h => h.elim Or.inl (fun z => Or.inr (Nat.le_trans hS.1 z))) (fun r u t H1 locs1 ht hvm hw hB hz1 hk1 hS1 => kk r u hw H1 locs1 ls hn hl (by rw [← ht]; exact hB) hS1)
end RUS
