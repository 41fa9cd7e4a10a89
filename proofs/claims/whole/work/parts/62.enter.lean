/-! ===== what holds at the law's entry ===== -/
theorem mW1 {w : Cond} (i : Nat) (h : tables_1_1[i]? = some w) : w ∈ lw_tbl := List.mem_append_right _ (List.mem_append_left _ (List.mem_of_getElem? h))
theorem mW2 {w : Cond} (i : Nat) (h : tables_1_2[i]? = some w) : w ∈ lw_tbl := List.mem_append_right _ (List.mem_append_right _ (List.mem_append_left _ (List.mem_of_getElem? h)))
theorem arrK {s : State} {args : Array Value} {ty : FieldType} (h : (Cond.arrayClass ty).before args s = true) : ∃ cA, ArrOfT s cA ty ∧ s.vm.findClass ("[" ++ ty.toString) = some cA := by
  obtain ⟨c, k, comp, h1, h2, h3⟩ := Cond.arrayClass_spec h
  exact ⟨c, fun n z => ⟨fun k h => (by cases h), k, h2, comp, h3⟩, h1⟩
theorem instW : ∀ q ∈ vwCl, Cond.instantiable q.1 q.2.2 ∈ lwT := by decide +kernel
def strT (i : Nat) : Term := Term.string "PavedBan$Reader" ([119, 125, 127, 129, 131].getD i 0)
def flN : List Cond := flatC (Jvm.Cond.and given_1 narrow_1)
theorem st_ex : ∀ i, i < 5 → Cond.exactly (strT i) "java/lang/String" ∈ flN := by decide +kernel
theorem st_co : ∀ i, i < 5 → Cond.eq (.field (strT i) "java/lang/String" "coder" "B") (.int 0) ∈ flN := by decide +kernel
theorem st_ar : ∀ i, i < 5 → Cond.arrayOf (.field (strT i) "java/lang/String" "value" "[B") .byte ∈ flN := by decide +kernel
theorem st_le : ∀ i, i < 5 → Cond.eq (.length (.field (strT i) "java/lang/String" "value" "[B")) (.int (Int32.ofNat (lenS.getD i 0))) ∈ flN := by decide +kernel
theorem st_el : ∀ i, i < 5 → ∀ j, j < lenS.getD i 0 → Cond.eq (.elem (.field (strT i) "java/lang/String" "value" "[B") (.int (Int32.ofNat j))) (.int ((bytS.getD i []).getD j 0)) ∈ flN := by decide +kernel
theorem st_ne : ∀ i, i < 5 → ∀ j, j < 5 → i ≠ j → Cond.not (Cond.eq (strT i) (strT j)) ∈ flN ∨ Cond.not (Cond.eq (strT j) (strT i)) ∈ flN := by decide +kernel
theorem st_cs : Cond.eq (Term.static "java/lang/String" "COMPACT_STRINGS" "Z") (.int 1) ∈ flN := by decide +kernel
theorem st_sf : Cond.isRef (Term.static "jdk/internal/util/Preconditions" "SIOOBE_FORMATTER" "Ljava/util/function/BiFunction;") ∈ flN := by decide +kernel
theorem enter {s : State} {b : Nat} (hts : ∀ w ∈ lw_tbl, w.before #[Value.ref b] s = true) (hgv : (Jvm.Cond.and given_1 narrow_1).before #[Value.ref b] s = true) : ∃ θ : Site, va_K (sD θ) vwCl (tyC θ) s ∧ Env9 θ (fun q => s.heap.size ≤ q) s s.heap ∧ Ex9 s := by
  have hs : ∀ c ∈ flN, c.before #[Value.ref b] s = true := flat_of_before _ hgv
  have htT : ∀ w ∈ lwT, w.before #[Value.ref b] s = true := fun w h => hts w (lwT_in h)
  have hA : ∀ a : Nat, a < s.heap.size → ¬ (fun q : Nat => s.heap.size ≤ q) a := fun a h => Nat.not_le.mpr h
  have h0 : ∀ k : Nat, ∃ z : ClassId × (Nat → Nat), ∀ q, vwCl[k]? = some q → u_Kn s q.1 q.2.1 q.2.2 z.1 z.2 := by
    intro k
    cases hk : vwCl[k]? with
    | none => exact ⟨(0, fun _ => 0), fun q h => by cases h⟩
    | some q =>
      obtain ⟨C, T, N⟩ := q
      obtain ⟨c, iS, h⟩ := u_known (C := C) (T := T) (N := N) (n := N) htT (clW hk) (htT _ (instW _ (List.mem_of_getElem? hk)))
      exact ⟨(c, iS), fun q hq => by cases hq; exact h⟩
  obtain ⟨f, hf⟩ := Classical.axiomOfChoice h0
  obtain ⟨cI, hI1, hI2⟩ := arrK (htT _ wAi)
  obtain ⟨cB, hB1, hB2⟩ := arrK (htT _ wAb)
  obtain ⟨cZ, hZ1, hZ2⟩ := arrK (htT _ wAz)
  have hAO : va_AO "PavedBan$Now" s := va_AO.of (hts _ (mW1 163 rfl))
  obtain ⟨comp, cQ, kQ, q1, -, q3, q4, q5⟩ := Cond.arrayOver_spec (hts _ (mW1 163 rfl))
  obtain ⟨adK, adV, hS, hev⟩ := vk_Sof (N := 5) (tm := strT) (len := lenS) (byt := bytS) (A := fun q : Nat => s.heap.size ≤ q) (by decide) (fun i hi => hs _ (st_ex i hi)) (fun i hi => hs _ (st_co i hi)) (fun i hi => hs _ (st_ar i hi)) (fun i hi => hs _ (st_le i hi)) (fun i hi j hj => hs _ (st_el i hi j hj)) (fun i j hi hj h => (st_ne i hi j hj h).imp (hs _) (hs _)) hA
  refine ⟨((fun k => (f k).1, fun k => (f k).2), fun _ => 0, (fun k => if k = 0 then cI else if k = 1 then cB else if k = 2 then cZ else cQ), adK, adV), ⟨fun k q hq => hf k q hq, ?_⟩, ⟨hS, ?_, ?_, ?_⟩, ?_⟩
  · intro k q hq
    match k, hq with
    | 0, hq => cases hq; exact ⟨hI1, hI2⟩
    | 1, hq => cases hq; exact ⟨hB1, hB2⟩
    | 2, hq => cases hq; exact ⟨hZ1, hZ2⟩
    | 3, hq => cases hq; exact ⟨fun n z => ⟨fun k h => (by cases h), kQ, q3, comp, q4⟩, kQ, comp, q3, q4, q1, q5⟩
    | k + 4, hq => cases hq
  · exact va_Zof (hts _ (mW2 128 rfl)) (htT _ (mT1 13 rfl rfl)) (va_eqt (hs _ st_cs)) hA
  · exact va_Zqof (hts _ (mW2 144 rfl)) (htT _ (mT1 15 rfl rfl)) (hs _ st_sf) hA
  · exact ⟨vk_R.of (hts _ (mW2 114 rfl)) (hev 0 (by decide)), vk_R.of (hts _ (mW2 167 rfl)) (hev 1 (by decide)), vk_R.of (hts _ (mW2 168 rfl)) (hev 2 (by decide)), vk_R.of (hts _ (mW2 169 rfl)) (hev 3 (by decide)), vk_R.of (hts _ (mW2 170 rfl)) (hev 4 (by decide))⟩
  · exact ⟨va_Nw.of rfl (hts _ (mW1 30 rfl)), va_Nw.of rfl (hts _ (mW1 47 rfl)), hAO⟩
