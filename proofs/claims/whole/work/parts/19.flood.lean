/-! ===== floods (pure) ===== -/
/-- only the cells of L may differ, longs too -/
def FrL (S S' : St) (L : List Nat) : Prop := ∀ a, a ∉ L → S'.1 a = S.1 a ∧ S'.2 a = S.2 a
theorem FrL.rfl' {S : St} {L : List Nat} : FrL S S L := fun _ _ => ⟨rfl, rfl⟩
theorem FrL.trans {S S1 S2 : St} {L : List Nat} (h : FrL S S1 L) (h2 : FrL S1 S2 L) : FrL S S2 L := fun a ha => ⟨(h2 a ha).1.trans (h a ha).1, (h2 a ha).2.trans (h a ha).2⟩
theorem FrL.mono {S S1 : St} {L M : List Nat} (h : FrL S S1 L) (hm : ∀ a, a ∈ L → a ∈ M) : FrL S S1 M := fun a ha => h a (fun z => ha (hm a z))
theorem Fr.L {S S1 : St} {L : List Nat} (h : Fr S S1 L) : FrL S S1 L := fun a ha => ⟨h.1 a ha, by rw [h.2]⟩
theorem FrL.uL {S : St} {k j : Nat} {v : Int64} : FrL S (upL S k j v) [k] := fun a ha => ⟨rfl, by funext b; exact upL_o (fun h => ha (by rw [h.1]; exact List.mem_singleton.mpr rfl))⟩
theorem FrL.c {S S' : St} {L : List Nat} (h : FrL S S' L) (a : Nat) (ha : a ∉ L := by decide) : S'.1 a = S.1 a := (h a ha).1
theorem FrL.c2 {S S' : St} {L : List Nat} (h : FrL S S' L) (a : Nat) (ha : a ∉ L := by decide) : S'.2 a = S.2 a := (h a ha).2
theorem TwR.frL {S S' : St} {T : Tn} {L : List Nat} (h : TwR S 4 T) (hF : FrL S S' L) (hL : L.all (fun a => !(decide (4 ≤ a) && decide (a ≤ 10))) = true) : TwR S' 4 T := by
  have nn : ∀ a, 4 ≤ a → a ≤ 10 → a ∉ L := by
    intro a h1 h2 ha
    have := List.all_eq_true.mp hL a ha
    simp [h1, h2] at this
  exact h.go (hF 4 (nn 4 (by omega) (by omega))).1 (hF 5 (nn 5 (by omega) (by omega))).1 (hF 6 (nn 6 (by omega) (by omega))).1 (hF 7 (nn 7 (by omega) (by omega))).1 (hF 8 (nn 8 (by omega) (by omega))).1 (hF 9 (nn 9 (by omega) (by omega))).1 (hF 10 (nn 10 (by omega) (by omega))).1
def chc (fl : Nat → Nat) (s : Nat) : Nat → Nat
  | 0 => 1
  | n + 1 => chc fl s n * (if s / 2 ^ n % 2 = 1 then fl n else 10 - fl n)
theorem chc_le {fl : Nat → Nat} (h : ∀ p, fl p ≤ 9) (s : Nat) : ∀ n, chc fl s n ≤ 10 ^ n
  | 0 => Nat.le_refl _
  | n + 1 => by
    have ih := chc_le h s n
    simp only [chc]
    rw [Nat.pow_succ]
    refine Nat.mul_le_mul ih ?_
    have := h n
    split <;> omega
def upS (T : Tn) (fl : Nat → Nat) (f own : Nat) : Nat → Nat
  | 0 => 0
  | s + 1 => upS T fl f own s + (if 100000 ≤ yd T f (own ||| s) then chc fl s (tP T) else 0)
theorem upS_le {T : Tn} {fl : Nat → Nat} (hT : TnOk T) (h : ∀ p, fl p ≤ 9) (f own : Nat) : ∀ s, upS T fl f own s ≤ s * 100000000
  | 0 => Nat.zero_le _
  | s + 1 => by
    have ih := upS_le hT h f own s
    have h1 := chc_le h s (tP T)
    have h3 : chc fl s (tP T) ≤ 100000000 := Nat.le_trans h1 (Nat.le_trans (Nat.pow_le_pow_right (n := 10) (by omega) hT.1) (by decide))
    clear h1
    simp only [upS]
    rw [Nat.succ_mul]
    generalize s * 100000000 = z at ih ⊢
    split <;> omega
def dvB (k : Nat) (z : Nat × Nat) : Nat × Nat := if z.1 % k = 0 ∧ z.2 % k = 0 then (z.1 / k, z.2 / k) else z
def rdc : Nat → Nat × Nat → Nat × Nat
  | 0, z => z
  | n + 1, z => dvB 5 (dvB 2 (rdc n z))
theorem dvB_le (k : Nat) (z : Nat × Nat) : (dvB k z).1 ≤ z.1 ∧ (dvB k z).2 ≤ z.2 := by
  unfold dvB
  split
  · exact ⟨Nat.div_le_self _ _, Nat.div_le_self _ _⟩
  · exact ⟨Nat.le_refl _, Nat.le_refl _⟩
theorem rdc_le (z : Nat × Nat) : ∀ n, (rdc n z).1 ≤ z.1 ∧ (rdc n z).2 ≤ z.2
  | 0 => ⟨Nat.le_refl _, Nat.le_refl _⟩
  | n + 1 => by
    have ih := rdc_le z n
    have h1 := dvB_le 2 (rdc n z)
    have h2 := dvB_le 5 (dvB 2 (rdc n z))
    simp only [rdc]
    omega
/-- the fraction of who is shut in -/
def shF (T : Tn) (N : Nw) (f : Nat) : Nat × Nat := rdc (tP T) (upS T (nF N) f (owm N f) (2 ^ tP T), 10 ^ tP T)
theorem lg_0 {x : Nat} (h : x < 2 ^ 63) : (lg_cmp (lN x) (lN 0) = 0) ↔ x = 0 := by
  unfold lg_cmp
  by_cases e : x = 0
  · subst e; simp
  · have h1 : lN 0 < lN x := (pk_lLT (by omega) h).mpr (by omega)
    simp [h1, e]
theorem lg_p {x : Nat} (h : x < 2 ^ 63) : (lg_cmp (lN x) (lN 0) ≤ 0) ↔ x = 0 := by
  unfold lg_cmp
  by_cases e : x = 0
  · subst e; simp
  · have h1 : lN 0 < lN x := (pk_lLT (by omega) h).mpr (by omega)
    simp [h1, e]
theorem or_lt256 {a b : Nat} (h : a < 256) (h2 : b < 256) : a ||| b < 256 := Nat.or_lt_two_pow (n := 8) h h2
