/-! ===== what the cells say: frames, a town, a now ===== -/
/-- only the cells of L may differ -/
def Fr (S S' : St) (L : List Nat) : Prop := (∀ a, a ∉ L → S'.1 a = S.1 a) ∧ S'.2 = S.2
theorem Fr.rfl' {S : St} {L : List Nat} : Fr S S L := ⟨fun _ _ => rfl, rfl⟩
theorem Fr.trans {S S1 S2 : St} {L : List Nat} (h : Fr S S1 L) (h2 : Fr S1 S2 L) : Fr S S2 L := ⟨fun a ha => (h2.1 a ha).trans (h.1 a ha), h2.2.trans h.2⟩
theorem Fr.mono {S S1 : St} {L M : List Nat} (h : Fr S S1 L) (hm : ∀ a, a ∈ L → a ∈ M) : Fr S S1 M := ⟨fun a ha => h.1 a (fun z => ha (hm a z)), h.2⟩
theorem Fr.c {S S' : St} {L : List Nat} (h : Fr S S' L) (a : Nat) (ha : a ∉ L := by decide) : S'.1 a = S.1 a := h.1 a ha
theorem Fr.u1 {S : St} {k j : Nat} {v : Int32} : Fr S (up S k j v) [k] := ⟨fun a ha => by funext b; exact up_o (fun h => ha (by rw [h.1]; exact List.mem_singleton.mpr rfl)), rfl⟩
theorem Fr.uA {S : St} {k : Nat} {f : Nat → Int32} : Fr S (upA S k f) [k] := ⟨fun a ha => by funext b; have : a ≠ k := fun h => ha (by rw [h]; exact List.mem_singleton.mpr rfl); simp [upA, this], rfl⟩
theorem upA_s {S : St} {k j : Nat} {f : Nat → Int32} : (upA S k f).1 k j = f j := by simp [upA]
theorem upA_o {S : St} {k a : Nat} {f : Nat → Int32} (h : a ≠ k) : (upA S k f).1 a = S.1 a := by funext b; simp [upA, h]
theorem up_oc {S : St} {k j a : Nat} {v : Int32} (h : a ≠ k) : (up S k j v).1 a = S.1 a := by funext b; exact up_o (fun z => h z.1)
theorem up_of {S : St} {k j b : Nat} {v : Int32} (h : b ≠ j) : (up S k j v).1 k b = S.1 k b := up_o (fun z => h z.2)
theorem St_ext {S S' : St} (h : ∀ a b, S.1 a b = S'.1 a b) (h2 : S.2 = S'.2) : S = S' := Prod.ext (funext fun a => funext fun b => h a b) h2
/-- a town: pieces, ends, yards; families, homes, goals, times -/
abbrev Tn : Type := Nat × (Nat → Nat) × (Nat → Nat) × (Nat → Nat) × Nat × (Nat → Nat) × (Nat → Nat) × (Nat → Nat)
def tP (T : Tn) : Nat := T.1
def tA (T : Tn) : Nat → Nat := T.2.1
def tB (T : Tn) : Nat → Nat := T.2.2.1
def tY (T : Tn) : Nat → Nat := T.2.2.2.1
def tF (T : Tn) : Nat := T.2.2.2.2.1
def tH (T : Tn) : Nat → Nat := T.2.2.2.2.2.1
def tG (T : Tn) : Nat → Nat := T.2.2.2.2.2.2.1
def tN (T : Tn) : Nat → Nat := T.2.2.2.2.2.2.2
def TnOk (T : Tn) : Prop := tP T ≤ 8 ∧ tF T ≤ 4 ∧ (∀ p, p < tP T → tA T p < 6 ∧ tB T p < 6 ∧ tA T p ≠ tB T p ∧ 1 ≤ tY T p ∧ tY T p ≤ 30) ∧ ∀ f, f < tF T → tH T f < 6 ∧ tG T f < 6 ∧ 1 ≤ tN T f ∧ tN T f ≤ 9
/-- the class's town at the cells b .. b + 6 -/
def TwR (S : St) (b : Nat) (T : Tn) : Prop := S.1 b 0 = nI (tP T) ∧ S.1 b 4 = nI (tF T) ∧ (∀ p, p < tP T → S.1 (b + 1) p = nI (tA T p) ∧ S.1 (b + 2) p = nI (tB T p) ∧ S.1 (b + 3) p = nI (tY T p)) ∧ ∀ f, f < tF T → S.1 (b + 4) f = nI (tH T f) ∧ S.1 (b + 5) f = nI (tG T f) ∧ S.1 (b + 6) f = nI (tN T f)
theorem TwR.go {S S' : St} {b : Nat} {T : Tn} (h : TwR S b T) (h0 : S'.1 b = S.1 b) (h1 : S'.1 (b + 1) = S.1 (b + 1)) (h2 : S'.1 (b + 2) = S.1 (b + 2)) (h3 : S'.1 (b + 3) = S.1 (b + 3)) (h4 : S'.1 (b + 4) = S.1 (b + 4)) (h5 : S'.1 (b + 5) = S.1 (b + 5)) (h6 : S'.1 (b + 6) = S.1 (b + 6)) : TwR S' b T := by
  obtain ⟨a1, a2, a3, a4⟩ := h
  exact ⟨by rw [h0]; exact a1, by rw [h0]; exact a2, fun p hp => by rw [h1, h2, h3]; exact a3 p hp, fun f hf => by rw [h4, h5, h6]; exact a4 f hf⟩
theorem TwR.fr4 {S S' : St} {T : Tn} {L : List Nat} (h : TwR S 4 T) (hF : Fr S S' L) (hL : L.all (fun a => !(decide (4 ≤ a) && decide (a ≤ 10))) = true) : TwR S' 4 T := by
  have nn : ∀ a, 4 ≤ a → a ≤ 10 → a ∉ L := by
    intro a h1 h2 ha
    have := List.all_eq_true.mp hL a ha
    simp [h1, h2] at this
  exact h.go (hF.1 4 (nn 4 (by omega) (by omega))) (hF.1 5 (nn 5 (by omega) (by omega))) (hF.1 6 (nn 6 (by omega) (by omega))) (hF.1 7 (nn 7 (by omega) (by omega))) (hF.1 8 (nn 8 (by omega) (by omega))) (hF.1 9 (nn 9 (by omega) (by omega))) (hF.1 10 (nn 10 (by omega) (by omega)))
/-- a now: owners (0 .. 3 a family, 4 none, 5 a stone), floods, how much was seen, who walked where -/
abbrev Nw : Type := (Nat → Nat) × (Nat → Nat) × Nat × (Nat → Nat)
def nO (N : Nw) : Nat → Nat := N.1
def nF (N : Nw) : Nat → Nat := N.2.1
def nS (N : Nw) : Nat := N.2.2.1
def nW (N : Nw) : Nat → Nat := N.2.2.2
def NwOk (T : Tn) (N : Nw) : Prop := (∀ p, nO N p ≤ 5 ∧ (tP T ≤ p → nO N p = 4) ∧ (nO N p < 4 → nO N p < tF T)) ∧ (∀ p, nF N p ≤ 9) ∧ nS N ≤ 10 ∧ ∀ f, nW N f < 2 ^ tP T
def clO (o : Nat) : Int32 := if o < 4 then nI o else -9
def stm (N : Nw) : Nat := msk (fun p => decide (nO N p = 5)) 8
/-- the class's Now at the cells b .. b + 3 -/
def NwR (S : St) (b : Nat) (N : Nw) : Prop := (∀ p, p < 8 → S.1 (b + 1) p = clO (nO N p)) ∧ (∀ p, p < 8 → S.1 (b + 2) p = nI (nF N p)) ∧ S.1 b 2 = nI (stm N) ∧ S.1 b 3 = nI (nS N) ∧ ∀ f, f < 4 → S.1 (b + 3) f = nI (nW N f)
theorem NwR.go {S S' : St} {b : Nat} {N : Nw} (h : NwR S b N) (h0 : S'.1 b = S.1 b) (h1 : S'.1 (b + 1) = S.1 (b + 1)) (h2 : S'.1 (b + 2) = S.1 (b + 2)) (h3 : S'.1 (b + 3) = S.1 (b + 3)) : NwR S' b N := by
  obtain ⟨a1, a2, a3, a4, a5⟩ := h
  exact ⟨fun p hp => by rw [h1]; exact a1 p hp, fun p hp => by rw [h2]; exact a2 p hp, by rw [h0]; exact a3, by rw [h0]; exact a4, fun f hf => by rw [h3]; exact a5 f hf⟩
theorem clO_eq {o f : Nat} (hf : f < 4) : (clO o = nI f) ↔ o = f := by
  unfold clO
  split
  · exact nI_eq (by omega) (by omega)
  · constructor
    · intro h
      have : ∀ f, f < 4 → ¬ ((-9 : Int32) = nI f) := by decide
      exact absurd h (this f hf)
    · intro h; omega
theorem clO_none {o : Nat} : (clO o = -9) ↔ ¬ o < 4 := by
  unfold clO
  split
  · rename_i h
    have : ∀ f, f < 4 → ¬ (nI f = (-9 : Int32)) := by decide
    exact ⟨fun z => absurd z (this o h), fun z => absurd h z⟩
  · rename_i h
    exact ⟨fun _ => h, fun _ => rfl⟩
/-- the pieces of a family, as bits -/
def owm (N : Nw) (f : Nat) : Nat := msk (fun p => decide (nO N p = f)) 8
theorem owm_lt (N : Nw) (f : Nat) : owm N f < 256 := msk_lt _ 8
theorem stm_lt (N : Nw) : stm N < 256 := msk_lt _ 8
def cnt (g : Nat → Bool) : Nat → Nat
  | 0 => 0
  | n + 1 => cnt g n + (if g n then 1 else 0)
theorem andnot_n {m p : Nat} (hm : m < 256) (hp : p < 8) : nI m &&& (nI (2 ^ p) ^^^ (-1)) = nI (m - m / 2 ^ p % 2 * 2 ^ p) := by
  have : ∀ m, m < 256 → ∀ p, p < 8 → nI m &&& (nI (2 ^ p) ^^^ (-1)) = nI (m - m / 2 ^ p % 2 * 2 ^ p) := by decide +kernel
  exact this m hm p hp
def upN (f : Nat → Nat) (k v : Nat) : Nat → Nat := fun j => if j = k then v else f j
theorem upN_s {f : Nat → Nat} {k v : Nat} : upN f k v k = v := by simp [upN]
theorem upN_o {f : Nat → Nat} {k v j : Nat} (h : j ≠ k) : upN f k v j = f j := by simp [upN, h]
def TwAt (b : Nat) : Prop := shX[b]? = some (.inr (.inl (5, [none, some (some (b + 1)), some (some (b + 2)), some (some (b + 3)), none, some (some (b + 4)), some (some (b + 5)), some (some (b + 6))]))) ∧ shX[b + 1]? = some (.inl (0, 8)) ∧ shX[b + 2]? = some (.inl (0, 8)) ∧ shX[b + 3]? = some (.inl (0, 8)) ∧ shX[b + 4]? = some (.inl (0, 4)) ∧ shX[b + 5]? = some (.inl (0, 4)) ∧ shX[b + 6]? = some (.inl (0, 4))
theorem twAt4 : TwAt 4 := ⟨rfl, rfl, rfl, rfl, rfl, rfl, rfl⟩
theorem twAt11 : TwAt 11 := ⟨rfl, rfl, rfl, rfl, rfl, rfl, rfl⟩
def tAddP (T : Tn) (a b y : Nat) : Tn := (tP T + 1, upN (tA T) (tP T) a, upN (tB T) (tP T) b, upN (tY T) (tP T) y, tF T, tH T, tG T, tN T)
def tAddF (T : Tn) (h t n : Nat) : Tn := (tP T, tA T, tB T, tY T, tF T + 1, upN (tH T) (tF T) h, upN (tG T) (tF T) t, upN (tN T) (tF T) n)
theorem cpyI {f g : Nat → Int32} {n j : Nat} (h : j < n) (hn : n < 2 ^ 31) : va_cpy f g (nI 0).toNatClampNeg (nI 0).toNatClampNeg (nI n).toNatClampNeg j = f j := by
  rw [nI_clamp (by omega), nI_clamp hn, pk_cpy_in (by omega) (by omega)]
  rw [show 0 + (j - 0) = j by omega]
def sumY (T : Tn) (B : Nat) : Nat → Nat
  | 0 => 0
  | n + 1 => sumY T B n + B / 2 ^ n % 2 * tY T n
theorem sumY_le (T : Tn) (h : TnOk T) (B : Nat) : ∀ n, n ≤ tP T → sumY T B n ≤ 30 * n
  | 0, _ => Nat.le_refl _
  | n + 1, hn => by
    have ih := sumY_le T h B n (by omega)
    have h1 := (h.2.2.1 n (by omega)).2.2.2.2
    have h2 : B / 2 ^ n % 2 < 2 := Nat.mod_lt _ (by omega)
    simp only [sumY]
    have h3 : B / 2 ^ n % 2 * tY T n ≤ 1 * tY T n := Nat.mul_le_mul_right _ (by omega)
    omega
