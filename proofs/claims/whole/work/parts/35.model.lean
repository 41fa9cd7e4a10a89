/-! ===== the reference: its state ===== -/
def mdO (o : Nat) : Int32 := if o < 4 then nI o else if o = 4 then -9 else -5
def MTx (S : St) (L : Nat) (x : Nat → Nat) : Prop := L ≤ 300 ∧ (∀ i, x i < 256) ∧ S.1 0 1 = nI L ∧ ∀ i, i < L → S.1 1 i = nI (x i)
def MTw (S : St) (T : Tn) : Prop := S.1 0 2 = nI (tP T) ∧ S.1 0 6 = nI (tF T) ∧ (∀ p, p < tP T → S.1 2 p = nI (tA T p) ∧ S.1 3 p = nI (tB T p) ∧ S.1 4 p = nI (tY T p)) ∧ ∀ f, f < tF T → S.1 5 f = nI (tH T f) ∧ S.1 6 f = nI (tG T f) ∧ S.1 7 f = nI (tN T f)
/-- who walked where, out of what was seen -/
def orS (bb st : Nat → Nat) (f : Nat) : Nat → Nat
  | 0 => 0
  | n + 1 => orS bb st f n ||| (if bb n = f then st n else 0)
def SeR (c1 c2 : Nat → Int32) (T : Tn) (N : Nw) : Prop := ∃ bb st : Nat → Nat, (∀ k, k < nS N → c1 k = nI (bb k) ∧ c2 k = nI (st k) ∧ bb k < tF T ∧ st k < 2 ^ tP T) ∧ ∀ f, nW N f = orS bb st f (nS N)
def MNw (S : St) (T : Tn) (N : Nw) : Prop := (∀ p, p < tP T → S.1 8 p = mdO (nO N p) ∧ S.1 9 p = nI (nF N p)) ∧ S.1 0 12 = nI (nS N) ∧ SeR (S.1 10) (S.1 11) T N
def MIm (S : St) (T : Tn) (im : Nat → Option Nw) : Prop := ∀ i, i < 2 → (im i = none → S.1 12 (40 * i) = nI 0) ∧ ∀ N', im i = some N' → S.1 12 (40 * i) = nI 1 ∧ (∀ p, p < tP T → S.1 12 (40 * i + 1 + p) = mdO (nO N' p) ∧ S.1 12 (40 * i + 9 + p) = nI (nF N' p)) ∧ S.1 12 (40 * i + 17) = nI (nS N') ∧ SeR (fun k => S.1 12 (40 * i + 18 + k)) (fun k => S.1 12 (40 * i + 28 + k)) T N'
def RM (S : St) (L : Nat) (x : Nat → Nat) (T : Tn) (N : Nw) (im : Nat → Option Nw) (tr : Int64) : Prop := MTx S L x ∧ MTw S T ∧ MNw S T N ∧ MIm S T im ∧ S.2 0 16 = tr
theorem MTx.go {S S' : St} {L : Nat} {x : Nat → Nat} (h : MTx S L x) (h1 : S'.1 0 1 = S.1 0 1) (h2 : S'.1 1 = S.1 1) : MTx S' L x := ⟨h.1, h.2.1, by rw [h1]; exact h.2.2.1, fun i hi => by rw [h2]; exact h.2.2.2 i hi⟩
theorem MTw.go {S S' : St} {T : Tn} (h : MTw S T) (h1 : S'.1 0 2 = S.1 0 2) (h2 : S'.1 0 6 = S.1 0 6) (hc : ∀ a, 2 ≤ a → a ≤ 7 → S'.1 a = S.1 a) : MTw S' T := by
  obtain ⟨a1, a2, a3, a4⟩ := h
  refine ⟨by rw [h1]; exact a1, by rw [h2]; exact a2, fun p hp => ?_, fun f hf => ?_⟩
  · rw [hc 2 (by omega) (by omega), hc 3 (by omega) (by omega), hc 4 (by omega) (by omega)]; exact a3 p hp
  · rw [hc 5 (by omega) (by omega), hc 6 (by omega) (by omega), hc 7 (by omega) (by omega)]; exact a4 f hf
theorem MNw.go {S S' : St} {T : Tn} {N : Nw} (h : MNw S T N) (h1 : S'.1 0 12 = S.1 0 12) (hc : ∀ a, 8 ≤ a → a ≤ 11 → S'.1 a = S.1 a) : MNw S' T N := by
  obtain ⟨a1, a2, a3⟩ := h
  refine ⟨fun p hp => ?_, by rw [h1]; exact a2, ?_⟩
  · rw [hc 8 (by omega) (by omega), hc 9 (by omega) (by omega)]; exact a1 p hp
  · rw [hc 10 (by omega) (by omega), hc 11 (by omega) (by omega)]; exact a3
theorem MIm.go {S S' : St} {T : Tn} {im : Nat → Option Nw} (h : MIm S T im) (hc : S'.1 12 = S.1 12) : MIm S' T im := by
  unfold MIm at h ⊢
  rw [hc]; exact h
/-- what scratch a call may leave: cells 13 .. 19, and the fields from 'at' on -/
theorem RM.scr {S S' : St} {L : Nat} {x : Nat → Nat} {T : Tn} {N : Nw} {im : Nat → Option Nw} {tr : Int64} (h : RM S L x T N im tr) (h0 : ∀ j, j ≤ 12 → S'.1 0 j = S.1 0 j) (hc : ∀ a, 1 ≤ a → a ≤ 12 → S'.1 a = S.1 a) (h2 : S'.2 0 16 = S.2 0 16) : RM S' L x T N im tr := by
  obtain ⟨a1, a2, a3, a4, a5⟩ := h
  exact ⟨a1.go (h0 1 (by omega)) (hc 1 (by omega) (by omega)), a2.go (h0 2 (by omega)) (h0 6 (by omega)) (fun a g1 g2 => hc a (by omega) (by omega)), a3.go (h0 12 (by omega)) (fun a g1 g2 => hc a (by omega) (by omega)), a4.go (hc 12 (by omega) (by omega)), by rw [h2]; exact a5⟩
theorem RM.fr {S S' : St} {L : Nat} {x : Nat → Nat} {T : Tn} {N : Nw} {im : Nat → Option Nw} {tr : Int64} (h : RM S L x T N im tr) (hF : Fr S S' [14, 15, 16, 17, 18, 19]) : RM S' L x T N im tr :=
  h.scr (fun j hj => by rw [hF.c 0]) (fun a g1 g2 => hF.1 a (by simp only [List.mem_cons, List.not_mem_nil, or_false, not_or]; omega)) (by rw [hF.2])
theorem mdO_eq {o f : Nat} (hf : f < 4) : (mdO o = nI f) ↔ o = f := by
  unfold mdO
  have h9 : ∀ f, f < 4 → ¬ ((-9 : Int32) = nI f) := by decide
  have h5 : ∀ f, f < 4 → ¬ ((-5 : Int32) = nI f) := by decide
  split
  · exact nI_eq (by omega) (by omega)
  · split
    · exact ⟨fun h => absurd h (h9 f hf), fun h => by omega⟩
    · exact ⟨fun h => absurd h (h5 f hf), fun h => by omega⟩
theorem mdO_5 {o : Nat} (ho : o ≤ 5) : (mdO o = -5) ↔ o = 5 := by
  have : ∀ o, o ≤ 5 → ((mdO o = -5) ↔ o = 5) := by decide
  exact this o ho
theorem mdO_neg {o : Nat} (ho : o ≤ 5) : (mdO o < 0) ↔ ¬ o < 4 := by
  have : ∀ o, o ≤ 5 → ((mdO o < 0) ↔ ¬ o < 4) := by decide
  exact this o ho
theorem mdO_9 {o : Nat} (ho : o ≤ 5) : (if mdO o < 0 then (-9 : Int32) else mdO o) = clO o := by
  have : ∀ o, o ≤ 5 → (if mdO o < 0 then (-9 : Int32) else mdO o) = clO o := by decide
  exact this o ho
theorem lg_lt (x y : Int64) : (lg_cmp x y < 0) ↔ x < y := lg_cmp_lt x y
theorem lg_gt (x y : Int64) : (0 < lg_cmp x y) ↔ y < x := lg_cmp_gt x y
theorem lg_eq (x y : Int64) : (lg_cmp x y = 0) ↔ x = y := lg_cmp_eq x y
theorem in_ix {x : Int32} {m : Nat} (hm : m < 2 ^ 30) : (lN 0 ≤ x.toInt64 ∧ x.toInt64 ≤ lN m) ↔ (ixN x (m + 1)).isSome = true := by
  rw [Int64.le_iff_toInt_le, Int64.le_iff_toInt_le, lN_toInt (by omega), lN_toInt (by omega), Int32.toInt_toInt64]
  unfold ixN
  constructor
  · intro h; rw [if_pos (by omega)]; rfl
  · intro h; split at h
    · omega
    · cases h
theorem in_ixP {x : Int32} {n : Nat} (hn : n ≤ 1000) : (lN 0 ≤ x.toInt64 ∧ x.toInt64 ≤ (nI n - nI 1).toInt64) ↔ (ixN x n).isSome = true := by
  rw [Int64.le_iff_toInt_le, Int64.le_iff_toInt_le, lN_toInt (by omega), Int32.toInt_toInt64, Int32.toInt_toInt64, pk_sub_toInt (by omega) (by omega)]
  unfold ixN
  constructor
  · intro h; rw [if_pos (by omega)]; rfl
  · intro h; split at h
    · omega
    · cases h
theorem ix_iff {x : Int32} {n : Nat} {b : Nat} (c : Prop) [Decidable c] (h : c ↔ (ixN x n).isSome = true) : nI (if c then 1 else 0) = nI (if (ixN x n).isSome = true then 1 else 0) := by
  by_cases hc : c
  · rw [if_pos hc, if_pos (h.mp hc)]
  · rw [if_neg hc, if_neg (fun z => hc (h.mpr z))]
/-- codes of words, numbers as the reference reads them -/
def cdN (x : Nat → Nat) (s : Nat) : Nat → Nat
  | 0 => 0
  | k + 1 => 32 * cdN x s k + (x (s + k) - 96)
def cdV (x : Nat → Nat) (s k : Nat) : Int64 := if k ≤ 7 then lN (cdN x s k) else -1
def mnN (x : Nat → Nat) (s : Nat) : Nat → Nat
  | 0 => 0
  | k + 1 => if k < 2 then 10 * mnN x s k + (x (s + k) - 48) else 1000
theorem isL_bd {b : Nat} (h : isL b = true) : 97 ≤ b ∧ b ≤ 122 := by unfold isL at h; simpa using h
theorem isD_bd {b : Nat} (h : isD b = true) : 48 ≤ b ∧ b ≤ 57 := by unfold isD at h; simpa using h
theorem cdN_le {x : Nat → Nat} {s : Nat} : ∀ k, (∀ i, i < k → isL (x (s + i)) = true) → cdN x s k < 32 ^ k
  | 0, _ => by simp [cdN]
  | k + 1, h => by
    have ih := cdN_le k (fun i hi => h i (by omega))
    have := isL_bd (h k (by omega))
    simp only [cdN]
    rw [Nat.pow_succ]; omega
theorem mnN_le (x : Nat → Nat) (hx : ∀ i, x i < 256) (s : Nat) : ∀ k, mnN x s k ≤ 10000
  | 0 => Nat.zero_le _
  | 1 => by have := hx (s + 0); simp only [mnN]; split <;> omega
  | 2 => by have := hx (s + 0); have := hx (s + 1); simp only [mnN]; (repeat' split) <;> omega
  | k + 3 => by simp only [mnN]; rw [if_neg (by omega)]; omega
/-- numbers: the reference's and the class's agree where they count -/
theorem nvN_100 {x : Nat → Nat} {s : Nat} {k : Nat} (h : nvN x s k = 100) : ∀ j, nvN x s (k + j) = 100
  | 0 => h
  | j + 1 => by
    show (if 100 < nvN x s (k + j) * 10 + _ then 100 else _) = 100
    rw [nvN_100 h j]
    split
    · rfl
    · omega
theorem nv_mn {x : Nat → Nat} {s k : Nat} (hd : ∀ i, i < k → isD (x (s + i)) = true) (hk : 1 ≤ k) (hz : ¬ (x s = 48 ∧ 1 < k)) : (99 < nvN x s k ↔ 3 ≤ k) ∧ (k ≤ 2 → nvN x s k = mnN x s k ∧ mnN x s k ≤ 99) ∧ (3 ≤ k → mnN x s k = 1000) := by
  have d0 := isD_bd (hd 0 (by omega))
  rw [Nat.add_zero] at d0
  rcases (show k = 1 ∨ k = 2 ∨ 3 ≤ k by omega) with rfl | rfl | h3
  · have e1 : nvN x s 1 = x s - 48 := by
      simp only [nvN, Nat.zero_mul, Nat.zero_add, Nat.add_zero]
      rw [if_neg (by omega)]
    have e2 : mnN x s 1 = x s - 48 := by simp [mnN]
    rw [e1, e2]; omega
  · have d1 := isD_bd (hd 1 (by omega))
    have e1 : nvN x s 1 = x s - 48 := by
      simp only [nvN, Nat.zero_mul, Nat.zero_add, Nat.add_zero]
      rw [if_neg (by omega)]
    have e1' : nvN x s 2 = (x s - 48) * 10 + (x (s + 1) - 48) := by
      show (if 100 < nvN x s 1 * 10 + (x (s + 1) - 48) then 100 else nvN x s 1 * 10 + (x (s + 1) - 48)) = _
      rw [e1, if_neg (by omega)]
    have e2 : mnN x s 2 = 10 * (x s - 48) + (x (s + 1) - 48) := by simp [mnN]
    rw [e1', e2]; omega
  · have d1 := isD_bd (hd 1 (by omega))
    have d2 := isD_bd (hd 2 (by omega))
    have e1 : nvN x s 1 = x s - 48 := by
      simp only [nvN, Nat.zero_mul, Nat.zero_add, Nat.add_zero]
      rw [if_neg (by omega)]
    have e2 : nvN x s 2 = (x s - 48) * 10 + (x (s + 1) - 48) := by
      show (if 100 < nvN x s 1 * 10 + (x (s + 1) - 48) then 100 else nvN x s 1 * 10 + (x (s + 1) - 48)) = _
      rw [e1, if_neg (by omega)]
    have e3 : nvN x s 3 = 100 := by
      show (if 100 < nvN x s 2 * 10 + (x (s + 2) - 48) then 100 else nvN x s 2 * 10 + (x (s + 2) - 48)) = 100
      rw [e2]; split <;> omega
    have e4 := nvN_100 e3 (k - 3)
    rw [show 3 + (k - 3) = k by omega] at e4
    have e5 : mnN x s k = 1000 := by
      rw [show k = (k - 1) + 1 by omega]
      simp only [mnN]; rw [if_neg (by omega)]
    rw [e4, e5]; omega
/-- words by their codes -/
theorem cd_inv {x : Nat → Nat} {s k c : Nat} (hl : ∀ i, i < k + 1 → isL (x (s + i)) = true) (h : cdN x s (k + 1) = c) : x (s + k) = c % 32 + 96 ∧ cdN x s k = c / 32 := by
  have := isL_bd (hl k (by omega))
  simp only [cdN] at h; omega
theorem isW_iff {x : Nat → Nat} {s e i : Nat} : isW x s e i = true ↔ e - s = (wrd i).length ∧ ∀ j, j < (wrd i).length → x (s + j) = (wrd i).getD j 0 := by
  unfold isW
  rw [Bool.and_eq_true, decide_eq_true_eq, List.all_eq_true]
  constructor
  · rintro ⟨h1, h2⟩
    exact ⟨h1, fun j hj => by have := h2 j (List.mem_range.mpr hj); simpa using this⟩
  · rintro ⟨h1, h2⟩
    exact ⟨h1, fun j hj => by have := h2 j (List.mem_range.mp hj); simpa using this⟩
theorem cd_pos {x : Nat → Nat} {s : Nat} : ∀ k, (∀ i, i < k → isL (x (s + i)) = true) → 0 < k → 0 < cdN x s k
  | 0, _, h => by omega
  | k + 1, hl, _ => by have := isL_bd (hl k (by omega)); simp only [cdN]; omega
theorem cd_inj {x g : Nat → Nat} {s : Nat} : ∀ (k m : Nat), (∀ i, i < k → isL (x (s + i)) = true) → (∀ i, i < m → isL (g (0 + i)) = true) → cdN x s k = cdN g 0 m → k = m ∧ ∀ j, j < k → x (s + j) = g (0 + j)
  | 0, 0, _, _, _ => ⟨rfl, fun j hj => by omega⟩
  | 0, m + 1, _, h2, h => by have := cd_pos (m + 1) h2 (by omega); simp only [cdN] at h this; omega
  | k + 1, 0, h1, _, h => by have := cd_pos (k + 1) h1 (by omega); simp only [cdN] at h this; omega
  | k + 1, m + 1, h1, h2, h => by
    have a := isL_bd (h1 k (by omega))
    have b := isL_bd (h2 m (by omega))
    simp only [cdN] at h
    obtain ⟨e1, e2⟩ := cd_inj k m (fun i hi => h1 i (by omega)) (fun i hi => h2 i (by omega)) (by omega)
    subst e1
    refine ⟨rfl, fun j hj => ?_⟩
    by_cases e : j = k
    · subst e; omega
    · exact e2 j (by omega)
theorem cd_same {x g : Nat → Nat} {s : Nat} : ∀ k, (∀ j, j < k → x (s + j) = g (0 + j)) → cdN x s k = cdN g 0 k
  | 0, _ => rfl
  | k + 1, h => by simp only [cdN]; rw [cd_same k (fun j hj => h j (by omega)), h k (by omega)]
def wcd (i : Nat) : Nat := cdN (fun j => (wrd i).getD j 0) 0 (wrd i).length
theorem wcd_val : wcd 0 = 17077349 ∧ wcd 1 = 202810777 ∧ wcd 2 = 16832676 ∧ wcd 3 = 20594117 ∧ wcd 4 = 6700516 := by decide
theorem wrd_L {i : Nat} (hi : i < 5) : ∀ j, j < (wrd i).length → isL ((wrd i).getD (0 + j) 0) = true := by
  have : ∀ i, i < 5 → ∀ j, j < (wrd i).length → isL ((wrd i).getD (0 + j) 0) = true := by decide
  exact this i hi
theorem cdV_iff {x : Nat → Nat} {s e i : Nat} (hi : i < 5) (hl : ∀ j, j < e - s → isL (x (s + j)) = true) : (cdV x s (e - s) = lN (wcd i)) ↔ isW x s e i = true := by
  obtain ⟨w1, w2⟩ := wrd_len hi
  have hwl : wcd i < 32 ^ 7 := by
    have : ∀ i, i < 5 → wcd i < 32 ^ 7 := by decide
    exact this i hi
  rw [isW_iff]
  unfold cdV
  by_cases h7 : e - s ≤ 7
  · rw [if_pos h7]
    have hc := cdN_le (x := x) (s := s) (e - s) hl
    have hp : 32 ^ (e - s) ≤ 32 ^ 7 := Nat.pow_le_pow_right (by omega) h7
    have h35 : 32 ^ 7 < 2 ^ 63 := by decide
    rw [pk_lEQ (by omega) (by omega)]
    constructor
    · intro h
      obtain ⟨a, b⟩ := cd_inj (g := fun j => (wrd i).getD j 0) _ _ hl (wrd_L hi) h
      exact ⟨a, fun j hj => by have := b j (by omega); simpa using this⟩
    · rintro ⟨a, b⟩
      rw [a]
      exact cd_same _ (fun j hj => by have := b j hj; simpa using this)
  · rw [if_neg h7]
    constructor
    · intro h
      exfalso
      have : ∀ i, i < 5 → ¬ ((-1 : Int64) = lN (wcd i)) := by decide
      exact this i hi h
    · rintro ⟨a, -⟩; omega
/-- next() changes only these -/
def FrN (S S' : St) : Prop := (∀ j, j < 17 ∨ 19 < j → S'.1 0 j = S.1 0 j) ∧ (∀ a, a ≠ 0 → S'.1 a = S.1 a) ∧ ∀ j, j ≠ 20 → S'.2 0 j = S.2 0 j
theorem FrN.rfl' {S : St} : FrN S S := ⟨fun _ _ => rfl, fun _ _ => rfl, fun _ _ => rfl⟩
theorem FrN.trans {S S1 S2 : St} (h : FrN S S1) (h2 : FrN S1 S2) : FrN S S2 := ⟨fun j hj => (h2.1 j hj).trans (h.1 j hj), fun a ha => (h2.2.1 a ha).trans (h.2.1 a ha), fun j hj => (h2.2.2 j hj).trans (h.2.2 j hj)⟩
theorem FrN.u1 {S : St} {j : Nat} {v : Int32} (h : 17 ≤ j ∧ j ≤ 19) : FrN S (up S 0 j v) := ⟨fun i hi => up_of (by omega), fun a ha => up_oc ha, fun i hi => rfl⟩
theorem FrN.uL {S : St} {v : Int64} : FrN S (upL S 0 20 v) := ⟨fun i hi => rfl, fun a ha => rfl, fun i hi => upL_o (fun z => hi z.2)⟩
theorem FrN.tx {S S' : St} {L : Nat} {x : Nat → Nat} (h : MTx S L x) (hF : FrN S S') : MTx S' L x := h.go (hF.1 1 (by omega)) (hF.2.1 1 (by omega))
/-- what the reference has of a token -/
def MTok (S : St) (L : Nat) (x : Nat → Nat) (a : Nat) : Prop := S.1 0 18 = nI (tkS L x a) ∧ ∃ kd, kd ≤ 4 ∧ S.1 0 19 = nI kd ∧ (kd = 0 ↔ tkK L x a = 0) ∧ (kd = 3 ↔ tkK L x a = 2) ∧ (kd ≠ 4 → S.1 0 17 = nI (tkE L x a)) ∧ (kd = 2 → ∃ mv, mv ≤ 10000 ∧ S.2 0 20 = lN mv ∧ (∀ m, m ≤ 31 → ((tkK L x a = 1 ∧ tkV L x a < m) ↔ mv < m)) ∧ (mv < 31 → tkV L x a = mv)) ∧ (kd ≠ 2 → tkK L x a ≠ 1) ∧ (kd = 1 → tkK L x a = wK x (tkS L x a) (tkE L x a) ∧ ∀ i, i < 5 → (S.2 0 20 = lN (wcd i) ↔ isW x (tkS L x a) (tkE L x a) i = true)) ∧ (kd ≠ 1 → ¬ (3 ≤ tkK L x a ∧ tkK L x a ≤ 7))
