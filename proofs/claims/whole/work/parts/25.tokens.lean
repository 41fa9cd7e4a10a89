/-! ===== the text and its tokens (pure) ===== -/
def isL (b : Nat) : Bool := decide (97 ≤ b) && decide (b ≤ 122)
def isD (b : Nat) : Bool := decide (48 ≤ b) && decide (b ≤ 57)
def skN (c : Nat → Bool) (L : Nat) : Nat → Nat → Nat
  | 0, a => a
  | n + 1, a => if a < L ∧ c a = true then skN c L n (a + 1) else a
/-- on while c holds -/
def sk (c : Nat → Bool) (L a : Nat) : Nat := skN c L (L - a) a
theorem sk_go {c : Nat → Bool} {L a : Nat} (h : a < L) (hc : c a = true) : sk c L a = sk c L (a + 1) := by
  unfold sk
  rw [show L - a = (L - (a + 1)) + 1 by omega]
  simp only [skN]
  rw [if_pos ⟨h, hc⟩]
theorem sk_stop {c : Nat → Bool} {L a : Nat} (h : ¬ (a < L ∧ c a = true)) : sk c L a = a := by
  unfold sk
  cases L - a with
  | zero => rfl
  | succ n => simp only [skN]; rw [if_neg h]
theorem sk_bd {c : Nat → Bool} {L : Nat} : ∀ (n a : Nat), L - a = n → a ≤ L → a ≤ sk c L a ∧ sk c L a ≤ L ∧ (∀ i, a ≤ i → i < sk c L a → c i = true) ∧ ¬ (sk c L a < L ∧ c (sk c L a) = true)
  | 0, a, hn, ha => by
    have : ¬ (a < L ∧ c a = true) := by omega
    rw [sk_stop this]
    exact ⟨Nat.le_refl _, ha, fun i h1 h2 => by omega, this⟩
  | n + 1, a, hn, ha => by
    by_cases h : a < L ∧ c a = true
    · rw [sk_go h.1 h.2]
      obtain ⟨h1, h2, h3, h4⟩ := sk_bd (c := c) (L := L) n (a + 1) (by omega) (by omega)
      refine ⟨by omega, h2, fun i g1 g2 => ?_, h4⟩
      by_cases e : i = a
      · subst e; exact h.2
      · exact h3 i (by omega) g2
    · rw [sk_stop h]
      exact ⟨Nat.le_refl _, ha, fun i h1 h2 => by omega, h⟩
theorem sk_le {c : Nat → Bool} {L a : Nat} (h : a ≤ L) : a ≤ sk c L a ∧ sk c L a ≤ L := ⟨(sk_bd _ a rfl h).1, (sk_bd _ a rfl h).2.1⟩
def nvN (x : Nat → Nat) (s : Nat) : Nat → Nat
  | 0 => 0
  | k + 1 => if 100 < nvN x s k * 10 + (x (s + k) - 48) then 100 else nvN x s k * 10 + (x (s + k) - 48)
theorem nvN_le (x : Nat → Nat) (s : Nat) : ∀ k, nvN x s k ≤ 100
  | 0 => Nat.zero_le _
  | k + 1 => by simp only [nvN]; split <;> omega
def wrd : Nat → List Nat := fun i => ([[112, 105, 101, 99, 101], [102, 97, 109, 105, 108, 121], [112, 97, 118, 101, 100], [115, 116, 111, 110, 101], [102, 108, 111, 111, 100]] : List (List Nat)).getD i []
/-- the bytes from s to e are this word -/
def isW (x : Nat → Nat) (s e i : Nat) : Bool := decide (e - s = (wrd i).length) && (List.range (wrd i).length).all (fun j => decide (x (s + j) = (wrd i).getD j 0))
def wK (x : Nat → Nat) (s e : Nat) : Nat := if isW x s e 0 then 3 else if isW x s e 1 then 4 else if isW x s e 2 then 5 else if isW x s e 3 then 6 else if isW x s e 4 then 7 else 8
def blk (x : Nat → Nat) : Nat → Bool := fun i => decide (x i = 32)
def tkS (L : Nat) (x : Nat → Nat) (a : Nat) : Nat := sk (blk x) L a
def wEn (L : Nat) (x : Nat → Nat) (s : Nat) : Nat := sk (fun i => isL (x i)) L s
def dEn (L : Nat) (x : Nat → Nat) (s : Nat) : Nat := sk (fun i => isD (x i)) L s
def nval (L : Nat) (x : Nat → Nat) (s : Nat) : Nat := nvN x s (dEn L x s - s)
def nK (L : Nat) (x : Nat → Nat) (s : Nat) : Nat := if (x s = 48 ∧ 1 < dEn L x s - s) ∨ 99 < nval L x s then 8 else 1
/-- a token that begins at s: its kind, its end -/
def kAt (L : Nat) (x : Nat → Nat) (s : Nat) : Nat := if s < L then (if isL (x s) then wK x s (wEn L x s) else if isD (x s) then nK L x s else if x s = 59 then 2 else 8) else 0
def eAt (L : Nat) (x : Nat → Nat) (s : Nat) : Nat := if s < L then (if isL (x s) then wEn L x s else if isD (x s) then dEn L x s else s + 1) else s
def tkK (L : Nat) (x : Nat → Nat) (a : Nat) : Nat := kAt L x (tkS L x a)
def tkE (L : Nat) (x : Nat → Nat) (a : Nat) : Nat := eAt L x (tkS L x a)
def tkV (L : Nat) (x : Nat → Nat) (a : Nat) : Nat := nval L x (tkS L x a)
theorem wK_le (x : Nat → Nat) (s e : Nat) : 3 ≤ wK x s e ∧ wK x s e ≤ 8 := by unfold wK; (repeat' split) <;> omega
theorem kAt_le (L : Nat) (x : Nat → Nat) (s : Nat) : kAt L x s ≤ 8 := by
  have := wK_le x s (wEn L x s)
  unfold kAt nK; (repeat' split) <;> omega
theorem kAt_0 (L : Nat) (x : Nat → Nat) (s : Nat) (h : s < L) : kAt L x s ≠ 0 := by
  have := wK_le x s (wEn L x s)
  unfold kAt nK; rw [if_pos h]; (repeat' split) <;> omega
theorem eAt_bd {L : Nat} {x : Nat → Nat} {s : Nat} (h : s ≤ L) : s ≤ eAt L x s ∧ eAt L x s ≤ L ∧ (s < L → s < eAt L x s) := by
  unfold eAt
  by_cases hs : s < L
  · rw [if_pos hs]
    split
    · rename_i hl
      have h1 := sk_le (c := fun i => isL (x i)) (L := L) (a := s + 1) (by omega)
      unfold wEn
      rw [sk_go hs hl]
      omega
    · split
      · rename_i hl
        have h1 := sk_le (c := fun i => isD (x i)) (L := L) (a := s + 1) (by omega)
        unfold dEn
        rw [sk_go hs hl]
        omega
      · omega
  · rw [if_neg hs]; omega
theorem tk_bd {L : Nat} {x : Nat → Nat} {a : Nat} (h : a ≤ L) : a ≤ tkS L x a ∧ tkS L x a ≤ L ∧ tkS L x a ≤ tkE L x a ∧ tkE L x a ≤ L ∧ (tkS L x a < L → tkS L x a < tkE L x a) := by
  have h1 := sk_le (c := blk x) h
  have h2 := eAt_bd (x := x) h1.2
  unfold tkE tkS at *
  omega
/-- a byte, as the class keeps it -/
def sb (b : Nat) : Int32 := (nI b).toInt8.toInt32
theorem sb_nI {b : Nat} (h : b < 128) : sb b = nI b := by
  have : ∀ b, b < 128 → sb b = nI b := by decide +kernel
  exact this b h
theorem sb_eq {b v : Nat} (h : b < 256) (hv : v < 128) : (sb b = nI v) ↔ b = v := by
  have : ∀ b, b < 256 → ∀ v, v < 128 → ((sb b = nI v) ↔ b = v) := by decide +kernel
  exact this b h v hv
theorem sb_L {b : Nat} (h : b < 256) : (¬ sb b < nI 97 ∧ ¬ nI 122 < sb b) ↔ isL b = true := by
  have : ∀ b, b < 256 → ((¬ sb b < nI 97 ∧ ¬ nI 122 < sb b) ↔ isL b = true) := by decide +kernel
  exact this b h
theorem sb_D {b : Nat} (h : b < 256) : (¬ sb b < nI 48 ∧ ¬ nI 57 < sb b) ↔ isD b = true := by
  have : ∀ b, b < 256 → ((¬ sb b < nI 48 ∧ ¬ nI 57 < sb b) ↔ isD b = true) := by decide +kernel
  exact this b h
/-- the text in the class -/
def TxR (S : St) (L : Nat) (x : Nat → Nat) : Prop := L ≤ 300 ∧ (∀ i, x i < 256) ∧ S.1 1 1 = nI L ∧ ∀ i, i < L → S.1 2 i = sb (x i)
theorem TxR.go {S S' : St} {L : Nat} {x : Nat → Nat} (h : TxR S L x) (h1 : S'.1 1 = S.1 1) (h2 : S'.1 2 = S.1 2) : TxR S' L x := ⟨h.1, h.2.1, by rw [h1]; exact h.2.2.1, fun i hi => by rw [h2]; exact h.2.2.2 i hi⟩
theorem wrd_len {i : Nat} (h : i < 5) : (wrd i).length = lenS.getD i 0 ∧ (wrd i).length ≤ 6 := by
  have : ∀ i, i < 5 → (wrd i).length = lenS.getD i 0 ∧ (wrd i).length ≤ 6 := by decide
  exact this i h
theorem wrd_ch {i j : Nat} (h : i < 5) (hj : j < 6) : (bytS.getD i []).getD j 0 = nI ((wrd i).getD j 0) ∧ (wrd i).getD j 0 < 128 := by
  have : ∀ i, i < 5 → ∀ j, j < 6 → (bytS.getD i []).getD j 0 = nI ((wrd i).getD j 0) ∧ (wrd i).getD j 0 < 128 := by decide
  exact this i h j hj
