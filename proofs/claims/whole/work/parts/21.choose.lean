/-! ===== who should pave what: the searches (pure) ===== -/
abbrev S3 : Type := Nat × (Nat → Int32) × (Nat → Int32)
def fdl {α : Type} (g : Nat → α → α) : Nat → α → α
  | 0, s => s
  | n + 1, s => g n (fdl g n s)
def wW (T : Tn) (w worth f p : Nat) : Nat := if w = 1 then (if worth < yd T f (2 ^ p) then yd T f (2 ^ p) else worth) else worth + yd T f (2 ^ p) * tN T f
def oneD (T : Tn) (w : Nat) : Nat → Nat → Nat → Nat → S3 → S3
  | 0, _, _, worth, s => (worth, s.2.2, s.2.2)
  | k + 1, f, taken, worth, s => fdl (fun p s => if (if taken / 2 ^ p % 2 = 0 then wW T w worth f p else 100000) < s.1 then oneD T w k (f + 1) (taken ||| 2 ^ p) (if taken / 2 ^ p % 2 = 0 then wW T w worth f p else 100000) (s.1, s.2.1, upd s.2.2 f (nI p)) else s) (tP T) s
def cstS (T : Tn) (gv : Nat → Nat) : Nat → Nat
  | 0 => 0
  | f + 1 => cstS T gv f + yd T f (gv f) * tN T f
def gvU (gv : Nat → Nat) (f p : Nat) : Nat → Nat := upN gv f (gv f ||| 2 ^ p)
def allD (T : Tn) (st : Nat) : Nat → Nat → (Nat → Nat) → S3 → S3
  | 0, _, gv, s => (cstS T gv (tF T), s.2.2, s.2.2)
  | k + 1, p, gv, s => if st / 2 ^ p % 2 = 1 then allD T st k (p + 1) gv (s.1, s.2.1, upd s.2.2 p (-5)) else fdl (fun f s => if cstS T (gvU gv f p) (tF T) < s.1 then allD T st k (p + 1) (gvU gv f p) (s.1, s.2.1, upd s.2.2 p (nI f)) else s) (tF T) s
theorem fdl_inv {α : Type} {g : Nat → α → α} {I : α → Prop} {s : α} (h0 : I s) : ∀ n, (∀ p s, p < n → I s → I (g p s)) → I (fdl g n s)
  | 0, _ => h0
  | n + 1, h => h n _ (by omega) (fdl_inv h0 n (fun p s hp => h p s (by omega)))
theorem oneD_le {T : Tn} {w : Nat} : ∀ (k f taken worth : Nat) (s : S3), worth ≤ 100000 → s.1 ≤ 100000 → (oneD T w k f taken worth s).1 ≤ 100000
  | 0, f, taken, worth, s, h1, h2 => h1
  | k + 1, f, taken, worth, s, h1, h2 => by
    unfold oneD
    refine fdl_inv (I := fun s : S3 => s.1 ≤ 100000) h2 (tP T) (fun p s' hp hs => ?_)
    show (if _ then _ else _ : S3).1 ≤ 100000
    by_cases hc : (if taken / 2 ^ p % 2 = 0 then wW T w worth f p else 100000) < s'.1
    · rw [if_pos hc]
      exact oneD_le k _ _ _ _ (by omega) hs
    · rw [if_neg hc]; exact hs
theorem cst_mem (T : Tn) (gv : Nat → Nat) : ∀ n f, f < n → yd T f (gv f) * tN T f ≤ cstS T gv n
  | 0, f, h => by omega
  | n + 1, f, h => by
    simp only [cstS]
    by_cases e : f = n
    · subst e; omega
    · have := cst_mem T gv n f (by omega); omega
theorem cst_up (T : Tn) (gv : Nat → Nat) (f x : Nat) : ∀ n, cstS T (upN gv f x) n + (if f < n then yd T f (gv f) * tN T f else 0) = cstS T gv n + (if f < n then yd T f x * tN T f else 0)
  | 0 => by simp [cstS]
  | n + 1 => by
    have ih := cst_up T gv f x n
    simp only [cstS]
    by_cases e : n = f
    · subst e
      rw [upN_s]
      rw [if_neg (show ¬ n < n by omega), if_neg (show ¬ n < n by omega)] at ih
      rw [if_pos (show n < n + 1 by omega), if_pos (show n < n + 1 by omega)]
      omega
    · rw [upN_o e]
      by_cases h : f < n
      · rw [if_pos h, if_pos h] at ih
        rw [if_pos (show f < n + 1 by omega), if_pos (show f < n + 1 by omega)]
        omega
      · rw [if_neg h, if_neg h] at ih
        rw [if_neg (show ¬ f < n + 1 by omega), if_neg (show ¬ f < n + 1 by omega)]
        omega
theorem cst_le {T : Tn} (hT : TnOk T) (gv : Nat → Nat) : ∀ n, n ≤ tF T → cstS T gv n ≤ 900000 * n
  | 0, _ => Nat.le_refl _
  | n + 1, hn => by
    have ih := cst_le hT gv n (by omega)
    have h1 := yd_bd hT n (gv n)
    have h2 := (hT.2.2.2 n (by omega)).2.2.2
    have h3 : yd T n (gv n) * tN T n ≤ 100000 * 9 := Nat.mul_le_mul (by omega) h2
    simp only [cstS]; omega
theorem yN_le {T : Tn} (hT : TnOk T) {f : Nat} (hf : f < tF T) (B : Nat) : yd T f B * tN T f ≤ 900000 := by
  have h1 := yd_bd hT f B
  have h2 := (hT.2.2.2 f hf).2.2.2
  show _ ≤ 100000 * 9
  exact Nat.mul_le_mul (by omega) h2
theorem allD_le {T : Tn} {st : Nat} : ∀ (k p : Nat) (gv : Nat → Nat) (s : S3), cstS T gv (tF T) ≤ 100000 → s.1 ≤ 100000 → (allD T st k p gv s).1 ≤ 100000
  | 0, p, gv, s, h1, h2 => h1
  | k + 1, p, gv, s, h1, h2 => by
    unfold allD
    split
    · exact allD_le k _ _ _ h1 h2
    · refine fdl_inv (I := fun s : S3 => s.1 ≤ 100000) h2 (tF T) (fun f s' hp hs => ?_)
      show (if _ then _ else _ : S3).1 ≤ 100000
      by_cases hc : cstS T (gvU gv f p) (tF T) < s'.1
      · rw [if_pos hc]
        exact allD_le k _ _ _ (by omega) hs
      · rw [if_neg hc]; exact hs
def ChR (S : St) (s : S3) : Prop := S.1 39 4 = nI s.1 ∧ (∀ j, j < 8 → S.1 40 j = s.2.1 j) ∧ ∀ j, j < 8 → S.1 41 j = s.2.2 j
def GvR (S : St) (gv : Nat → Nat) : Prop := ∀ f, f < 4 → S.1 42 f = nI (gv f)
/-- what a search leaves -/
def CRes (T : Tn) (w st : Nat) (s : S3) : Prop := ∃ (ch tr : Nat → Int32), s = (if w = 2 then (if cstS T (fun _ => 0) (tF T) < 100000 then allD T st (tP T) 0 (fun _ => 0) (100000, ch, tr) else (100000, ch, tr)) else oneD T w (tF T) 0 st 0 (100000, ch, tr))
theorem CRes_le {T : Tn} {w st : Nat} {s : S3} (h : CRes T w st s) : s.1 ≤ 100000 := by
  obtain ⟨ch, tr, e⟩ := h
  subst e
  split
  · split
    · exact allD_le _ _ _ _ (by omega) (Nat.le_refl _)
    · exact Nat.le_refl _
  · exact oneD_le _ _ _ _ _ (Nat.zero_le _) (Nat.le_refl _)
/-- what is kept of the last search is so -/
def ChOk (S : St) (T : Tn) : Prop := S.1 39 2 = -1 ∨ ∃ (w st : Nat) (s : S3), w ≤ 2 ∧ st < 256 ∧ S.1 39 2 = nI w ∧ S.1 39 3 = nI st ∧ ChR S s ∧ CRes T w st s
theorem ChR.go {S S' : St} {s : S3} (h : ChR S s) (h0 : S'.1 39 = S.1 39) (h1 : S'.1 40 = S.1 40) (h2 : S'.1 41 = S.1 41) : ChR S' s := by
  obtain ⟨a, b, c⟩ := h
  exact ⟨by rw [h0]; exact a, fun j hj => by rw [h1]; exact b j hj, fun j hj => by rw [h2]; exact c j hj⟩
theorem ChOk.go {S S' : St} {T : Tn} (h : ChOk S T) (h0 : S'.1 39 = S.1 39) (h1 : S'.1 40 = S.1 40) (h2 : S'.1 41 = S.1 41) : ChOk S' T := by
  rcases h with h | ⟨w, st, s, a, b, c, d, e, f⟩
  · exact Or.inl (by rw [h0]; exact h)
  · exact Or.inr ⟨w, st, s, a, b, by rw [h0]; exact c, by rw [h0]; exact d, e.go h0 h1 h2, f⟩
theorem and_bit {m p : Nat} (hm : m < 256) (hp : p < 8) : (nI m &&& nI (2 ^ p) = 0) ↔ m / 2 ^ p % 2 = 0 := by
  have : ∀ m, m < 256 → ∀ p, p < 8 → ((nI m &&& nI (2 ^ p) = 0) ↔ m / 2 ^ p % 2 = 0) := by decide +kernel
  exact this m hm p hp
theorem or_bit_lt {m p : Nat} (hm : m < 256) (hp : p < 8) : m ||| 2 ^ p < 256 := or_lt256 hm (Nat.pow_lt_pow_right (n := 8) (by omega) hp)
theorem or_andnot {g p : Nat} (hp : p < 8) (hg : g < 2 ^ p) : (nI (g ||| 2 ^ p) &&& (nI (2 ^ p) ^^^ (-1))) = nI g := by
  have : ∀ p, p < 8 → ∀ g, g < 256 → g < 2 ^ p → (nI (g ||| 2 ^ p) &&& (nI (2 ^ p) ^^^ (-1))) = nI g := by decide +kernel
  have h9 : 2 ^ p ≤ 2 ^ 8 := Nat.pow_le_pow_right (by omega) (by omega)
  exact this p hp g (Nat.lt_of_lt_of_le hg h9) hg
