/-! ===== who can have paved what: by sets of families that have a piece (pure) ===== -/
def acU (num : Nat → Nat) (f : Nat) (aft : Nat → Nat) : Nat → Nat → Nat
  | 0 => aft
  | n + 1 => upN (acU num f aft n) (n ||| 2 ^ f) (acU num f aft n (n ||| 2 ^ f) + num n)
def mayB (N : Nw) (p : Nat) (mb : Option Nat) (f : Nat) : Bool := decide (nW N f / 2 ^ p % 2 = 0) && (decide (mb = none) || decide (mb = some f))
def acF (T : Tn) (N : Nw) (p : Nat) (mb : Option Nat) (num : Nat → Nat) : Nat → Nat → Nat
  | 0 => fun _ => 0
  | f + 1 => if mayB N p mb f then acU num f (acF T N p mb num f) (2 ^ tF T) else acF T N p mb num f
def fxO (fx : Option (Nat × Nat)) (p : Nat) : Option Nat := match fx with
  | none => none
  | some (q, f) => if q = p then some f else none
def nmS (T : Tn) (N : Nw) (fx : Option (Nat × Nat)) : Nat → Nat → Nat
  | 0 => fun s => if s = 0 then 1 else 0
  | p + 1 => if nO N p = 5 then nmS T N fx p else acF T N p (fxO fx p) (nmS T N fx p) (tF T)
def sm (a : Nat → Nat) : Nat → Nat
  | 0 => 0
  | n + 1 => sm a n + a n
theorem sm_le (a : Nat → Nat) : ∀ n k, k < n → a k ≤ sm a n
  | 0, k, h => by omega
  | n + 1, k, h => by
    simp only [sm]
    by_cases e : k = n
    · subst e; omega
    · have := sm_le a n k (by omega); omega
theorem sm_mono (a : Nat → Nat) : ∀ m n, m ≤ n → sm a m ≤ sm a n
  | m, 0, h => by rw [show m = 0 by omega]; exact Nat.le_refl _
  | m, n + 1, h => by
    by_cases e : m = n + 1
    · subst e; exact Nat.le_refl _
    · have := sm_mono a m n (by omega); simp only [sm]; omega
theorem sm_up (a : Nat → Nat) (k x : Nat) : ∀ n, sm (upN a k (a k + x)) n = sm a n + (if k < n then x else 0)
  | 0 => by simp [sm]
  | n + 1 => by
    simp only [sm]
    rw [sm_up a k x n]
    by_cases e : n = k
    · subst e; rw [upN_s, if_neg (show ¬ n < n by omega), if_pos (show n < n + 1 by omega)]; omega
    · rw [upN_o e]
      by_cases h : k < n
      · rw [if_pos h, if_pos (show k < n + 1 by omega)]; omega
      · rw [if_neg h, if_neg (show ¬ k < n + 1 by omega)]; omega
theorem sm_acU (num : Nat → Nat) (f : Nat) (aft : Nat → Nat) : ∀ n, sm (acU num f aft n) 16 ≤ sm aft 16 + sm num n
  | 0 => Nat.le_refl _
  | n + 1 => by
    have ih := sm_acU num f aft n
    simp only [acU, sm]
    have := sm_up (acU num f aft n) (n ||| 2 ^ f) (num n) 16
    simp only [sm] at this ih ⊢
    rw [this]
    split <;> omega
theorem sm_acF {T : Tn} (N : Nw) (p : Nat) (mb : Option Nat) (num : Nat → Nat) (hF : tF T ≤ 4) : ∀ f, sm (acF T N p mb num f) 16 ≤ f * sm num 16
  | 0 => by simp [acF, sm]
  | f + 1 => by
    have ih := sm_acF (T := T) N p mb num hF f
    simp only [acF]
    have h2 : 2 ^ tF T ≤ 16 := Nat.pow_le_pow_right (by omega) hF
    have h3 := sm_mono num (2 ^ tF T) 16 h2
    split
    · have := sm_acU num f (acF T N p mb num f) (2 ^ tF T)
      rw [Nat.add_mul]; omega
    · rw [Nat.add_mul]; omega
theorem sm_nmS {T : Tn} (N : Nw) (fx : Option (Nat × Nat)) (hF : tF T ≤ 4) : ∀ p, sm (nmS T N fx p) 16 ≤ 4 ^ p
  | 0 => by simp [nmS, sm]
  | p + 1 => by
    have ih := sm_nmS (T := T) N fx hF p
    simp only [nmS]
    split
    · rw [Nat.pow_succ]; omega
    · have := sm_acF (T := T) N p (fxO fx p) (nmS T N fx p) hF (tF T)
      have h2 : tF T * sm (nmS T N fx p) 16 ≤ 4 * 4 ^ p := Nat.mul_le_mul hF ih
      rw [Nat.pow_succ]; omega
theorem nmS_le {T : Tn} (N : Nw) (fx : Option (Nat × Nat)) (hF : tF T ≤ 4) (p s : Nat) (hp : p ≤ 8) (hs : s < 16) : nmS T N fx p s ≤ 65536 := by
  have h1 := sm_nmS (T := T) N fx hF p
  have h2 := sm_le (nmS T N fx p) 16 s hs
  have h3 : 4 ^ p ≤ 4 ^ 8 := Nat.pow_le_pow_right (by omega) hp
  omega
def NbR (S : St) (c : Nat) (num : Nat → Nat) : Prop := ∀ s, s < 16 → S.1 c s = nI (num s)
def mbI (mb : Option Nat) : Int32 := match mb with
  | none => -1
  | some f => nI f
def fpI (fx : Option (Nat × Nat)) : Int32 := match fx with
  | none => -1
  | some (q, _) => nI q
def foI (fx : Option (Nat × Nat)) : Int32 := match fx with
  | none => -1
  | some (_, f) => nI f
/-- the fits, with a piece's owner fixed or not -/
def fitN (T : Tn) (N : Nw) (fx : Option (Nat × Nat)) : Nat := nmS T N fx (tP T) (2 ^ tF T - 1)
/-- the only one of the first n that has g: none: there are two; some none: there is none -/
def unq (g : Nat → Bool) : Nat → Option (Option Nat)
  | 0 => some none
  | n + 1 => match unq g n with
    | none => none
    | some o => if g n then (match o with | none => some (some n) | some _ => none) else some o
def unqI (o : Option (Option Nat)) : Int32 := match o with
  | none => -9
  | some o => oNone o
theorem or_lt16 {a b : Nat} (h : a < 16) (h2 : b < 16) : a ||| b < 16 := Nat.or_lt_two_pow (n := 4) h h2
theorem unq_none {g : Nat → Bool} {n : Nat} (h : unq g n = none) : ∀ k, unq g (n + k) = none
  | 0 => h
  | k + 1 => by
    show (match unq g (n + k) with | none => none | some o => _) = none
    rw [unq_none h k]
theorem unq_lt {g : Nat → Bool} : ∀ {n x : Nat}, unq g n = some (some x) → x < n
  | 0, x, h => by cases h
  | n + 1, x, h => by
    simp only [unq] at h
    cases hu : unq g n with
    | none => rw [hu] at h; cases h
    | some o =>
      rw [hu] at h
      simp only at h
      split at h
      · cases o with
        | none => simp at h; omega
        | some y => cases h
      · cases h
        have := unq_lt hu; omega
theorem unq_s0 {g : Nat → Bool} {n : Nat} {o : Option Nat} (h : unq g n = some o) (hg : g n = false) : unq g (n + 1) = some o := by
  show (match unq g n with | none => none | some o => _) = some o
  rw [h]
  simp [hg]
theorem unq_s1 {g : Nat → Bool} {n : Nat} (h : unq g n = some none) (hg : g n = true) : unq g (n + 1) = some (some n) := by
  show (match unq g n with | none => none | some o => _) = _
  rw [h]
  simp [hg]
theorem unq_s2 {g : Nat → Bool} {n x : Nat} (h : unq g n = some (some x)) (hg : g n = true) : unq g (n + 1) = none := by
  show (match unq g n with | none => none | some o => _) = _
  rw [h]
  simp [hg]
