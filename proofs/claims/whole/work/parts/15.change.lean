/-! ===== changes of two pieces (pure) ===== -/
def om (ow : Nat → Nat) (f : Nat) : Nat := msk (fun x => decide (ow x = f)) 8
def exo (ow : Nat → Nat) (p q : Nat) : Nat → Nat := upN (upN ow p (ow q)) q (ow p)
def gn (T : Tn) (ow : Nat → Nat) (p q : Nat) : Bool := decide (yd T (ow p) (om (exo ow p q) (ow p)) < yd T (ow p) (om ow (ow p)))
def chk (T : Tn) (ow : Nat → Nat) (p q : Nat) : Bool := decide (ow p < 4) && decide (ow q < 4) && !decide (ow p = ow q) && gn T ow p q && gn T ow q p
def chq (T : Tn) (ow : Nat → Nat) (p : Nat) : Nat → Nat → Option Nat
  | 0, _ => none
  | k + 1, q => if chk T ow p q then some (10 * p + q) else chq T ow p k (q + 1)
def chp (T : Tn) (ow : Nat → Nat) : Nat → Nat → Option Nat
  | 0, _ => none
  | k + 1, p => (chq T ow p (tP T - (p + 1)) (p + 1)).or (chp T ow k (p + 1))
def chg (T : Tn) (ow : Nat → Nat) : Option Nat := chp T ow (tP T) 0
def oNone (o : Option Nat) : Int32 := match o with
  | some r => nI r
  | none => -9
theorem om_lt (ow : Nat → Nat) (f : Nat) : om ow f < 256 := msk_lt _ 8
theorem exo_p {ow : Nat → Nat} {p q : Nat} (h : p ≠ q) : exo ow p q p = ow q := by unfold exo; rw [upN_o h, upN_s]
theorem exo_q {ow : Nat → Nat} {p q : Nat} : exo ow p q q = ow p := by unfold exo; rw [upN_s]
theorem exo_o {ow : Nat → Nat} {p q x : Nat} (h : x ≠ p) (h2 : x ≠ q) : exo ow p q x = ow x := by unfold exo; rw [upN_o h2, upN_o h]
theorem exo_comm (ow : Nat → Nat) {p q : Nat} (h : p ≠ q) : exo ow p q = exo ow q p := by
  funext x
  by_cases h1 : x = p
  · subst h1; rw [exo_p h, exo_q]
  · by_cases h2 : x = q
    · subst h2; rw [exo_q, exo_p (Ne.symm h)]
    · rw [exo_o h1 h2, exo_o h2 h1]
theorem chq_none {T : Tn} {ow : Nat → Nat} {p : Nat} : ∀ {k q : Nat}, chq T ow p k q = none ↔ ∀ x, q ≤ x → x < q + k → chk T ow p x = false
  | 0, q => by simp only [chq, true_iff]; intro x h1 h2; omega
  | k + 1, q => by
    simp only [chq]
    by_cases h : chk T ow p q = true
    · simp only [h, if_true]
      constructor
      · intro z; cases z
      · intro z; have := z q (Nat.le_refl _) (by omega); rw [h] at this; cases this
    · rw [if_neg h, chq_none (k := k) (q := q + 1)]
      constructor
      · intro z x h1 h2
        by_cases e : x = q
        · subst e; simpa using h
        · exact z x (by omega) (by omega)
      · intro z x h1 h2; exact z x (by omega) (by omega)
theorem chq_some {T : Tn} {ow : Nat → Nat} {p r : Nat} : ∀ {k q : Nat}, chq T ow p k q = some r → ∃ x, q ≤ x ∧ x < q + k ∧ r = 10 * p + x ∧ chk T ow p x = true
  | 0, q, h => by cases h
  | k + 1, q, h => by
    simp only [chq] at h
    split at h
    · rename_i h1
      cases h
      exact ⟨q, Nat.le_refl _, by omega, rfl, h1⟩
    · obtain ⟨x, a, b, c⟩ := chq_some h
      exact ⟨x, by omega, by omega, c⟩
theorem chp_some {T : Tn} {ow : Nat → Nat} {r : Nat} : ∀ {k p : Nat}, p + k = tP T → chp T ow k p = some r → ∃ x y, x < y ∧ y < tP T ∧ r = 10 * x + y ∧ chk T ow x y = true
  | 0, p, _, h => by cases h
  | k + 1, p, hk, h => by
    simp only [chp] at h
    cases hq : chq T ow p (tP T - (p + 1)) (p + 1) with
    | some r2 =>
      rw [hq] at h
      simp only [Option.some_or] at h
      cases h
      obtain ⟨x, a, b, c, d⟩ := chq_some hq
      exact ⟨p, x, by omega, by omega, c, d⟩
    | none =>
      rw [hq, Option.none_or] at h
      exact chp_some (by omega) h
theorem chg_some {T : Tn} {ow : Nat → Nat} {r : Nat} (h : chg T ow = some r) : ∃ x y, x < y ∧ y < tP T ∧ r = 10 * x + y ∧ chk T ow x y = true := chp_some (by omega) h
/-- what is left to gain -/
def capY (T : Tn) (f B : Nat) : Nat := if yd T f B < 100000 then yd T f B else 2406
def mu (T : Tn) (ow : Nat → Nat) : Nat := capY T 0 (om ow 0) + capY T 1 (om ow 1) + capY T 2 (om ow 2) + capY T 3 (om ow 3)
theorem capY_le {T : Tn} (hT : TnOk T) (f B : Nat) : capY T f B ≤ 2406 := by
  unfold capY
  have := yd_bd hT f B
  split <;> omega
theorem mu_le {T : Tn} (hT : TnOk T) (ow : Nat → Nat) : mu T ow ≤ 9624 := by
  have h0 := capY_le hT 0 (om ow 0)
  have h1 := capY_le hT 1 (om ow 1)
  have h2 := capY_le hT 2 (om ow 2)
  have h3 := capY_le hT 3 (om ow 3)
  unfold mu; omega
theorem om_same {ow : Nat → Nat} {p q f : Nat} (h1 : ow p ≠ f) (h2 : ow q ≠ f) : om (exo ow p q) f = om ow f := by
  unfold om
  refine msk_congr (fun x _ => ?_)
  by_cases e2 : x = q
  · subst e2; rw [exo_q]; simp [h1, h2]
  · by_cases e1 : x = p
    · subst e1; rw [exo_p e2]; simp [h1, h2]
    · rw [exo_o e1 e2]
theorem capY_lt {T : Tn} (hT : TnOk T) {f B C : Nat} (h : yd T f B < yd T f C) : capY T f B < capY T f C := by
  have h1 := yd_bd hT f B
  have h2 := yd_bd hT f C
  unfold capY
  (repeat' split) <;> omega
theorem mu_lt {T : Tn} (hT : TnOk T) {ow : Nat → Nat} {p q : Nat} (hpq : p ≠ q) (h : chk T ow p q = true) : mu T (exo ow p q) < mu T ow := by
  simp only [chk, Bool.and_eq_true, decide_eq_true_eq, Bool.not_eq_true', decide_eq_false_iff_not, gn] at h
  obtain ⟨⟨⟨⟨h1, h2⟩, h3⟩, h4⟩, h5⟩ := h
  rw [exo_comm ow (Ne.symm hpq)] at h5
  have c1 := capY_lt hT h4
  have c2 := capY_lt hT h5
  have key : ∀ f, capY T f (om (exo ow p q) f) ≤ capY T f (om ow f) := by
    intro f
    by_cases e1 : ow p = f
    · subst e1; omega
    · by_cases e2 : ow q = f
      · subst e2; omega
      · rw [om_same e1 e2]; exact Nat.le_refl _
  have k0 := key 0
  have k1 := key 1
  have k2 := key 2
  have k3 := key 3
  unfold mu
  rcases (show ow p = 0 ∨ ow p = 1 ∨ ow p = 2 ∨ ow p = 3 by omega) with e | e | e | e <;> rw [e] at c1 <;> omega
/-- how many changes there are -/
def rsN (T : Tn) : Nat → (Nat → Nat) → Nat
  | 0, _ => 0
  | n + 1, ow => match chg T ow with
    | none => 0
    | some r => rsN T n (exo ow (r / 10) (r % 10)) + 1
theorem r_div {x y : Nat} (h : y < 8) : (10 * x + y) / 10 = x ∧ (10 * x + y) % 10 = y := by omega
theorem rsN_eq {T : Tn} (hT : TnOk T) : ∀ (n m : Nat) (ow : Nat → Nat), mu T ow ≤ n → mu T ow ≤ m → rsN T n ow = rsN T m ow := by
  intro n
  induction n with
  | zero =>
    intro m ow hn hm
    cases m with
    | zero => rfl
    | succ m =>
      simp only [rsN]
      cases hc : chg T ow with
      | none => rfl
      | some r =>
        obtain ⟨x, y, h1, h2, h3, h4⟩ := chg_some hc
        have := mu_lt hT (by omega) h4
        omega
  | succ n ih =>
    intro m ow hn hm
    cases m with
    | zero =>
      simp only [rsN]
      cases hc : chg T ow with
      | none => rfl
      | some r =>
        obtain ⟨x, y, h1, h2, h3, h4⟩ := chg_some hc
        have := mu_lt hT (by omega) h4
        omega
    | succ m =>
      simp only [rsN]
      cases hc : chg T ow with
      | none => rfl
      | some r =>
        obtain ⟨x, y, h1, h2, h3, h4⟩ := chg_some hc
        have h8 := hT.1
        obtain ⟨e1, e2⟩ := r_div (x := x) (y := y) (by omega)
        rw [← h3] at e1 e2
        simp only [e1, e2]
        have := mu_lt hT (by omega) h4
        rw [ih m (exo ow x y) (by omega) (by omega)]
def rs (T : Tn) (ow : Nat → Nat) : Nat := rsN T 10000 ow
theorem rs_none {T : Tn} {ow : Nat → Nat} (h : chg T ow = none) : rs T ow = 0 := by
  show (match chg T ow with | none => 0 | some r => _) = 0
  rw [h]
theorem rs_some {T : Tn} (hT : TnOk T) {ow : Nat → Nat} {r : Nat} (h : chg T ow = some r) : rs T ow = rs T (exo ow (r / 10) (r % 10)) + 1 := by
  have e : rs T ow = rsN T 9999 (exo ow (r / 10) (r % 10)) + 1 := by
    show (match chg T ow with | none => 0 | some r => _) = _
    rw [h]
  rw [e]
  have hm := mu_le hT (exo ow (r / 10) (r % 10))
  rw [rsN_eq hT 9999 10000 _ (by omega) (by omega)]
  rfl
/-- owners that are families of the town -/
def OwOk (T : Tn) (ow : Nat → Nat) : Prop := ∀ p, ow p < 4 → ow p < tF T
theorem OwOk.exo {T : Tn} {ow : Nat → Nat} (h : OwOk T ow) {p q : Nat} : OwOk T (exo ow p q) := by
  intro x
  by_cases e2 : x = q
  · subst e2; rw [exo_q]; exact h p
  · by_cases e1 : x = p
    · subst e1; rw [exo_p e2]; exact h q
    · rw [exo_o e1 e2]; exact h x
/-- an array of owners, as the class has them -/
def OwR (S : St) (q : Nat) (ow : Nat → Nat) : Prop := ∀ p, p < 8 → S.1 q p = clO (ow p)
theorem om_get {S : St} {q f : Nat} {ow : Nat → Nat} (h : OwR S q ow) (hf : f < 4) : msk (fun p => decide (S.1 q p = nI f)) 8 = om ow f := by
  unfold om
  refine msk_congr (fun p hp => ?_)
  rw [h p hp]
  exact decide_eq_decide.mpr (clO_eq hf)
theorem clO_lt {o : Nat} (h : o < 4) : clO o = nI o := if_pos h
theorem clO_9 {o : Nat} (h : ¬ o < 4) : clO o = -9 := if_neg h
/-- bits of a mask, one taken out, one put in -/
theorem msk_swap {m p q : Nat} (hm : m < 256) (hp : p < 8) (hq : q < 8) (h1 : m / 2 ^ p % 2 = 1) (h0 : m / 2 ^ q % 2 = 0) : (nI m &&& (nI (2 ^ p) ^^^ (-1))) ||| nI (2 ^ q) = nI (m - 2 ^ p + 2 ^ q) := by
  have : ∀ m, m < 256 → ∀ p, p < 8 → ∀ q, q < 8 → m / 2 ^ p % 2 = 1 → m / 2 ^ q % 2 = 0 → (nI m &&& (nI (2 ^ p) ^^^ (-1))) ||| nI (2 ^ q) = nI (m - 2 ^ p + 2 ^ q) := by decide +kernel
  exact this m hm p hp q hq h1 h0
theorem msk_add (g h : Nat → Bool) (q : Nat) : ∀ n, (∀ x, x < n → x ≠ q → g x = h x) → g q = true → h q = false → msk g n = msk h n + (if q < n then 2 ^ q else 0)
  | 0, _, _, _ => by simp [msk]
  | n + 1, hx, h1, h2 => by
    have ih := msk_add g h q n (fun x a b => hx x (by omega) b) h1 h2
    simp only [msk]
    by_cases e : n = q
    · subst e
      rw [ih, h1, h2, if_neg (show ¬ n < n by omega), if_pos (show n < n + 1 by omega)]
      simp
    · rw [ih, hx n (by omega) e]
      by_cases hq : q < n
      · rw [if_pos hq, if_pos (show q < n + 1 by omega)]; omega
      · rw [if_neg hq, if_neg (show ¬ q < n + 1 by omega)]; omega
theorem om_exo {ow : Nat → Nat} {p q : Nat} (hp : p < 8) (hq : q < 8) (hpq : p ≠ q) (hne : ow p ≠ ow q) : om (exo ow p q) (ow p) = om ow (ow p) - 2 ^ p + 2 ^ q := by
  have a := msk_add (fun x => decide (ow x = ow p)) (fun x => decide (x ≠ p ∧ ow x = ow p)) p 8 (fun x _ hx => by simp [hx]) (by simp) (by simp)
  have b := msk_add (fun x => decide (exo ow p q x = ow p)) (fun x => decide (x ≠ p ∧ ow x = ow p)) q 8 (fun x _ hx => by
    by_cases e : x = p
    · subst e; rw [exo_p hpq]; simp [Ne.symm hne]
    · rw [exo_o e hx]; simp [e]) (by rw [exo_q]; simp) (by simp [Ne.symm hne])
  rw [if_pos hp] at a
  rw [if_pos hq] at b
  unfold om
  rw [a, b]
  have : ∀ z w : Nat, z + w - w = z := fun z w => by omega
  rw [this]
