/-! ===== who can have paved what: the count is the count of the rows (pure) ===== -/
theorem sm_congr {a b : Nat → Nat} : ∀ n, (∀ i, i < n → a i = b i) → sm a n = sm b n
  | 0, _ => rfl
  | n + 1, h => by simp only [sm]; rw [sm_congr n (fun i hi => h i (by omega)), h n (by omega)]
theorem sm_plus (a b : Nat → Nat) : ∀ n, sm (fun i => a i + b i) n = sm a n + sm b n
  | 0 => rfl
  | n + 1 => by simp only [sm]; rw [sm_plus a b n]; omega
theorem sm_nul : ∀ n, sm (fun _ => 0) n = 0
  | 0 => rfl
  | n + 1 => by simp only [sm]; rw [sm_nul n]
theorem sm_swap (X : Nat → Nat → Nat) (m : Nat) : ∀ n, sm (fun a => sm (fun f => X a f) m) n = sm (fun f => sm (fun a => X a f) n) m
  | 0 => (sm_nul m).symm
  | n + 1 => by
    simp only [sm]
    rw [sm_swap X m n, ← sm_plus]
theorem sm_one (g : Nat → Nat) (m : Nat) : ∀ K, sm (fun n => if n = m then g n else 0) K = if m < K then g m else 0
  | 0 => rfl
  | K + 1 => by
    simp only [sm]
    rw [sm_one g m K]
    by_cases e : K = m
    · subst e
      rw [if_pos rfl, if_neg (by omega), if_pos (by omega), Nat.zero_add]
    · rw [if_neg e, Nat.add_zero]
      by_cases h : m < K
      · rw [if_pos h, if_pos (by omega)]
      · rw [if_neg h, if_neg (by omega)]
theorem cnt_sm (g : Nat → Bool) : ∀ n, cnt g n = sm (fun i => if g i = true then 1 else 0) n
  | 0 => rfl
  | n + 1 => by simp only [cnt, sm]; rw [cnt_sm g n]
theorem cnt_add (g : Nat → Bool) (a : Nat) : ∀ b, cnt g (a + b) = cnt g a + cnt (fun i => g (a + i)) b
  | 0 => rfl
  | b + 1 => by
    show cnt g (a + b) + (if g (a + b) = true then 1 else 0) = cnt g a + (cnt (fun i => g (a + i)) b + (if g (a + b) = true then 1 else 0))
    rw [cnt_add g a b]
    omega
theorem cnt_mul (g : Nat → Bool) (m : Nat) : ∀ n, cnt g (n * m) = sm (fun a => cnt (fun f => g (a * m + f)) m) n
  | 0 => by rw [Nat.zero_mul]; rfl
  | n + 1 => by rw [Nat.succ_mul, cnt_add, cnt_mul g m n]; rfl
theorem cnt_cg {g h : Nat → Bool} : ∀ n, (∀ i, i < n → g i = h i) → cnt g n = cnt h n
  | 0, _ => rfl
  | n + 1, e => by simp only [cnt]; rw [cnt_cg n (fun i hi => e i (by omega)), e n (by omega)]
theorem acU_v (num : Nat → Nat) (f : Nat) (aft : Nat → Nat) (s : Nat) : ∀ n, acU num f aft n s = aft s + sm (fun i => if i ||| 2 ^ f = s then num i else 0) n
  | 0 => rfl
  | n + 1 => by
    have ih := acU_v num f aft s n
    simp only [acU, sm]
    by_cases e : n ||| 2 ^ f = s
    · rw [if_pos e, e, upN_s, ih]; omega
    · rw [if_neg e, upN_o (fun z => e z.symm), ih]; omega
theorem acF_v (T : Tn) (N : Nw) (p : Nat) (mb : Option Nat) (num : Nat → Nat) (s : Nat) : ∀ f, acF T N p mb num f s = sm (fun g => if mayB N p mb g = true then sm (fun i => if i ||| 2 ^ g = s then num i else 0) (2 ^ tF T) else 0) f
  | 0 => rfl
  | f + 1 => by
    have ih := acF_v T N p mb num s f
    simp only [acF, sm]
    by_cases e : mayB N p mb f = true
    · rw [if_pos e, if_pos e, acU_v, ih]
    · rw [if_neg e, if_neg e, ih, Nat.add_zero]
def PRw (T : Tn) (N : Nw) : Nat → Nat
  | 0 => 1
  | p + 1 => PRw T N p * (if nO N p = 5 then 1 else tF T)
/-- what a row has at its first p pieces: which have paved, if it may be -/
def moS (T : Tn) (N : Nw) (fx : Option (Nat × Nat)) : Nat → Nat → Option Nat
  | 0, _ => some 0
  | p + 1, a => if nO N p = 5 then moS T N fx p a else match moS T N fx p (a / tF T) with
    | some m => if mayB N p (fxO fx p) (a % tF T) = true then some (m ||| 2 ^ (a % tF T)) else none
    | none => none
theorem moS_lt {T : Tn} {N : Nw} {fx : Option (Nat × Nat)} (hF : 0 < tF T) : ∀ p a m, moS T N fx p a = some m → m < 2 ^ tF T
  | 0, a, m, h => by
    have e : m = 0 := (Option.some.inj h).symm
    rw [e]; exact Nat.pow_pos (by omega)
  | p + 1, a, m, h => by
    simp only [moS] at h
    by_cases h5 : nO N p = 5
    · rw [if_pos h5] at h; exact moS_lt hF p a m h
    · rw [if_neg h5] at h
      cases hm : moS T N fx p (a / tF T) with
      | none => rw [hm] at h; cases h
      | some k =>
        rw [hm] at h
        have ih := moS_lt hF p _ k hm
        simp only at h
        split at h
        · rw [← Option.some.inj h]
          exact Nat.or_lt_two_pow ih (Nat.pow_lt_pow_right (by omega) (Nat.mod_lt _ hF))
        · cases h
theorem nm_cnt {T : Tn} {N : Nw} {fx : Option (Nat × Nat)} : ∀ p s, s < 2 ^ tF T → nmS T N fx p s = cnt (fun a => decide (moS T N fx p a = some s)) (PRw T N p)
  | 0, s, hs => by
    show (if s = 0 then 1 else 0) = 0 + (if decide ((some 0 : Option Nat) = some s) = true then 1 else 0)
    by_cases e : s = 0
    · subst e; simp
    · have : ¬ 0 = s := fun z => e z.symm
      simp [e, this]
  | p + 1, s, hs => by
    by_cases h5 : nO N p = 5
    · have e1 : nmS T N fx (p + 1) = nmS T N fx p := by simp only [nmS]; rw [if_pos h5]
      have e2 : PRw T N (p + 1) = PRw T N p := by simp only [PRw]; rw [if_pos h5, Nat.mul_one]
      rw [e1, e2, nm_cnt p s hs]
      refine cnt_cg _ (fun a _ => ?_)
      have em : moS T N fx (p + 1) a = moS T N fx p a := by simp only [moS]; rw [if_pos h5]
      rw [em]
    · have e1 : nmS T N fx (p + 1) = acF T N p (fxO fx p) (nmS T N fx p) (tF T) := by simp only [nmS]; rw [if_neg h5]
      have e2 : PRw T N (p + 1) = PRw T N p * tF T := by simp only [PRw]; rw [if_neg h5]
      rw [e1, e2, acF_v, cnt_mul]
      rcases Nat.eq_zero_or_pos (tF T) with hF | hF
      · rw [hF]
        show 0 = sm (fun a => 0) (PRw T N p)
        rw [sm_nul]
      have e3 : ∀ a, cnt (fun f => decide (moS T N fx (p + 1) (a * tF T + f) = some s)) (tF T) = sm (fun f => if mayB N p (fxO fx p) f = true then (match moS T N fx p a with | some m => if m ||| 2 ^ f = s then 1 else 0 | none => 0) else 0) (tF T) := by
        intro a
        rw [cnt_sm]
        refine sm_congr _ (fun f hf => ?_)
        have d1 : (a * tF T + f) / tF T = a := by
          rw [Nat.mul_comm, Nat.mul_add_div hF, Nat.div_eq_of_lt hf, Nat.add_zero]
        have d2 : (a * tF T + f) % tF T = f := by
          rw [Nat.mul_comm, Nat.mul_add_mod, Nat.mod_eq_of_lt hf]
        have em : moS T N fx (p + 1) (a * tF T + f) = (match moS T N fx p a with
            | some m => if mayB N p (fxO fx p) f = true then some (m ||| 2 ^ f) else none
            | none => none) := by
          simp only [moS]
          rw [if_neg h5, d1, d2]
        rw [em]
        cases hm : moS T N fx p a with
        | none => simp
        | some m =>
          by_cases hb : mayB N p (fxO fx p) f = true
          · simp [hb]
          · simp [hb]
      have e4 : sm (fun a => cnt (fun f => decide (moS T N fx (p + 1) (a * tF T + f) = some s)) (tF T)) (PRw T N p) = sm (fun a => sm (fun f => if mayB N p (fxO fx p) f = true then (match moS T N fx p a with | some m => if m ||| 2 ^ f = s then 1 else 0 | none => 0) else 0) (tF T)) (PRw T N p) := sm_congr _ (fun a _ => e3 a)
      rw [e4, sm_swap]
      refine sm_congr _ (fun f hf => ?_)
      by_cases hb : mayB N p (fxO fx p) f = true
      · rw [if_pos hb]
        have e5 : sm (fun a => if mayB N p (fxO fx p) f = true then (match moS T N fx p a with | some m => if m ||| 2 ^ f = s then 1 else 0 | none => 0) else 0) (PRw T N p) = sm (fun a => sm (fun i => if i ||| 2 ^ f = s then (if moS T N fx p a = some i then 1 else 0) else 0) (2 ^ tF T)) (PRw T N p) := by
          refine sm_congr _ (fun a _ => ?_)
          rw [if_pos hb]
          cases hm : moS T N fx p a with
          | none =>
            have : sm (fun i => if i ||| 2 ^ f = s then (if (none : Option Nat) = some i then 1 else 0) else 0) (2 ^ tF T) = sm (fun _ => 0) (2 ^ tF T) := sm_congr _ (fun i _ => by simp)
            rw [this, sm_nul]
          | some m =>
            have hlt := moS_lt hF p a m hm
            have : sm (fun i => if i ||| 2 ^ f = s then (if some m = some i then 1 else 0) else 0) (2 ^ tF T) = sm (fun i => if i = m then (if i ||| 2 ^ f = s then 1 else 0) else 0) (2 ^ tF T) := sm_congr _ (fun i _ => by
              by_cases e : i = m
              · subst e; simp
              · have : ¬ m = i := fun z => e z.symm
                simp [e, this])
            rw [this, sm_one, if_pos hlt]
        rw [e5, sm_swap]
        refine sm_congr _ (fun i hi => ?_)
        by_cases e : i ||| 2 ^ f = s
        · rw [if_pos e, nm_cnt p i hi, cnt_sm]
          refine sm_congr _ (fun a _ => ?_)
          rw [if_pos e]
          simp
        · rw [if_neg e]
          have : sm (fun a => if i ||| 2 ^ f = s then (if moS T N fx p a = some i then 1 else 0) else 0) (PRw T N p) = sm (fun _ => 0) (PRw T N p) := sm_congr _ (fun a _ => if_neg e)
          rw [this, sm_nul]
      · rw [if_neg hb]
        have : sm (fun a => if mayB N p (fxO fx p) f = true then (match moS T N fx p a with | some m => if m ||| 2 ^ f = s then 1 else 0 | none => 0) else 0) (PRw T N p) = sm (fun _ => 0) (PRw T N p) := sm_congr _ (fun a _ => if_neg hb)
        rw [this, sm_nul]
/-- the rows are those of the reference -/
theorem PR_MR {T : Tn} {N : Nw} (h8 : tP T ≤ 8) : ∀ p k, p + k = tP T → PRw T N p * MR T (stm N) k p = MR T (stm N) (tP T) 0
  | 0, k, h => by
    rw [show k = tP T by omega]; exact Nat.one_mul _
  | p + 1, k, h => by
    rw [← PR_MR h8 p (k + 1) (by omega)]
    simp only [PRw, MR]
    rw [Nat.mul_assoc]
    congr 2
    by_cases h5 : nO N p = 5
    · rw [if_pos h5, if_pos ((bit_st (by omega)).mpr h5)]
    · rw [if_neg h5, if_neg (fun z => h5 ((bit_st (by omega)).mp z))]
theorem PR_P {T : Tn} {N : Nw} (h8 : tP T ≤ 8) : PRw T N (tP T) = MR T (stm N) (tP T) 0 := by
  rw [← PR_MR (N := N) h8 (tP T) 0 (by omega)]; exact (Nat.mul_one _).symm
def orD (T : Tn) (N : Nw) (row : Nat) : Nat → Nat
  | 0 => 0
  | p + 1 => if nO N p = 5 then orD T N row p else orD T N row p ||| 2 ^ dA T (stm N) row p
def okD (T : Tn) (N : Nw) (fx : Option (Nat × Nat)) (row p : Nat) : Prop := ∀ q, q < p → ¬ nO N q = 5 → mayB N q (fxO fx q) (dA T (stm N) row q) = true
theorem moS_row {T : Tn} {N : Nw} {fx : Option (Nat × Nat)} {row : Nat} (h8 : tP T ≤ 8) : ∀ p, p ≤ tP T → (okD T N fx row p → moS T N fx p (row / MR T (stm N) (tP T - p) p) = some (orD T N row p)) ∧ (¬ okD T N fx row p → moS T N fx p (row / MR T (stm N) (tP T - p) p) = none)
  | 0, _ => ⟨fun _ => rfl, fun h => absurd (fun q hq => by omega) h⟩
  | p + 1, hp => by
    obtain ⟨i1, i2⟩ := moS_row (fx := fx) (row := row) h8 p (by omega)
    have eM : MR T (stm N) (tP T - p) p = (if stm N / 2 ^ p % 2 = 1 then 1 else tF T) * MR T (stm N) (tP T - (p + 1)) (p + 1) := by
      rw [show tP T - p = (tP T - (p + 1)) + 1 by omega]
      simp only [MR]
    by_cases h5 : nO N p = 5
    · rw [if_pos ((bit_st (by omega)).mpr h5), Nat.one_mul] at eM
      rw [eM] at i1 i2
      have e : okD T N fx row (p + 1) ↔ okD T N fx row p := by
        constructor
        · intro h q hq hn; exact h q (by omega) hn
        · intro h q hq hn
          by_cases e : q = p
          · subst e; exact absurd h5 hn
          · exact h q (by omega) hn
      simp only [moS, orD]
      rw [if_pos h5, if_pos h5, e]
      exact ⟨i1, i2⟩
    · rw [if_neg (fun z => h5 ((bit_st (by omega)).mp z))] at eM
      have eD : row / MR T (stm N) (tP T - (p + 1)) (p + 1) / tF T = row / MR T (stm N) (tP T - p) p := by rw [Nat.div_div_eq_div_mul, eM, Nat.mul_comm]
      have ed : row / MR T (stm N) (tP T - (p + 1)) (p + 1) % tF T = dA T (stm N) row p := rfl
      simp only [moS, orD]
      rw [if_neg h5, if_neg h5, eD, ed]
      constructor
      · intro h
        rw [i1 (fun q hq hn => h q (by omega) hn)]
        simp only
        rw [if_pos (h p (by omega) h5)]
      · intro h
        by_cases hp2 : okD T N fx row p
        · rw [i1 hp2]
          simp only
          rw [if_neg]
          intro hm
          apply h
          intro q hq hn
          by_cases e : q = p
          · subst e; exact hm
          · exact hp2 q (by omega) hn
        · rw [i2 hp2]
theorem orD_tb {T : Tn} {N : Nw} {row i : Nat} : ∀ p, (orD T N row p).testBit i = true ↔ ∃ q, q < p ∧ ¬ nO N q = 5 ∧ dA T (stm N) row q = i
  | 0 => by
    show (0 : Nat).testBit i = true ↔ _
    rw [Nat.zero_testBit]
    exact ⟨fun h => (by cases h), fun ⟨q, hq, _⟩ => by omega⟩
  | p + 1 => by
    have ih := orD_tb (T := T) (N := N) (row := row) (i := i) p
    simp only [orD]
    by_cases h5 : nO N p = 5
    · rw [if_pos h5, ih]
      constructor
      · rintro ⟨q, a, b, c⟩; exact ⟨q, by omega, b, c⟩
      · rintro ⟨q, a, b, c⟩
        by_cases e : q = p
        · subst e; exact absurd h5 b
        · exact ⟨q, by omega, b, c⟩
    · rw [if_neg h5, Nat.testBit_or, Bool.or_eq_true, ih, Nat.testBit_two_pow, decide_eq_true_eq]
      constructor
      · rintro (⟨q, a, b, c⟩ | h)
        · exact ⟨q, by omega, b, c⟩
        · exact ⟨p, by omega, h5, h⟩
      · rintro ⟨q, a, b, c⟩
        by_cases e : q = p
        · subst e; exact Or.inr c
        · exact Or.inl ⟨q, by omega, b, c⟩
/-- a row is good -/
def gdR (T : Tn) (N : Nw) (row : Nat) : Nat → Bool
  | 0 => true
  | f + 1 => gdR T N row f && (decide (¬ gA T (stm N) row (tP T) f = 0) && decide (gA T (stm N) row (tP T) f &&& nW N f = 0))
theorem gdR_iff {T : Tn} {N : Nw} {row : Nat} : ∀ n, gdR T N row n = true ↔ ∀ f, f < n → ¬ gA T (stm N) row (tP T) f = 0 ∧ gA T (stm N) row (tP T) f &&& nW N f = 0
  | 0 => ⟨fun _ f hf => by omega, fun _ => rfl⟩
  | n + 1 => by
    have ih := gdR_iff (T := T) (N := N) (row := row) n
    simp only [gdR]
    rw [Bool.and_eq_true, Bool.and_eq_true, ih, decide_eq_true_eq, decide_eq_true_eq]
    constructor
    · rintro ⟨h1, h2⟩ f hf
      by_cases e : f = n
      · subst e; exact h2
      · exact h1 f (by omega)
    · intro h
      exact ⟨fun f hf => h f (by omega), h n (by omega)⟩
theorem gA_tb {T : Tn} {N : Nw} {row f q : Nat} (h8 : tP T ≤ 8) : (gA T (stm N) row (tP T) f).testBit q = true ↔ q < tP T ∧ ¬ nO N q = 5 ∧ dA T (stm N) row q = f := by
  unfold gA
  rw [msk_tb, Bool.and_eq_true, decide_eq_true_eq, decide_eq_true_eq]
  constructor
  · rintro ⟨a, b, c⟩; exact ⟨a, fun z => b ((bit_st (by omega)).mpr z), c⟩
  · rintro ⟨a, b, c⟩; exact ⟨a, fun z => b ((bit_st (by omega)).mp z), c⟩
theorem ne0_tb {n : Nat} : ¬ n = 0 ↔ ∃ q, n.testBit q = true := by
  constructor
  · intro h
    exact Classical.byContradiction (fun hn => h (Nat.eq_of_testBit_eq (fun i => by
      rw [Nat.zero_testBit]
      cases hb : n.testBit i with
      | false => rfl
      | true => exact absurd ⟨i, hb⟩ hn)))
  · rintro ⟨q, hq⟩ h
    rw [h, Nat.zero_testBit] at hq
    cases hq
theorem bit0_tb {n q : Nat} : n / 2 ^ q % 2 = 0 ↔ ¬ n.testBit q = true := by
  rw [Nat.testBit_eq_decide_div_mod_eq, decide_eq_true_eq]
  have : n / 2 ^ q % 2 < 2 := Nat.mod_lt _ (by omega)
  omega
theorem good_iff {T : Tn} {N : Nw} {row : Nat} (h8 : tP T ≤ 8) (hr : row < MR T (stm N) (tP T) 0) : gdR T N row (tF T) = true ↔ okD T N none row (tP T) ∧ orD T N row (tP T) = 2 ^ tF T - 1 := by
  have hd : ∀ q, q < tP T → ¬ nO N q = 5 → dA T (stm N) row q < tF T := fun q hq h5 => Nat.mod_lt _ (MR_pos hr hq (fun z => h5 ((bit_st (by omega)).mp z)))
  have hmay : ∀ q g, mayB N q (fxO none q) g = true ↔ nW N g / 2 ^ q % 2 = 0 := fun q g => by
    unfold mayB fxO
    simp
  rw [gdR_iff]
  constructor
  · intro h
    refine ⟨fun q hq h5 => ?_, ?_⟩
    · rw [hmay, bit0_tb]
      intro hb
      have h2 := (h _ (hd q hq h5)).2
      have h3 : (gA T (stm N) row (tP T) (dA T (stm N) row q)).testBit q = true := (gA_tb h8).mpr ⟨hq, h5, rfl⟩
      have h4 : (gA T (stm N) row (tP T) (dA T (stm N) row q) &&& nW N (dA T (stm N) row q)).testBit q = true := by
        rw [Nat.testBit_and, h3, hb]; rfl
      rw [h2, Nat.zero_testBit] at h4
      cases h4
    · apply Nat.eq_of_testBit_eq
      intro i
      rw [Nat.testBit_two_pow_sub_one]
      by_cases hi : i < tF T
      · obtain ⟨q, hq⟩ := ne0_tb.mp (h i hi).1
        rw [(orD_tb (tP T)).mpr ⟨q, (gA_tb h8).mp hq⟩]
        simp [hi]
      · have : ¬ (orD T N row (tP T)).testBit i = true := fun z => by
          obtain ⟨q, a, b, c⟩ := (orD_tb (tP T)).mp z
          have := hd q a b
          omega
        simp [hi, this]
  · rintro ⟨h1, h2⟩ f hf
    have hb : (orD T N row (tP T)).testBit f = true := by rw [h2, Nat.testBit_two_pow_sub_one]; simp [hf]
    obtain ⟨q, a, b, c⟩ := (orD_tb (tP T)).mp hb
    refine ⟨ne0_tb.mpr ⟨q, (gA_tb h8).mpr ⟨a, b, c⟩⟩, ?_⟩
    apply Nat.eq_of_testBit_eq
    intro i
    rw [Nat.zero_testBit, Nat.testBit_and]
    cases hg : (gA T (stm N) row (tP T) f).testBit i with
    | false => rfl
    | true =>
      obtain ⟨a2, b2, c2⟩ := (gA_tb h8).mp hg
      have := (hmay _ _).mp (h1 i a2 b2)
      rw [c2, bit0_tb] at this
      cases hw : (nW N f).testBit i with
      | false => rfl
      | true => exact absurd hw this
theorem mo_good {T : Tn} {N : Nw} {row : Nat} (h8 : tP T ≤ 8) (hr : row < MR T (stm N) (tP T) 0) : decide (moS T N none (tP T) row = some (2 ^ tF T - 1)) = gdR T N row (tF T) := by
  obtain ⟨i1, i2⟩ := moS_row (N := N) (fx := none) (row := row) h8 (tP T) (Nat.le_refl _)
  rw [Nat.sub_self] at i1 i2
  have e1 : row / MR T (stm N) 0 (tP T) = row := Nat.div_one row
  rw [e1] at i1 i2
  have hg := good_iff h8 hr
  by_cases ho : okD T N none row (tP T)
  · rw [i1 ho]
    by_cases h2 : orD T N row (tP T) = 2 ^ tF T - 1
    · rw [hg.mpr ⟨ho, h2⟩, h2]; simp
    · have : ¬ gdR T N row (tF T) = true := fun z => h2 (hg.mp z).2
      simp [h2, this]
  · rw [i2 ho]
    have : ¬ gdR T N row (tF T) = true := fun z => ho (hg.mp z).1
    simp [this]
theorem two_lt (F : Nat) : 2 ^ F - 1 < 2 ^ F := by have : 0 < 2 ^ F := Nat.pow_pos (by omega); omega
theorem fit_cnt {T : Tn} {N : Nw} (h8 : tP T ≤ 8) : fitN T N none = cnt (fun row => gdR T N row (tF T)) (MR T (stm N) (tP T) 0) := by
  unfold fitN
  rw [nm_cnt _ _ (two_lt _), PR_P h8]
  exact cnt_cg _ (fun row hr => mo_good h8 hr)
theorem cnt_ex {g : Nat → Bool} : ∀ n, 0 < cnt g n ↔ ∃ i, i < n ∧ g i = true
  | 0 => ⟨fun h => by simp [cnt] at h, fun ⟨i, hi, _⟩ => by omega⟩
  | n + 1 => by
    have ih := cnt_ex (g := g) n
    simp only [cnt]
    constructor
    · intro h
      by_cases hg : g n = true
      · exact ⟨n, by omega, hg⟩
      · rw [if_neg hg] at h
        obtain ⟨i, a, b⟩ := ih.mp (by omega)
        exact ⟨i, by omega, b⟩
    · rintro ⟨i, a, b⟩
      by_cases e : i = n
      · subst e; rw [if_pos b]; omega
      · have := ih.mpr ⟨i, by omega, b⟩; omega
theorem fit_fx {T : Tn} {N : Nw} (h8 : tP T ≤ 8) {q f : Nat} (hq : q < tP T) (h5 : ¬ nO N q = 5) : 0 < fitN T N (some (q, f)) ↔ ∃ row, row < MR T (stm N) (tP T) 0 ∧ gdR T N row (tF T) = true ∧ dA T (stm N) row q = f := by
  unfold fitN
  rw [nm_cnt _ _ (two_lt _), PR_P h8, cnt_ex]
  have key : ∀ row, row < MR T (stm N) (tP T) 0 → (decide (moS T N (some (q, f)) (tP T) row = some (2 ^ tF T - 1)) = true ↔ gdR T N row (tF T) = true ∧ dA T (stm N) row q = f) := by
    intro row hr
    obtain ⟨i1, i2⟩ := moS_row (N := N) (fx := some (q, f)) (row := row) h8 (tP T) (Nat.le_refl _)
    rw [Nat.sub_self] at i1 i2
    have e1 : row / MR T (stm N) 0 (tP T) = row := Nat.div_one row
    rw [e1] at i1 i2
    have hok : okD T N (some (q, f)) row (tP T) ↔ okD T N none row (tP T) ∧ dA T (stm N) row q = f := by
      constructor
      · intro h
        refine ⟨fun q2 h2 h3 => ?_, ?_⟩
        · have := h q2 h2 h3
          unfold mayB at this ⊢
          rw [Bool.and_eq_true] at this ⊢
          exact ⟨this.1, by simp [fxO]⟩
        · have := h q hq h5
          unfold mayB at this
          rw [Bool.and_eq_true] at this
          have h9 := this.2
          simp [fxO] at h9
          exact h9.symm
      · rintro ⟨h, hd⟩ q2 h2 h3
        have := h q2 h2 h3
        unfold mayB at this ⊢
        rw [Bool.and_eq_true] at this ⊢
        refine ⟨this.1, ?_⟩
        by_cases e : q = q2
        · subst e; simp [fxO, hd]
        · simp [fxO, e]
    rw [decide_eq_true_eq, good_iff h8 hr]
    by_cases ho : okD T N (some (q, f)) row (tP T)
    · rw [i1 ho]
      have h9 := hok.mp ho
      exact ⟨fun z => ⟨⟨h9.1, Option.some.inj z⟩, h9.2⟩, fun z => by rw [z.1.2]⟩
    · rw [i2 ho]
      exact ⟨fun z => (by cases z), fun z => absurd (hok.mpr ⟨z.1.1, z.2⟩) ho⟩
  constructor
  · rintro ⟨row, a, b⟩; exact ⟨row, a, (key row a).mp b⟩
  · rintro ⟨row, a, b⟩; exact ⟨row, a, (key row a).mpr b⟩
/-- who has had piece q in the good rows -/
def pvR (T : Tn) (N : Nw) (q : Nat) : Nat → Nat
  | 0 => 0
  | r + 1 => if gdR T N r (tF T) = true ∧ ¬ nO N q = 5 then pvR T N q r ||| 2 ^ dA T (stm N) r q else pvR T N q r
theorem pvR_tb {T : Tn} {N : Nw} {q i : Nat} (h5 : ¬ nO N q = 5) : ∀ n, (pvR T N q n).testBit i = true ↔ ∃ r, r < n ∧ gdR T N r (tF T) = true ∧ dA T (stm N) r q = i
  | 0 => by
    show (0 : Nat).testBit i = true ↔ _
    rw [Nat.zero_testBit]
    exact ⟨fun h => (by cases h), fun ⟨q, hq, _⟩ => by omega⟩
  | n + 1 => by
    have ih := pvR_tb (T := T) (N := N) (q := q) (i := i) h5 n
    simp only [pvR]
    by_cases hg : gdR T N n (tF T) = true
    · rw [if_pos ⟨hg, h5⟩, Nat.testBit_or, Bool.or_eq_true, ih, Nat.testBit_two_pow, decide_eq_true_eq]
      constructor
      · rintro (⟨r, a, b, c⟩ | h)
        · exact ⟨r, by omega, b, c⟩
        · exact ⟨n, by omega, hg, h⟩
      · rintro ⟨r, a, b, c⟩
        by_cases e : r = n
        · subst e; exact Or.inr c
        · exact Or.inl ⟨r, by omega, b, c⟩
    · rw [if_neg (fun z => hg z.1), ih]
      constructor
      · rintro ⟨r, a, b, c⟩; exact ⟨r, by omega, b, c⟩
      · rintro ⟨r, a, b, c⟩
        by_cases e : r = n
        · subst e; exact absurd b hg
        · exact ⟨r, by omega, b, c⟩
theorem pv_msk {T : Tn} {N : Nw} (h8 : tP T ≤ 8) {q : Nat} (hq : q < tP T) (h5 : ¬ nO N q = 5) : pvR T N q (MR T (stm N) (tP T) 0) = msk (fun f => decide (0 < fitN T N (some (q, f)))) (tF T) := by
  apply Nat.eq_of_testBit_eq
  intro i
  rw [msk_tb]
  by_cases hi : i < tF T
  · have e : (pvR T N q (MR T (stm N) (tP T) 0)).testBit i = true ↔ 0 < fitN T N (some (q, i)) := by rw [pvR_tb h5, fit_fx h8 hq h5]
    by_cases h : 0 < fitN T N (some (q, i))
    · rw [e.mpr h]; simp [hi, h]
    · have : ¬ (pvR T N q (MR T (stm N) (tP T) 0)).testBit i = true := fun z => h (e.mp z)
      have : (pvR T N q (MR T (stm N) (tP T) 0)).testBit i = false := by simpa using this
      rw [this]; simp [h]
  · have : ¬ (pvR T N q (MR T (stm N) (tP T) 0)).testBit i = true := fun z => by
      obtain ⟨r, a, b, c⟩ := (pvR_tb h5 _).mp z
      have : dA T (stm N) r q < tF T := Nat.mod_lt _ (MR_pos a hq (fun z => h5 ((bit_st (by omega)).mp z)))
      omega
    have : (pvR T N q (MR T (stm N) (tP T) 0)).testBit i = false := by simpa using this
    rw [this]; simp [hi]
/-- the one family of a set -/
def whL (m : Nat) : Nat → Nat → Int32
  | 0, _ => -9
  | k + 1, f => if m = 2 ^ f then nI f else whL m k (f + 1)
theorem unq_cg {g h : Nat → Bool} : ∀ n, (∀ i, i < n → g i = h i) → unq g n = unq h n
  | 0, _ => rfl
  | n + 1, e => by
    show (match unq g n with | none => none | some o => if g n then (match o with | none => some (some n) | some _ => none) else some o) = (match unq h n with | none => none | some o => if h n then (match o with | none => some (some n) | some _ => none) else some o)
    rw [unq_cg n (fun i hi => e i (by omega)), e n (by omega)]
theorem unq_wh (g : Nat → Bool) {F : Nat} (hF : F ≤ 4) : unqI (unq g F) = whL (msk g F) F 0 := by
  have key : ∀ F, F ≤ 4 → ∀ m, m < 16 → m < 2 ^ F → unqI (unq (fun f => decide (m / 2 ^ f % 2 = 1)) F) = whL m F 0 := by decide +kernel
  have hlt := msk_lt g F
  have h16 : 2 ^ F ≤ 2 ^ 4 := Nat.pow_le_pow_right (by omega) hF
  rw [← key F hF (msk g F) (by omega) hlt]
  congr 1
  refine unq_cg _ (fun i hi => ?_)
  rw [msk_bit]
  cases hg : g i with
  | false => simp
  | true => simp [hi]
