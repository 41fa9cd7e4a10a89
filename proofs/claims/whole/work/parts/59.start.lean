/-! ===== the start, and what stays right (pure) ===== -/
def SeeOk (N : Nw) (r : PR) : Prop := ∀ T' N' a', r = .inr (T', N', a') → nS N' = nS N ∧ nW N' = nW N
theorem SeeOk.inl {N : Nw} {s : Nat} : SeeOk N (.inl s) := fun _ _ _ e => by cases e
theorem pNum_see {L : Nat} {x : Nat → Nat} {a m : Nat} {N : Nw} {k : Nat → Nat → PR} (h : ∀ v e, SeeOk N (k v e)) : SeeOk N (pNum L x a m k) := by
  unfold pNum
  split
  · exact h _ _
  · exact SeeOk.inl
theorem pStp_see {L : Nat} {x : Nat → Nat} {a : Nat} {T : Tn} {N N1 : Nw} (h1 : nS N1 = nS N) (h2 : nW N1 = nW N) : SeeOk N (pStp L x a fun e => .inr (T, N1, e)) := by
  unfold pStp
  split
  · intro T' N' a' e
    cases e
    exact ⟨h1, h2⟩
  · exact SeeOk.inl
theorem pItm_see {L : Nat} {x : Nat → Nat} {T : Tn} {N : Nw} {a : Nat} : SeeOk N (pItm L x T N a) := by
  unfold pItm
  split
  · unfold pPie
    split
    · exact SeeOk.inl
    · refine pNum_see (fun A e1 => pNum_see (fun B e2 => ?_))
      split
      · exact SeeOk.inl
      · refine pNum_see (fun Y e3 => ?_)
        split
        · exact SeeOk.inl
        · exact pStp_see rfl rfl
  · split
    · unfold pFam
      split
      · exact SeeOk.inl
      · refine pNum_see (fun A e1 => pNum_see (fun B e2 => pNum_see (fun Y e3 => ?_)))
        split
        · exact SeeOk.inl
        · exact pStp_see rfl rfl
    · split
      · unfold pPav
        exact pNum_see (fun p e1 => pNum_see (fun f e2 => pStp_see rfl rfl))
      · split
        · unfold pSto
          exact pNum_see (fun p e1 => pStp_see rfl rfl)
        · split
          · unfold pFlo
            exact pNum_see (fun p e1 => pNum_see (fun n e2 => pStp_see rfl rfl))
          · exact SeeOk.inl
theorem pAll_see {L : Nat} {x : Nat → Nat} : ∀ n i T N a k T' N', pAll L x n i T N a = .inr (k, T', N') → nS N' = nS N ∧ nW N' = nW N
  | 0, i, T, N, a, k, T', N', h => by cases h
  | n + 1, i, T, N, a, k, T', N', h => by
    simp only [pAll] at h
    split at h
    · cases h; exact ⟨rfl, rfl⟩
    · cases hp : pItm L x T N a with
      | inl s => rw [hp] at h; cases h
      | inr r =>
        obtain ⟨T1, N1, a1⟩ := r
        rw [hp] at h
        obtain ⟨g1, g2⟩ := pItm_see T1 N1 a1 hp
        obtain ⟨g3, g4⟩ := pAll_see n _ T1 N1 a1 k T' N' h
        exact ⟨g3.trans g1, g4.trans g2⟩
theorem town_for {L : Nat} {x : Nat → Nat} {k : Nat} {T' : Tn} {N' : Nw} (h : pAll L x 301 0 T00 N00 0 = .inr (k, T', N')) : nFor N' = N' := by
  obtain ⟨g1, g2⟩ := pAll_see _ _ _ _ _ _ _ _ h
  obtain ⟨a, b, c, d⟩ := N'
  have e1 : c = 0 := g1
  have e2 : d = fun _ => 0 := g2
  subst e1 e2
  rfl
theorem rx0 : RX s0X 0 (fun _ => 0) T00 N00 (fun _ => none) 0 := by
  refine ⟨⟨by decide, fun i => by show 0 < 256; decide, rfl, fun i h => absurd h (Nat.not_lt_zero i)⟩, ⟨rfl, rfl, fun p h => absurd h (Nat.not_lt_zero p), fun p h => absurd h (Nat.not_lt_zero p)⟩, ⟨fun p hp => ?_, fun p hp => rfl, ?_, rfl, fun f hf => rfl⟩, fun i hi => ⟨fun _ => ?_, fun N' h => by cases h⟩, fun f h => absurd h (Nat.not_lt_zero f), Or.inl rfl, rfl⟩
  · show (if p < 8 then (-9 : Int32) else 0) = _
    rw [if_pos hp]; rfl
  · show (0 : Int32) = nI (stm N00)
    have : stm N00 = 0 := by decide
    rw [this]; rfl
  · rfl
theorem rmd0 : RM s0M 0 (fun _ => 0) T00 N00 (fun _ => none) 0 := by
  refine ⟨⟨by decide, fun i => by show 0 < 256; decide, rfl, fun i h => absurd h (Nat.not_lt_zero i)⟩, ⟨rfl, rfl, fun p h => absurd h (Nat.not_lt_zero p), fun p h => absurd h (Nat.not_lt_zero p)⟩, ⟨fun p h => absurd h (Nat.not_lt_zero p), rfl, fun _ => 0, fun _ => 0, fun k h => absurd h (Nat.not_lt_zero k), fun f => rfl⟩, fun i hi => ⟨fun _ => rfl, fun N' h => by cases h⟩, rfl⟩
theorem ok0 : AOk T00 N00 (fun _ => none) := ⟨T00_ok, N00_ok _, fun i N' h => by cases h⟩
theorem ok_town {L : Nat} {x : Nat → Nat} {T' : Tn} {N' : Nw} (h1 : TnOk T') (h2 : NwOk T' N') : AOk T' N' (fun _ => none) := ⟨h1, h2, fun i N' h => by cases h⟩
theorem ok_pave {T : Tn} {N : Nw} {im : Nat → Option Nw} (h : AOk T N im) (p f : Int32) : AOk T (sPave T N p f).2 im := by
  refine ⟨h.1, ?_, h.2.2⟩
  have h8 := h.1.1
  have h4 := h.1.2.1
  cases hp : ixN p (tP T) with
  | none => simp only [sPave, hp]; exact h.2.1
  | some q =>
    cases hf : ixN f (tF T) with
    | none => simp only [sPave, hp, hf]; exact h.2.1
    | some g =>
      simp only [sPave, hp, hf]
      split
      · exact h.2.1
      · exact pav_ok h.2.1 (ixN_some (by omega) hp).1 (Or.inl (ixN_some (by omega) hf).1) h4
theorem ok_free {T : Tn} {N : Nw} {im : Nat → Option Nw} (h : AOk T N im) (p : Int32) : AOk T (sFree T N p).2 im := by
  refine ⟨h.1, ?_, h.2.2⟩
  have h8 := h.1.1
  cases hp : ixN p (tP T) with
  | none => simp only [sFree, hp]; exact h.2.1
  | some q =>
    simp only [sFree, hp]
    split
    · exact pav_ok h.2.1 (ixN_some (by omega) hp).1 (Or.inr (Or.inr rfl)) h.1.2.1
    · exact h.2.1
theorem ok_stone {T : Tn} {N : Nw} {im : Nat → Option Nw} (h : AOk T N im) (p z : Int32) : AOk T (sStone T N p z).2 im := by
  refine ⟨h.1, ?_, h.2.2⟩
  have h8 := h.1.1
  cases hp : ixN p (tP T) with
  | none => simp only [sStone, hp]; exact h.2.1
  | some q =>
    have hq := (ixN_some (by omega) hp).1
    cases hf : ixN z 2 with
    | none => simp only [sStone, hp, hf]; exact h.2.1
    | some g =>
      rcases g with _ | g
      · simp only [sStone, hp, hf]
        split
        · exact pav_ok h.2.1 hq (Or.inr (Or.inr rfl)) h.1.2.1
        · exact h.2.1
      · simp only [sStone, hp, hf]
        exact pav_ok h.2.1 hq (Or.inr (Or.inl rfl)) h.1.2.1
theorem ok_flood {T : Tn} {N : Nw} {im : Nat → Option Nw} (h : AOk T N im) (p n : Int32) : AOk T (sFlood T N p n).2 im := by
  refine ⟨h.1, ?_, h.2.2⟩
  cases hp : ixN p (tP T) with
  | none => simp only [sFlood, hp]; exact h.2.1
  | some q =>
    cases hf : ixN n 10 with
    | none => simp only [sFlood, hp, hf]; exact h.2.1
    | some g => simp only [sFlood, hp, hf]; exact flo_ok h.2.1 (ixN_some (by omega) hf).1
theorem ok_saw {T : Tn} {N : Nw} {im : Nat → Option Nw} (h : AOk T N im) (f z : Int32) : AOk T (sSaw T N f z).2 im := by
  refine ⟨h.1, ?_, h.2.2⟩
  have h8 := h.1.1
  have h2p : 2 ^ tP T ≤ 2 ^ 8 := Nat.pow_le_pow_right (by omega) h8
  cases hp : ixN f (tF T) with
  | none => simp only [sSaw, hp]; exact h.2.1
  | some g =>
    cases hf : ixN z (2 ^ tP T) with
    | none => simp only [sSaw, hp, hf]; exact h.2.1
    | some k =>
      simp only [sSaw, hp, hf]
      split
      · rename_i hs
        refine ⟨h.2.1.1, h.2.1.2.1, by show nS N + 1 ≤ 10; omega, fun y => ?_⟩
        show upN (nW N) g (nW N g ||| k) y < _
        by_cases e : y = g
        · subst e; rw [upN_s]; exact Nat.or_lt_two_pow (h.2.1.2.2.2 _) (ixN_some (by omega) hf).1
        · rw [upN_o e]; exact h.2.1.2.2.2 y
      · exact h.2.1
theorem ok_forget {T : Tn} {N : Nw} {im : Nat → Option Nw} (h : AOk T N im) : AOk T (nFor N) im := ⟨h.1, ⟨h.2.1.1, h.2.1.2.1, Nat.zero_le _, fun f => Nat.two_pow_pos _⟩, h.2.2⟩
theorem ok_keep {T : Tn} {N : Nw} {im : Nat → Option Nw} (h : AOk T N im) (z : Int32) : AOk T N (sKeep N im z).2 := by
  refine ⟨h.1, h.2.1, ?_⟩
  cases hp : ixN z 2 with
  | none => simp only [sKeep, hp]; exact h.2.2
  | some k =>
    simp only [sKeep, hp]
    intro i N' hi
    unfold upI at hi
    split at hi
    · cases hi; exact h.2.1
    · exact h.2.2 i N' hi
theorem ok_back {T : Tn} {N : Nw} {im : Nat → Option Nw} (h : AOk T N im) (z : Int32) : AOk T (sBack N im z).2 im := by
  refine ⟨h.1, ?_, h.2.2⟩
  cases hp : ixN z 2 with
  | none => simp only [sBack, hp]; exact h.2.1
  | some k =>
    cases hi : im k with
    | none => simp only [sBack, hp, hi]; exact h.2.1
    | some N' => simp only [sBack, hp, hi]; exact h.2.2 k N' hi
/-- the two sides at one and the same state -/
def Both (S S' : St) : Prop := ∃ (L : Nat) (x : Nat → Nat) (T : Tn) (N : Nw) (im : Nat → Option Nw) (tr : Int64), AOk T N im ∧ RX S L x T N im tr ∧ RM S' L x T N im tr
theorem both0 : Both s0X s0M := ⟨0, fun _ => 0, T00, N00, fun _ => none, 0, ok0, rx0, rmd0⟩
