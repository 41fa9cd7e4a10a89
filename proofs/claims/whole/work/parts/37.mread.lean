def FlZ (T : Tn) (N : Nw) : Prop := ∀ p, tP T ≤ p → nF N p = 0
def RdM (S : St) (T : Tn) (N : Nw) : Prop := S.1 0 21 = nI (tP T) ∧ S.1 0 22 = nI (tF T) ∧ (∀ p, p < tP T → S.1 13 (5 * p) = nI (tA T p) ∧ S.1 13 (5 * p + 1) = nI (tB T p) ∧ S.1 13 (5 * p + 2) = nI (tY T p) ∧ S.1 13 (5 * p + 3) = mdO (nO N p) ∧ S.1 13 (5 * p + 4) = nI (nF N p)) ∧ ∀ f, f < tF T → S.1 13 (40 + 3 * f) = nI (tH T f) ∧ S.1 13 (41 + 3 * f) = nI (tG T f) ∧ S.1 13 (42 + 3 * f) = nI (tN T f)
def FrI (S S' : St) : Prop := (∀ j, j < 17 ∨ 22 < j → S'.1 0 j = S.1 0 j) ∧ (∀ a, a ≠ 0 → a ≠ 13 → S'.1 a = S.1 a) ∧ ∀ j, j ≠ 20 → S'.2 0 j = S.2 0 j
theorem FrI.rfl' {S : St} : FrI S S := ⟨fun _ _ => rfl, fun _ _ _ => rfl, fun _ _ => rfl⟩
theorem FrI.trans {S S1 S2 : St} (h : FrI S S1) (h2 : FrI S1 S2) : FrI S S2 := ⟨fun j hj => (h2.1 j hj).trans (h.1 j hj), fun a ha hb => (h2.2.1 a ha hb).trans (h.2.1 a ha hb), fun j hj => (h2.2.2 j hj).trans (h.2.2 j hj)⟩
theorem FrN.I {S S' : St} (h : FrN S S') : FrI S S' := ⟨fun j hj => h.1 j (by omega), fun a ha _ => h.2.1 a ha, h.2.2⟩
theorem FrI.u0 {S : St} {j : Nat} {v : Int32} (h : 17 ≤ j ∧ j ≤ 22) : FrI S (up S 0 j v) := ⟨fun i hi => up_of (by omega), fun a ha _ => up_oc ha, fun i hi => rfl⟩
theorem FrI.u13 {S : St} {j : Nat} {v : Int32} : FrI S (up S 13 j v) := ⟨fun i hi => by rw [up_oc (by decide)], fun a _ hb => up_oc hb, fun i hi => rfl⟩
theorem FrI.tx {S S' : St} {L : Nat} {x : Nat → Nat} (h : MTx S L x) (hF : FrI S S') : MTx S' L x := h.go (hF.1 1 (by omega)) (hF.2.1 1 (by omega) (by omega))
theorem RdM.frN {S S' : St} {T : Tn} {N : Nw} (h : RdM S T N) (hF : FrN S S') : RdM S' T N := by
  obtain ⟨a1, a2, a3, a4⟩ := h
  have h13 := hF.2.1 13 (by omega)
  exact ⟨by rw [hF.1 21 (by omega)]; exact a1, by rw [hF.1 22 (by omega)]; exact a2, fun p hp => by rw [h13]; exact a3 p hp, fun f hf => by rw [h13]; exact a4 f hf⟩
def MPo (S S' : St) (r : Int32) (res : PR) : Prop := FrI S S' ∧ (∀ s, res = .inl s → r = nI 0 ∧ S'.1 0 18 = nI s) ∧ ∀ T' N' a', res = .inr (T', N', a') → r = nI 1 ∧ RdM S' T' N' ∧ S'.1 0 17 = nI a' ∧ FlZ T' N'
theorem MPo.bad {S S' : St} {s : Nat} {res : PR} (hF : FrI S S') (h : S'.1 0 18 = nI s) (e : res = .inl s) : MPo S S' (nI 0) res := by
  subst e
  exact ⟨hF, fun s' e' => (by cases e'; exact ⟨rfl, h⟩), fun _ _ _ e' => (by cases e')⟩
theorem MPo.good {S S' : St} {T' : Tn} {N' : Nw} {a' : Nat} {res : PR} (hF : FrI S S') (h1 : RdM S' T' N') (h3 : S'.1 0 17 = nI a') (h4 : FlZ T' N') (e : res = .inr (T', N', a')) : MPo S S' (nI 1) res := by
  subst e
  exact ⟨hF, fun s' e' => (by cases e'), fun _ _ _ e' => (by cases e'; exact ⟨rfl, h1, h3, h4⟩)⟩
theorem ml_nI {m : Nat} (hm : m < 1000) : ∀ v, v ≤ 10000 → (lN v ≤ (nI m).toInt64 ↔ v < m + 1) := fun v hv => by
  rw [nI_l (by omega), lN_le (by omega) (by omega)]; omega
theorem ml_pred {m : Nat} (hm : m ≤ 8) : ∀ v, v ≤ 10000 → (lN v ≤ (nI m - nI 1).toInt64 ↔ v < m) := fun v hv => by
  rw [Int64.le_iff_toInt_le, lN_toInt (by omega), Int32.toInt_toInt64, pk_sub_toInt (by omega) (by omega)]; omega
theorem RdM.own {S : St} {T : Tn} {N : Nw} {p f : Nat} (h : RdM S T N) (hp : p < tP T) (h8 : tP T ≤ 8) : RdM (up S 13 (5 * p + 3) (mdO f)) T (nPav N p f) := by
  obtain ⟨a1, a2, a3, a4⟩ := h
  refine ⟨by rw [up_oc (by decide)]; exact a1, by rw [up_oc (by decide)]; exact a2, fun q hq => ?_, fun g hg => ?_⟩
  · rw [up_of (show 5 * q ≠ _ by omega), up_of (show 5 * q + 1 ≠ _ by omega), up_of (show 5 * q + 2 ≠ _ by omega), up_of (show 5 * q + 4 ≠ _ by omega)]
    refine ⟨(a3 q hq).1, (a3 q hq).2.1, (a3 q hq).2.2.1, ?_, (a3 q hq).2.2.2.2⟩
    show _ = mdO (upN (nO N) p f q)
    by_cases e : q = p
    · subst e; rw [up_s, upN_s]
    · rw [up_of (by omega), upN_o e]; exact (a3 q hq).2.2.2.1
  · rw [up_of (by omega), up_of (by omega), up_of (by omega)]; exact a4 g hg
theorem RdM.flo {S : St} {T : Tn} {N : Nw} {p n : Nat} (h : RdM S T N) (hp : p < tP T) (h8 : tP T ≤ 8) : RdM (up S 13 (5 * p + 4) (nI n)) T (nFlo N p n) := by
  obtain ⟨a1, a2, a3, a4⟩ := h
  refine ⟨by rw [up_oc (by decide)]; exact a1, by rw [up_oc (by decide)]; exact a2, fun q hq => ?_, fun g hg => ?_⟩
  · rw [up_of (show 5 * q ≠ _ by omega), up_of (show 5 * q + 1 ≠ _ by omega), up_of (show 5 * q + 2 ≠ _ by omega), up_of (show 5 * q + 3 ≠ _ by omega)]
    refine ⟨(a3 q hq).1, (a3 q hq).2.1, (a3 q hq).2.2.1, (a3 q hq).2.2.2.1, ?_⟩
    show _ = nI (upN (nF N) p n q)
    by_cases e : q = p
    · subst e; rw [up_s, upN_s]
    · rw [up_of (by omega), upN_o e]; exact (a3 q hq).2.2.2.2
  · rw [up_of (by omega), up_of (by omega), up_of (by omega)]; exact a4 g hg
theorem FlZ.flo {T : Tn} {N : Nw} {p n : Nat} (h : FlZ T N) (hp : p < tP T) : FlZ T (nFlo N p n) := fun q hq => by
  show upN (nF N) p n q = 0
  rw [upN_o (by omega)]; exact h q hq
