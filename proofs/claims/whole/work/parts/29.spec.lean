/-! ===== what the calls answer (pure), and the class's state ===== -/
def ixN (x : Int32) (n : Nat) : Option Nat := if 0 ≤ x.toInt ∧ x.toInt < n then some x.toInt.toNat else none
theorem ixN_some {x : Int32} {n j : Nat} (hn : n < 2 ^ 31) (h : ixN x n = some j) : j < n ∧ x = nI j := by
  unfold ixN at h
  split at h
  · rename_i h1
    cases h
    refine ⟨by omega, ?_⟩
    apply Int32.toInt_inj.mp
    rw [nI_toInt (by omega)]
    omega
  · cases h
theorem ixN_nI {n j : Nat} (hn : n < 2 ^ 31) (h : j < n) : ixN (nI j) n = some j := by
  unfold ixN
  rw [nI_toInt (by omega), if_pos (by omega)]
  rfl
theorem ixN_none {x : Int32} {n : Nat} (hn : n < 2 ^ 31) (h : ixN x n = none) : x < 0 ∨ nI n ≤ x := by
  unfold ixN at h
  split at h
  · cases h
  · rename_i h1
    rw [Int32.lt_iff_toInt_lt, Int32.le_iff_toInt_le, nI_toInt hn, Int32.toInt_zero]
    omega
theorem ixN_lt {x : Int32} {n : Nat} (hn : n < 2 ^ 31) (h : x < 0 ∨ nI n ≤ x) : ixN x n = none := by
  unfold ixN
  rw [Int32.lt_iff_toInt_lt, Int32.le_iff_toInt_le, nI_toInt hn, Int32.toInt_zero] at h
  rw [if_neg (by omega)]
def ImR (S : St) (im : Nat → Option Nw) : Prop := ∀ i, i < 2 → (im i = none → S.1 35 i = nI 0) ∧ ∀ N', im i = some N' → S.1 35 i = nI 1 ∧ NwR S (26 + 4 * i) N'
/-- the class's state -/
def RX (S : St) (L : Nat) (x : Nat → Nat) (T : Tn) (N : Nw) (im : Nat → Option Nw) (tr : Int64) : Prop := TxR S L x ∧ TwR S 4 T ∧ NwR S 18 N ∧ ImR S im ∧ KnR S T ∧ ChOk S T ∧ S.2 0 13 = tr
def AOk (T : Tn) (N : Nw) (im : Nat → Option Nw) : Prop := TnOk T ∧ NwOk T N ∧ ∀ i N', im i = some N' → NwOk T N'
def cacheL : List Nat := [3, 11, 12, 13, 14, 15, 16, 17, 22, 23, 24, 25, 37, 38, 39, 40, 41, 42, 44, 45, 47, 48]
theorem ImR.go {S S' : St} {im : Nat → Option Nw} (h : ImR S im) (hc : ∀ a, 26 ≤ a → a ≤ 35 → S'.1 a = S.1 a) : ImR S' im := by
  intro i hi
  obtain ⟨h1, h2⟩ := h i hi
  refine ⟨fun e => by rw [hc 35 (by omega) (by omega)]; exact h1 e, fun N' e => ⟨by rw [hc 35 (by omega) (by omega)]; exact (h2 N' e).1, (h2 N' e).2.go (hc _ (by omega) (by omega)) (hc _ (by omega) (by omega)) (hc _ (by omega) (by omega)) (hc _ (by omega) (by omega))⟩⟩
theorem cacheL_no {a : Nat} (h : 26 ≤ a) (h2 : a ≤ 35) : a ∉ cacheL := by
  have : ∀ a, a ≤ 35 → 26 ≤ a → a ∉ cacheL := by decide
  exact this a h2 h
theorem RX.cache {S S' : St} {L : Nat} {x : Nat → Nat} {T : Tn} {N : Nw} {im : Nat → Option Nw} {tr : Int64} (h : RX S L x T N im tr) (hF : FrL S S' cacheL) (hK : KnR S' T) (hC : ChOk S' T) : RX S' L x T N im tr := by
  obtain ⟨h1, h2, h3, h4, h5, h6, h7⟩ := h
  exact ⟨h1.go (hF.c 1) (hF.c 2), h2.frL hF rfl, h3.go (hF.c 18) (hF.c 19) (hF.c 20) (hF.c 21), h4.go (fun a g1 g2 => (hF a (cacheL_no g1 g2)).1), hK, hC, by rw [hF.c2 0]; exact h7⟩
theorem RX.same {S S' : St} {L : Nat} {x : Nat → Nat} {T : Tn} {N : Nw} {im : Nat → Option Nw} {tr : Int64} (h : RX S L x T N im tr) (e : S' = S) : RX S' L x T N im tr := e ▸ h
/-- of ways alone -/
theorem RX.ways {S S' : St} {L : Nat} {x : Nat → Nat} {T : Tn} {N : Nw} {im : Nat → Option Nw} {tr : Int64} (h : RX S L x T N im tr) (hF : Fr S S' [37, 38]) (hK : KnR S' T) : RX S' L x T N im tr :=
  h.cache (hF.L.mono (by decide)) hK (h.2.2.2.2.2.1.go (hF.c 39) (hF.c 40) (hF.c 41))
/-- the low byte of v moved down by 8 * i -/
def bv (v : Int64) (i : Nat) : Nat := (v >>> ((nI (8 * i)).toInt64 &&& 63)).toInt32.toBitVec.toNat % 256
theorem b_sb (z : Int32) : z.toInt8.toInt32 = sb (z.toBitVec.toNat % 256) := by
  unfold sb
  congr 1
  apply Int8.toBitVec_inj.mp
  apply BitVec.eq_of_toNat_eq
  show (z.toBitVec.signExtend 8).toNat = ((nI _).toBitVec.signExtend 8).toNat
  rw [nI_bv]
  rw [BitVec.signExtend_eq_setWidth_of_le _ (by omega), BitVec.signExtend_eq_setWidth_of_le _ (by omega)]
  rw [BitVec.toNat_setWidth, BitVec.toNat_setWidth, BitVec.toNat_ofNat]
  omega
theorem nar_b (z : Int32) : vp_nar .byte z.toInt8.toInt32 = sb (z.toBitVec.toNat % 256) := by rw [pk_vb, b_sb]
def txU (L : Nat) (x : Nat → Nat) (v : Int64) (n : Nat) : Nat → Nat := fun j => if L ≤ j ∧ j < L + n then bv v (n - 1 - (j - L)) else x j
def popc (m : Nat) : Nat := cnt (fun p => decide (m / 2 ^ p % 2 = 1)) 8
theorem cnt_congr {g h : Nat → Bool} : ∀ {n : Nat}, (∀ p, p < n → g p = h p) → cnt g n = cnt h n
  | 0, _ => rfl
  | n + 1, hh => by
    simp only [cnt]
    rw [cnt_congr (n := n) (fun p hp => hh p (by omega)), hh n (by omega)]
theorem popc_msk (g : Nat → Bool) : popc (msk g 8) = cnt g 8 := by
  unfold popc
  refine cnt_congr (fun p hp => ?_)
  rw [msk_bit]
  cases hg : g p <;> simp [hp]
