theorem msk_ext (g : Nat → Bool) (P : Nat) : ∀ n, P ≤ n → (∀ p, P ≤ p → p < n → g p = false) → msk g n = msk g P
  | 0, h, _ => by rw [show P = 0 by omega]
  | n + 1, h, hf => by
    by_cases e : P = n + 1
    · rw [e]
    · simp only [msk]
      rw [msk_ext g P n (by omega) (fun p h1 h2 => hf p h1 (by omega)), hf n (by omega) (by omega)]
      simp
theorem cnt_ext (g : Nat → Bool) (P : Nat) : ∀ n, P ≤ n → (∀ p, P ≤ p → p < n → g p = false) → cnt g n = cnt g P
  | 0, h, _ => by rw [show P = 0 by omega]
  | n + 1, h, hf => by
    by_cases e : P = n + 1
    · rw [e]
    · simp only [cnt]
      rw [cnt_ext g P n (by omega) (fun p h1 h2 => hf p h1 (by omega)), hf n (by omega) (by omega)]
      simp
theorem owm_P {T : Tn} {N : Nw} (hN : NwOk T N) (h8 : tP T ≤ 8) {f : Nat} (hf : f ≠ 4) : owm N f = msk (fun p => decide (nO N p = f)) (tP T) :=
  msk_ext _ _ 8 h8 (fun p h1 _ => by rw [(hN.1 p).2.1 h1]; simp; omega)
theorem stm_P {T : Tn} {N : Nw} (hN : NwOk T N) (h8 : tP T ≤ 8) : stm N = msk (fun p => decide (nO N p = 5)) (tP T) :=
  msk_ext _ _ 8 h8 (fun p h1 _ => by rw [(hN.1 p).2.1 h1]; simp)
theorem ownd_P {T : Tn} {N : Nw} (hN : NwOk T N) (h8 : tP T ≤ 8) : ownd N = cnt (fun p => decide (nO N p < 4)) (tP T) :=
  cnt_ext _ _ 8 h8 (fun p h1 _ => by rw [(hN.1 p).2.1 h1]; simp)
theorem popc_step {l : Nat} (h : l < 256) (h0 : l ≠ 0) : popc (l &&& (l - 1)) + 1 = popc l ∧ (l &&& (l - 1)) < l := by
  have : ∀ l, l < 256 → l ≠ 0 → popc (l &&& (l - 1)) + 1 = popc l ∧ (l &&& (l - 1)) < l := by decide +kernel
  exact this l h h0
def FaR (S : St) (d : Nat → Nat) : Prop := ∀ v, v < 6 → S.1 14 v = nI (d v)
theorem FaR.relax {S : St} {d : Nat → Nat} {u v w : Nat} (h : FaR S d) : FaR (up S 14 u (if d v + w < d u then nI (d v + w) else nI (d u))) (rlx d u v w) := by
  intro y hy
  unfold rlx
  by_cases e : y = u
  · subst e
    rw [up_s]
    split
    · rw [upN_s]
    · rfl
  · rw [up_of e, h y hy]
    split
    · rw [upN_o e]
    · rfl
theorem rlx_far {d : Nat → Nat} {K u v : Nat} (h : bd d K) (hK : K ≤ 90000) : rlx d u v 100000 = d := rlx_eq (by rcases h u with z | z <;> omega)
theorem edg_st {T : Tn} (B : Nat) {d : Nat → Nat} {K p : Nat} (h : bd d K) (hK : K ≤ 90000) : edg T B d p = rlx (rlx d (tA T p) (tB T p) (if B / 2 ^ p % 2 = 1 then 100000 else leg T p)) (tB T p) (tA T p) (if B / 2 ^ p % 2 = 1 then 100000 else leg T p) := by
  have h2 : B / 2 ^ p % 2 < 2 := Nat.mod_lt _ (by omega)
  unfold edg
  by_cases e : B / 2 ^ p % 2 = 1
  · rw [if_pos e, if_neg (by omega), rlx_far h hK, rlx_far h hK]
  · rw [if_neg e, if_pos (by omega)]
theorem orN_yd (T : Tn) (f B : Nat) : orN (yd T f B) = if dst T f B (tH T f) < 100000 then nI (dst T f B (tH T f) / 16) else -9 := by
  unfold orN yd
  by_cases h : dst T f B (tH T f) < 100000
  · rw [if_pos h, if_pos h, if_pos (by omega)]
  · rw [if_neg h, if_neg h, if_neg (by omega)]
theorem bd_le {d : Nat → Nat} {K v : Nat} (h : bd d K) (hK : K ≤ 100000) : d v ≤ 100000 := by rcases h v with z | z <;> omega
theorem l255 (y : Int64) : (y &&& lN 255).toInt32 = nI (y.toInt32.toBitVec.toNat % 256) := by
  apply Int32.toBitVec_inj.mp
  apply BitVec.eq_of_toNat_eq
  have e1 : (y &&& lN 255).toInt32.toBitVec = ((y &&& lN 255).toBitVec).setWidth 32 := by
    show (y &&& lN 255).toBitVec.signExtend 32 = _
    rw [BitVec.signExtend_eq_setWidth_of_le _ (by omega)]
  have e2 : y.toInt32.toBitVec = y.toBitVec.setWidth 32 := by
    show y.toBitVec.signExtend 32 = _
    rw [BitVec.signExtend_eq_setWidth_of_le _ (by omega)]
  rw [e1, e2, nI_bv, BitVec.toNat_setWidth, BitVec.toNat_setWidth, BitVec.toNat_ofNat]
  have e3 : (y &&& lN 255).toBitVec = y.toBitVec &&& (lN 255).toBitVec := rfl
  rw [e3, BitVec.toNat_and]
  have e4 : (lN 255).toBitVec.toNat = 2 ^ 8 - 1 := by decide
  rw [e4, Nat.and_two_pow_sub_one_eq_mod]
  omega
theorem m255 (v : Int64) (k : Nat) : ((v >>> ((nI (8 * k)).toInt64 &&& 63)) &&& lN 255).toInt32 = nI (bv v k) := l255 _
