/-! ===== ways: 16 times yards and pieces, by rounds over the pieces ===== -/
def rlx (d : Nat → Nat) (u v w : Nat) : Nat → Nat := if d v + w < d u then upN d u (d v + w) else d
def leg (T : Tn) (p : Nat) : Nat := tY T p * 16 + 1
def edg (T : Tn) (B : Nat) (d : Nat → Nat) (p : Nat) : Nat → Nat := if B / 2 ^ p % 2 = 0 then rlx (rlx d (tA T p) (tB T p) (leg T p)) (tB T p) (tA T p) (leg T p) else d
def rnd (T : Tn) (B : Nat) (d : Nat → Nat) : Nat → Nat → Nat
  | 0 => d
  | n + 1 => edg T B (rnd T B d n) n
def rds (T : Tn) (B : Nat) (d : Nat → Nat) : Nat → Nat → Nat
  | 0 => d
  | n + 1 => rnd T B (rds T B d n) (tP T)
def ini (t : Nat) : Nat → Nat := fun v => if v = t then 0 else 100000
def dst (T : Tn) (f B : Nat) : Nat → Nat := rds T B (ini (tG T f)) 5
def yd (T : Tn) (f B : Nat) : Nat := if dst T f B (tH T f) < 100000 then dst T f B (tH T f) / 16 else 100000
def bd (d : Nat → Nat) (K : Nat) : Prop := ∀ v, d v = 100000 ∨ d v ≤ K
def phi (x : Nat) : Nat := if x < 100000 then x else 1600000
theorem bd_mono {d : Nat → Nat} {K L : Nat} (h : bd d K) (hl : K ≤ L) : bd d L := fun v => (h v).elim Or.inl (fun z => Or.inr (by omega))
theorem bd_rlx {d : Nat → Nat} {K u v w : Nat} (h : bd d K) (hw : w ≤ 481) (hK : K ≤ 90000) : bd (rlx d u v w) (K + 481) := by
  intro x
  unfold rlx
  split
  · rename_i h1
    by_cases hx : x = u
    · subst hx
      rw [upN_s]
      right
      rcases h v with z | z
      · rcases h x with z2 | z2 <;> omega
      · omega
    · rw [upN_o hx]
      exact (h x).elim Or.inl (fun z => Or.inr (by omega))
  · exact (h x).elim Or.inl (fun z => Or.inr (by omega))
theorem leg_le {T : Tn} (hT : TnOk T) {p : Nat} (hp : p < tP T) : leg T p ≤ 481 := by
  have := (hT.2.2.1 p hp).2.2.2.2
  unfold leg; omega
theorem bd_edg {T : Tn} (hT : TnOk T) {B : Nat} {d : Nat → Nat} {K p : Nat} (hp : p < tP T) (h : bd d K) (hK : K ≤ 80000) : bd (edg T B d p) (K + 962) := by
  unfold edg
  split
  · have := bd_rlx (u := tB T p) (v := tA T p) (bd_rlx (u := tA T p) (v := tB T p) h (leg_le hT hp) (by omega)) (leg_le hT hp) (by omega)
    exact bd_mono this (by omega)
  · exact bd_mono h (by omega)
theorem bd_rnd {T : Tn} (hT : TnOk T) {B : Nat} {d : Nat → Nat} {K : Nat} (h : bd d K) (hK : K ≤ 60000) : ∀ n, n ≤ tP T → bd (rnd T B d n) (K + 962 * n)
  | 0, _ => bd_mono h (by omega)
  | n + 1, hn => by
    have h8 := hT.1
    have := bd_edg hT (B := B) (p := n) (by omega) (bd_rnd hT (B := B) h hK n (by omega)) (by omega)
    exact bd_mono this (by omega)
theorem bd_ini (t : Nat) : bd (ini t) 0 := by
  intro v
  unfold ini
  split
  · exact Or.inr (Nat.le_refl _)
  · exact Or.inl rfl
theorem bd_rds {T : Tn} (hT : TnOk T) {B : Nat} {t : Nat} : ∀ n, n ≤ 5 → bd (rds T B (ini t) n) (7696 * n)
  | 0, _ => bd_ini t
  | n + 1, hn => by
    have h8 := hT.1
    have := bd_rnd hT (B := B) (bd_rds hT (B := B) (t := t) n (by omega)) (by omega) (tP T) (Nat.le_refl _)
    exact bd_mono this (by omega)
theorem phi_lt {d : Nat → Nat} {K u v w : Nat} (h : bd d K) (hK : K ≤ 90000) (hw : w ≤ 481) : (phi (d v) + w < phi (d u)) ↔ d v + w < d u := by
  unfold phi
  rcases h v with z | z <;> rcases h u with z2 | z2 <;> (repeat' split) <;> omega
theorem phi_rlx {d : Nat → Nat} {K u v w : Nat} (h : bd d K) (hK : K ≤ 90000) (hw : w ≤ 481) (hl : d v + w < d u) : phi (d v + w) = phi (d v) + w := by
  unfold phi
  rcases h v with z | z
  · rcases h u with z2 | z2 <;> omega
  · rw [if_pos (by omega), if_pos (by omega)]
theorem phi_le {d : Nat → Nat} {v : Nat} : phi (d v) ≤ 1600000 := by unfold phi; split <;> omega
theorem yd_phi (T : Tn) (f B : Nat) : phi (dst T f B (tH T f)) / 16 = yd T f B := by
  unfold phi yd
  split <;> rfl
theorem yd_bd {T : Tn} (hT : TnOk T) (f B : Nat) : yd T f B = 100000 ∨ yd T f B ≤ 2405 := by
  unfold yd
  rcases bd_rds hT (B := B) (t := tG T f) 5 (Nat.le_refl _) (tH T f) with z | z
  · left; unfold dst; rw [z]; rfl
  · right; unfold dst; rw [if_pos (by omega)]; omega
theorem rlx_eq {d : Nat → Nat} {u v w : Nat} (h : ¬ d v + w < d u) : rlx d u v w = d := if_neg h
theorem rds_fix {T : Tn} {B : Nat} {d : Nat → Nat} {n : Nat} (h : rnd T B (rds T B d n) (tP T) = rds T B d n) : ∀ k, rds T B d (n + k) = rds T B d n
  | 0 => rfl
  | k + 1 => by
    show rnd T B (rds T B d (n + k)) (tP T) = _
    rw [rds_fix h k, h]
/-- the class's row of what is left -/
def LfR (S : St) (d : Nat → Nat) : Prop := ∀ v, v < 6 → S.1 38 v = nI (phi (d v))
/-- what is known of a town's ways is so -/
def KnR (S : St) (T : Tn) : Prop := ∀ f, f < tF T → ∀ B, B < 256 → S.1 37 (f * 256 + B) = nI 0 ∨ S.1 37 (f * 256 + B) = nI (yd T f B + 1)
/-- the other end of a piece (6: it is not at this place) -/
def oth (T : Tn) (p x : Nat) : Nat := if tA T p = x then tB T p else if tB T p = x then tA T p else 6
/-- the first of the places by which the best way goes on (6: none) -/
def nxp (T : Tn) (B : Nat) (d : Nat → Nat) (x : Nat) : Nat → Nat
  | 0 => 6
  | n + 1 => if B / 2 ^ n % 2 = 0 ∧ oth T n x < 6 ∧ d (oth T n x) + leg T n = d x then (if oth T n x < nxp T B d x n then oth T n x else nxp T B d x n) else nxp T B d x n
def nxt (T : Tn) (B : Nat) (d : Nat → Nat) (x : Nat) : Nat := if nxp T B d x (tP T) < 6 then nxp T B d x (tP T) else x
def plS (T : Tn) (B : Nat) (d : Nat → Nat) (h : Nat) : Nat → Nat
  | 0 => h
  | s + 1 => nxt T B d (plS T B d h s)
theorem nxp_le (T : Tn) (B : Nat) (d : Nat → Nat) (x : Nat) : ∀ n, nxp T B d x n ≤ 6
  | 0 => Nat.le_refl _
  | n + 1 => by
    have := nxp_le T B d x n
    simp only [nxp]
    split
    · split <;> omega
    · omega
theorem nxt_lt (T : Tn) (B : Nat) (d : Nat → Nat) {x : Nat} (h : x < 6) : nxt T B d x < 6 := by
  unfold nxt; split <;> omega
theorem plS_lt (T : Tn) (B : Nat) (d : Nat → Nat) {h : Nat} (hh : h < 6) : ∀ s, plS T B d h s < 6
  | 0 => hh
  | s + 1 => nxt_lt T B d (plS_lt T B d hh s)
theorem oth_lt {T : Tn} (hT : TnOk T) {p x : Nat} (hp : p < tP T) : oth T p x ≤ 6 := by
  have := hT.2.2.1 p hp
  unfold oth; split
  · omega
  · split <;> omega
theorem phi_tight {d : Nat → Nat} {K o x w : Nat} (h : bd d K) (hK : K ≤ 90000) (hw : w ≤ 481) (hx : d x < 100000) : (phi (d o) + w = phi (d x)) ↔ d o + w = d x := by
  unfold phi
  rcases h o with z | z <;> rcases h x with z2 | z2 <;> (repeat' split) <;> omega
theorem bd_dst {T : Tn} (hT : TnOk T) (f B : Nat) : bd (dst T f B) 38480 := bd_rds hT 5 (Nat.le_refl _)
theorem nxp_tight (T : Tn) (B : Nat) (d : Nat → Nat) (x : Nat) : ∀ n, nxp T B d x n < 6 → ∃ p, p < n ∧ B / 2 ^ p % 2 = 0 ∧ oth T p x = nxp T B d x n ∧ d (oth T p x) + leg T p = d x
  | 0, h => absurd h (by simp [nxp])
  | n + 1, h => by
    simp only [nxp] at h ⊢
    split at h
    · rename_i h1
      rw [if_pos h1]
      split at h
      · rename_i h2
        rw [if_pos h2]
        exact ⟨n, by omega, h1.1, rfl, h1.2.2⟩
      · rename_i h2
        rw [if_neg h2]
        obtain ⟨p, a, b, c⟩ := nxp_tight T B d x n h
        exact ⟨p, by omega, b, c⟩
    · rename_i h1
      rw [if_neg h1]
      obtain ⟨p, a, b, c⟩ := nxp_tight T B d x n h
      exact ⟨p, by omega, b, c⟩
theorem nxt_fin {T : Tn} (hT : TnOk T) {B x : Nat} {d : Nat → Nat} (h : d x < 100000) : d (nxt T B d x) < 100000 := by
  unfold nxt
  split
  · rename_i h1
    obtain ⟨p, a, b, c, e⟩ := nxp_tight T B d x (tP T) h1
    rw [← c]; omega
  · exact h
