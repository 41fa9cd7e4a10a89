/-! ===== ways: monotone, and at rest after five rounds (pure) ===== -/
theorem rlx_le (d : Nat → Nat) (u v w x : Nat) : rlx d u v w x ≤ d x := by
  unfold rlx
  split
  · by_cases e : x = u
    · subst e; rw [upN_s]; omega
    · rw [upN_o e]; exact Nat.le_refl _
  · exact Nat.le_refl _
theorem rlx_u (d : Nat → Nat) (u v w : Nat) : rlx d u v w u ≤ d v + w := by
  unfold rlx
  split
  · rw [upN_s]; exact Nat.le_refl _
  · omega
theorem rlx_ge {d : Nat → Nat} {u v w x c : Nat} (h1 : c ≤ d x) (h2 : x = u → c ≤ d v + w) : c ≤ rlx d u v w x := by
  unfold rlx
  split
  · by_cases e : x = u
    · rw [e, upN_s]; exact h2 e
    · rw [upN_o e]; exact h1
  · exact h1
theorem rlx_mono {d e : Nat → Nat} (h : ∀ x, d x ≤ e x) (u v w x : Nat) : rlx d u v w x ≤ rlx e u v w x :=
  rlx_ge (Nat.le_trans (rlx_le d u v w x) (h x)) (fun z => by rw [z]; exact Nat.le_trans (rlx_u d u v w) (Nat.add_le_add_right (h v) w))
theorem edg_le (T : Tn) (B : Nat) (d : Nat → Nat) (p x : Nat) : edg T B d p x ≤ d x := by
  unfold edg
  split
  · exact Nat.le_trans (rlx_le _ _ _ _ _) (rlx_le _ _ _ _ _)
  · exact Nat.le_refl _
/-- B within C -/
def sub2 (B C : Nat) : Prop := ∀ p, C / 2 ^ p % 2 = 0 → B / 2 ^ p % 2 = 0
theorem edg_mono {T : Tn} {B C : Nat} (hB : sub2 B C) {d e : Nat → Nat} (h : ∀ x, d x ≤ e x) (p x : Nat) : edg T B d p x ≤ edg T C e p x := by
  by_cases hc : C / 2 ^ p % 2 = 0
  · unfold edg
    rw [if_pos hc, if_pos (hB p hc)]
    exact rlx_mono (rlx_mono h _ _ _) _ _ _ _
  · refine Nat.le_trans (edg_le T B d p x) ?_
    unfold edg
    rw [if_neg hc]
    exact h x
theorem rnd_mono {T : Tn} {B C : Nat} (hB : sub2 B C) {d e : Nat → Nat} (h : ∀ x, d x ≤ e x) : ∀ n x, rnd T B d n x ≤ rnd T C e n x
  | 0, x => h x
  | n + 1, x => edg_mono hB (rnd_mono hB h n) n x
theorem rds_mono {T : Tn} {B C : Nat} (hB : sub2 B C) {d e : Nat → Nat} (h : ∀ x, d x ≤ e x) : ∀ n x, rds T B d n x ≤ rds T C e n x
  | 0, x => h x
  | n + 1, x => rnd_mono hB (rds_mono hB h n) (tP T) x
theorem yd_mono {T : Tn} {B C : Nat} (hB : sub2 B C) (f : Nat) : yd T f B ≤ yd T f C := by
  have h := rds_mono (T := T) hB (fun x => Nat.le_refl (ini (tG T f) x)) 5 (tH T f)
  unfold yd dst
  split <;> split <;> omega
theorem rnd_anti (T : Tn) (B : Nat) (d : Nat → Nat) (m : Nat) : ∀ k x, rnd T B d (m + k) x ≤ rnd T B d m x
  | 0, x => Nat.le_refl _
  | k + 1, x => Nat.le_trans (edg_le T B _ (m + k) x) (rnd_anti T B d m k x)
theorem rnd_le (T : Tn) (B : Nat) (d : Nat → Nat) (n x : Nat) : rnd T B d n x ≤ d x := by
  have := rnd_anti T B d 0 n x
  rw [Nat.zero_add] at this
  exact this
theorem rds_anti (T : Tn) (B : Nat) (d : Nat → Nat) (m : Nat) : ∀ k x, rds T B d (m + k) x ≤ rds T B d m x
  | 0, x => Nat.le_refl _
  | k + 1, x => Nat.le_trans (rnd_le T B _ (tP T) x) (rds_anti T B d m k x)
/-- piece p leads from x to u -/
def join (T : Tn) (p x u : Nat) : Prop := (x = tA T p ∧ u = tB T p) ∨ (x = tB T p ∧ u = tA T p)
theorem edg_rel {T : Tn} {B p x u : Nat} (d : Nat → Nat) (h0 : B / 2 ^ p % 2 = 0) (hj : join T p x u) : edg T B d p x ≤ d u + leg T p := by
  unfold edg
  rw [if_pos h0]
  rcases hj with ⟨rfl, rfl⟩ | ⟨rfl, rfl⟩
  · exact Nat.le_trans (rlx_le _ _ _ _ _) (rlx_u _ _ _ _)
  · exact Nat.le_trans (rlx_u _ _ _ _) (Nat.add_le_add_right (rlx_le _ _ _ _ _) _)
theorem rnd_rel {T : Tn} {B p x u : Nat} (d : Nat → Nat) (hp : p < tP T) (h0 : B / 2 ^ p % 2 = 0) (hj : join T p x u) : rnd T B d (tP T) x ≤ d u + leg T p := by
  have h1 := rnd_anti T B d (p + 1) (tP T - (p + 1)) x
  rw [show p + 1 + (tP T - (p + 1)) = tP T by omega] at h1
  have h2 := edg_rel (rnd T B d p) h0 hj
  have h3 := rnd_le T B d p u
  have h4 : rnd T B d (p + 1) x = edg T B (rnd T B d p) p x := rfl
  omega
/-- tightness: what is finite comes from somewhere -/
def Tg (T : Tn) (B t : Nat) (d : Nat → Nat) : Prop := d t = 0 ∧ ∀ x, x ≠ t → d x < 100000 → ∃ p u, p < tP T ∧ B / 2 ^ p % 2 = 0 ∧ join T p x u ∧ d u + leg T p ≤ d x
theorem Tg_rlx {T : Tn} {B t p a b : Nat} {d : Nat → Nat} (h : Tg T B t d) (hp : p < tP T) (h0 : B / 2 ^ p % 2 = 0) (hj : join T p a b) : Tg T B t (rlx d a b (leg T p)) := by
  obtain ⟨h1, h2⟩ := h
  refine ⟨by have := rlx_le d a b (leg T p) t; omega, fun x hx hd => ?_⟩
  by_cases e : x = a ∧ d b + leg T p < d a
  · obtain ⟨rfl, e2⟩ := e
    refine ⟨p, b, hp, h0, hj, ?_⟩
    have h3 := rlx_le d x b (leg T p) b
    have h4 : rlx d x b (leg T p) x = d b + leg T p := by unfold rlx; rw [if_pos e2, upN_s]
    omega
  · have h4 : rlx d a b (leg T p) x = d x := by
      unfold rlx
      split
      · rename_i hl
        exact upN_o (fun z => e ⟨z, hl⟩)
      · rfl
    rw [h4] at hd ⊢
    obtain ⟨q, u, g1, g2, g3, g4⟩ := h2 x hx hd
    have := rlx_le d a b (leg T p) u
    exact ⟨q, u, g1, g2, g3, by omega⟩
theorem Tg_edg {T : Tn} {B t p : Nat} {d : Nat → Nat} (h : Tg T B t d) (hp : p < tP T) : Tg T B t (edg T B d p) := by
  unfold edg
  split
  · rename_i h0
    exact Tg_rlx (Tg_rlx h hp h0 (Or.inl ⟨rfl, rfl⟩)) hp h0 (Or.inr ⟨rfl, rfl⟩)
  · exact h
theorem Tg_rnd {T : Tn} {B t : Nat} {d : Nat → Nat} (h : Tg T B t d) : ∀ n, n ≤ tP T → Tg T B t (rnd T B d n)
  | 0, _ => h
  | n + 1, hn => Tg_edg (Tg_rnd h n (by omega)) (by omega)
theorem Tg_rds {T : Tn} {B t : Nat} : ∀ n, Tg T B t (rds T B (ini t) n)
  | 0 => ⟨if_pos rfl, fun x hx hd => by
    have : rds T B (ini t) 0 x = 100000 := if_neg hx
    omega⟩
  | n + 1 => Tg_rnd (Tg_rds n) (tP T) (Nat.le_refl _)
theorem rnd_out {T : Tn} (hT : TnOk T) {B x : Nat} {d : Nat → Nat} (hx : 6 ≤ x) : ∀ n, n ≤ tP T → rnd T B d n x = d x
  | 0, _ => rfl
  | n + 1, hn => by
    obtain ⟨ha, hb, -⟩ := hT.2.2.1 n (by omega)
    have ih := rnd_out (B := B) hT (d := d) hx n (by omega)
    have key : ∀ (d : Nat → Nat) (u v w : Nat), u < 6 → rlx d u v w x = d x := fun d u v w hu => by
      unfold rlx
      split
      · exact upN_o (by omega)
      · rfl
    show edg T B (rnd T B d n) n x = d x
    unfold edg
    split
    · rw [key _ _ _ _ hb, key _ _ _ _ ha]; exact ih
    · exact ih
def sd6 (d : Nat → Nat) : Nat := d 0 + d 1 + d 2 + d 3 + d 4 + d 5
theorem rnd_or {T : Tn} (hT : TnOk T) (B : Nat) (d : Nat → Nat) : rnd T B d (tP T) = d ∨ sd6 (rnd T B d (tP T)) < sd6 d := by
  have h := rnd_le T B d (tP T)
  by_cases e : sd6 (rnd T B d (tP T)) < sd6 d
  · exact Or.inr e
  · left
    funext x
    by_cases hx : 6 ≤ x
    · exact rnd_out hT hx _ (Nat.le_refl _)
    · have a0 := h 0; have a1 := h 1; have a2 := h 2; have a3 := h 3; have a4 := h 4; have a5 := h 5
      unfold sd6 at e
      rcases (show x = 0 ∨ x = 1 ∨ x = 2 ∨ x = 3 ∨ x = 4 ∨ x = 5 by omega) with rfl | rfl | rfl | rfl | rfl | rfl <;> omega
theorem fix_ex {T : Tn} (hT : TnOk T) (B : Nat) (d : Nat → Nat) : ∃ m, rnd T B (rds T B d m) (tP T) = rds T B d m := by
  have : ∀ k m, sd6 (rds T B d m) ≤ k → ∃ m, rnd T B (rds T B d m) (tP T) = rds T B d m := by
    intro k
    induction k with
    | zero =>
      intro m hm
      rcases rnd_or hT B (rds T B d m) with h | h
      · exact ⟨m, h⟩
      · omega
    | succ k ih =>
      intro m hm
      rcases rnd_or hT B (rds T B d m) with h | h
      · exact ⟨m, h⟩
      · exact ih (m + 1) (by
          have e : rds T B d (m + 1) = rnd T B (rds T B d m) (tP T) := rfl
          rw [e]; omega)
  exact this _ 0 (Nat.le_refl _)
theorem cnt_le (g h : Nat → Bool) : ∀ n, (∀ i, i < n → g i = true → h i = true) → cnt g n ≤ cnt h n
  | 0, _ => Nat.le_refl _
  | n + 1, hg => by
    have ih := cnt_le g h n (fun i hi => hg i (by omega))
    simp only [cnt]
    by_cases e : g n = true
    · rw [if_pos e, if_pos (hg n (by omega) e)]; omega
    · rw [if_neg e]; omega
theorem cnt_lt (g h : Nat → Bool) (v : Nat) (hv1 : g v = false) (hv2 : h v = true) : ∀ n, v < n → (∀ i, i < n → g i = true → h i = true) → cnt g n < cnt h n
  | 0, hv, _ => by omega
  | n + 1, hv, hg => by
    simp only [cnt]
    by_cases e : v = n
    · subst e
      have ih := cnt_le g h v (fun i hi => hg i (by omega))
      rw [if_neg (by rw [hv1]; decide), if_pos hv2]; omega
    · have ih := cnt_lt g h v hv1 hv2 n (by omega) (fun i hi => hg i (by omega))
      by_cases e2 : g n = true
      · rw [if_pos e2, if_pos (hg n (by omega) e2)]; omega
      · rw [if_neg e2]; omega
def rk (d : Nat → Nat) (v : Nat) : Nat := cnt (fun u => decide (d u < d v)) 6
theorem rk_lt {d : Nat → Nat} {u v : Nat} (hu : u < 6) (h : d u < d v) : rk d u < rk d v :=
  cnt_lt _ _ u (by simp) (by simpa using h) 6 hu (fun i _ hi => by
    have : d i < d u := by simpa using hi
    have : d i < d v := by omega
    simpa using this)
theorem rk_le {d : Nat → Nat} {v : Nat} (hv : v < 6) : rk d v ≤ 5 := by
  have h : rk d v < cnt (fun _ => true) 6 := cnt_lt _ _ v (by simp) rfl 6 hv (fun _ _ _ => rfl)
  have e : cnt (fun _ => true) 6 = 6 := by decide
  omega
theorem leg_pos (T : Tn) (p : Nat) : 1 ≤ leg T p := by unfold leg; omega
theorem join_lt {T : Tn} (hT : TnOk T) {p x u : Nat} (hp : p < tP T) (hj : join T p x u) : u < 6 := by
  obtain ⟨ha, hb, -⟩ := hT.2.2.1 p hp
  rcases hj with ⟨-, rfl⟩ | ⟨-, rfl⟩ <;> assumption
theorem bf_rank {T : Tn} (hT : TnOk T) {B t m : Nat} (hm : rnd T B (rds T B (ini t) m) (tP T) = rds T B (ini t) m) : ∀ k v, v < 6 → rk (rds T B (ini t) m) v ≤ k → rds T B (ini t) k v = rds T B (ini t) m v := by
  have hle : ∀ k v, rds T B (ini t) m v ≤ rds T B (ini t) k v := fun k v => by
    have h1 := rds_fix hm k
    have h2 := rds_anti T B (ini t) k m v
    rw [Nat.add_comm k m, h1] at h2
    exact h2
  have hini : ∀ k v, rds T B (ini t) k v ≤ ini t v := fun k v => by
    have h2 := rds_anti T B (ini t) 0 k v
    rw [Nat.zero_add] at h2
    exact h2
  have hi1 : ∀ v, ini t v ≤ 100000 := fun v => by unfold ini; split <;> omega
  have hi0 : ini t t = 0 := if_pos rfl
  intro k
  induction k with
  | zero =>
    intro v hv hr
    have a1 := hle 0 v
    have a2 := hini 0 v
    have a3 := hi1 v
    by_cases e : v = t
    · subst e; omega
    · by_cases e2 : rds T B (ini t) m v < 100000
      · obtain ⟨p, u, g1, g2, g3, g4⟩ := (Tg_rds (T := T) (B := B) (t := t) m).2 v e e2
        have := leg_pos T p
        have := rk_lt (d := rds T B (ini t) m) (join_lt hT g1 g3) (v := v) (by omega)
        omega
      · omega
  | succ k ih =>
    intro v hv hr
    have a1 := hle (k + 1) v
    have a2 := hini (k + 1) v
    have a3 := hi1 v
    by_cases e : v = t
    · subst e; omega
    · by_cases e2 : rds T B (ini t) m v < 100000
      · obtain ⟨p, u, g1, g2, g3, g4⟩ := (Tg_rds (T := T) (B := B) (t := t) m).2 v e e2
        have := leg_pos T p
        have hu := join_lt hT g1 g3
        have h5 := rk_lt (d := rds T B (ini t) m) hu (v := v) (by omega)
        have h6 := ih u hu (by omega)
        have h7 := rnd_rel (rds T B (ini t) k) g1 g2 g3
        have h8 : rds T B (ini t) (k + 1) v = rnd T B (rds T B (ini t) k) (tP T) v := rfl
        omega
      · omega
theorem dst_fix {T : Tn} (hT : TnOk T) (f B : Nat) {p x u : Nat} (hp : p < tP T) (h0 : B / 2 ^ p % 2 = 0) (hx : x < 6) (hj : join T p x u) : dst T f B x ≤ dst T f B u + leg T p := by
  obtain ⟨m, hm⟩ := fix_ex hT B (ini (tG T f))
  have hu := join_lt hT hp hj
  have e1 := bf_rank hT hm 5 x hx (rk_le hx)
  have e2 := bf_rank hT hm 5 u hu (rk_le hu)
  have h7 := rnd_rel (rds T B (ini (tG T f)) m) hp h0 hj
  rw [hm] at h7
  unfold dst
  omega
theorem dst_tight {T : Tn} (hT : TnOk T) (f B : Nat) {x : Nat} (hx : x < 6) (ht : x ≠ tG T f) (hd : dst T f B x < 100000) : ∃ p u, p < tP T ∧ B / 2 ^ p % 2 = 0 ∧ join T p x u ∧ dst T f B u + leg T p = dst T f B x := by
  obtain ⟨p, u, g1, g2, g3, g4⟩ := (Tg_rds (T := T) (B := B) (t := tG T f) 5).2 x ht hd
  have h1 := dst_fix hT f B g1 g2 hx g3
  refine ⟨p, u, g1, g2, g3, ?_⟩
  have g4' : dst T f B u + leg T p ≤ dst T f B x := g4
  omega
theorem dst_t {T : Tn} (f B : Nat) : dst T f B (tG T f) = 0 := (Tg_rds (T := T) (B := B) (t := tG T f) 5).1
theorem oth_join {T : Tn} (hT : TnOk T) {p x u : Nat} (hp : p < tP T) (hj : join T p x u) : oth T p x = u := by
  obtain ⟨ha, hb, hab, -⟩ := hT.2.2.1 p hp
  unfold oth
  rcases hj with ⟨rfl, rfl⟩ | ⟨rfl, rfl⟩
  · rw [if_pos rfl]
  · rw [if_neg hab, if_pos rfl]
theorem nxp_lt {T : Tn} {B x p : Nat} {d : Nat → Nat} (h0 : B / 2 ^ p % 2 = 0) (ho : oth T p x < 6) (he : d (oth T p x) + leg T p = d x) : ∀ n, p < n → nxp T B d x n < 6
  | 0, h => by omega
  | n + 1, h => by
    simp only [nxp]
    by_cases e : p = n
    · subst e
      rw [if_pos ⟨h0, ho, he⟩]
      split <;> omega
    · have ih := nxp_lt h0 ho he n (by omega)
      split
      · split <;> omega
      · exact ih
theorem dst_nxp {T : Tn} (hT : TnOk T) (f B : Nat) {x : Nat} (hx : x < 6) (hd : dst T f B x < 100000) (h0 : dst T f B x ≠ 0) : nxp T B (dst T f B) x (tP T) < 6 := by
  have ht : x ≠ tG T f := fun z => h0 (by rw [z]; exact dst_t f B)
  obtain ⟨p, u, g1, g2, g3, g4⟩ := dst_tight hT f B hx ht hd
  have ho := oth_join hT g1 g3
  exact nxp_lt g2 (by rw [ho]; exact join_lt hT g1 g3) (by rw [ho]; exact g4) (tP T) g1
theorem dst_mod {T : Tn} (hT : TnOk T) (f B : Nat) : ∀ k x, k ≤ 5 → x < 6 → rk (dst T f B) x ≤ k → dst T f B x < 100000 → dst T f B x % 16 ≤ k ∧ (dst T f B x % 16 = 0 → dst T f B x = 0) := by
  intro k
  induction k with
  | zero =>
    intro x hk hx hr hd
    by_cases e : x = tG T f
    · rw [e, dst_t f B]; omega
    · obtain ⟨p, u, g1, g2, g3, g4⟩ := dst_tight hT f B hx e hd
      have := leg_pos T p
      have := rk_lt (d := dst T f B) (join_lt hT g1 g3) (v := x) (by omega)
      omega
  | succ k ih =>
    intro x hk hx hr hd
    by_cases e : x = tG T f
    · rw [e, dst_t f B]; omega
    · obtain ⟨p, u, g1, g2, g3, g4⟩ := dst_tight hT f B hx e hd
      have := leg_pos T p
      have hu := join_lt hT g1 g3
      have h5 := rk_lt (d := dst T f B) hu (v := x) (by omega)
      obtain ⟨i1, i2⟩ := ih u (by omega) hu (by omega) (by omega)
      have hl : leg T p = tY T p * 16 + 1 := rfl
      omega
theorem dst_m5 {T : Tn} (hT : TnOk T) (f B : Nat) {x : Nat} (hx : x < 6) (hd : dst T f B x < 100000) : dst T f B x % 16 ≤ 5 ∧ (dst T f B x % 16 = 0 → dst T f B x = 0) :=
  dst_mod hT f B 5 x (Nat.le_refl _) hx (rk_le hx) hd
theorem pl_walk {T : Tn} (hT : TnOk T) (f B : Nat) {h : Nat} (hh : h < 6) (hd : dst T f B h < 100000) : ∀ n, n ≤ dst T f B h % 16 → dst T f B (plS T B (dst T f B) h n) < 100000 ∧ dst T f B (plS T B (dst T f B) h n) % 16 + n = dst T f B h % 16
  | 0, _ => ⟨hd, rfl⟩
  | n + 1, hn => by
    obtain ⟨i1, i2⟩ := pl_walk hT f B hh hd n (by omega)
    have hx := plS_lt T B (dst T f B) hh n
    have h6 := dst_nxp hT f B hx i1 (by omega)
    obtain ⟨p, g1, g2, g3, g4⟩ := nxp_tight T B (dst T f B) (plS T B (dst T f B) h n) (tP T) h6
    have e : plS T B (dst T f B) h (n + 1) = nxp T B (dst T f B) (plS T B (dst T f B) h n) (tP T) := by
      show nxt T B (dst T f B) (plS T B (dst T f B) h n) = _
      unfold nxt
      rw [if_pos h6]
    rw [e]
    rw [g3] at g4
    have hl : leg T p = tY T p * 16 + 1 := rfl
    have h7 := dst_m5 hT f B h6 (by omega)
    omega
/-- sets as masks -/
theorem msk_tb (g : Nat → Bool) (n i : Nat) : (msk g n).testBit i = (decide (i < n) && g i) := by
  rw [Nat.testBit_eq_decide_div_mod_eq, msk_bit]
  by_cases h : i < n ∧ g i = true
  · rw [if_pos h, h.2]; simp [h.1]
  · rw [if_neg h]
    by_cases h1 : i < n
    · have : g i = false := by cases hg : g i with
        | false => rfl
        | true => exact absurd ⟨h1, hg⟩ h
      simp [this]
    · simp [h1]
theorem msk_and (g h : Nat → Bool) (n : Nat) (hn : n ≤ 8) : msk g 8 &&& msk h n = msk (fun q => g q && (decide (q < n) && h q)) 8 := by
  apply Nat.eq_of_testBit_eq
  intro i
  rw [Nat.testBit_and, msk_tb, msk_tb, msk_tb]
  by_cases h1 : i < n
  · have : i < 8 := by omega
    simp [h1, this]
  · simp [h1]
theorem sub2_or (B C : Nat) : sub2 B (B ||| C) := fun p h => by
  have h1 : (B ||| C).testBit p = false := by rw [Nat.testBit_eq_decide_div_mod_eq, h]; rfl
  rw [Nat.testBit_or, Bool.or_eq_false_iff] at h1
  have h2 := h1.1
  rw [Nat.testBit_eq_decide_div_mod_eq] at h2
  have : B / 2 ^ p % 2 < 2 := Nat.mod_lt _ (by omega)
  have : ¬ B / 2 ^ p % 2 = 1 := by simpa using h2
  omega
theorem sub2_or' (B C : Nat) : sub2 C (B ||| C) := by rw [Nat.or_comm]; exact sub2_or C B
theorem and_m1 {m : Nat} (hm : m < 256) : nI m &&& (-1) = nI m := by
  have : ∀ m, m < 256 → nI m &&& (-1) = nI m := by decide +kernel
  exact this m hm
/-- the pole's set, piece by piece -/
def plB (T : Tn) (N : Nw) (g k n : Nat) : Nat := msk (fun q => decide (nO N q = g) && (decide (n ≤ q) || decide (k < tY T q))) 8
theorem plB_0 (T : Tn) (N : Nw) (g k : Nat) : plB T N g k 0 = owm N g := msk_congr (fun p _ => by simp)
theorem plB_lt (T : Tn) (N : Nw) (g k n : Nat) : plB T N g k n < 256 := msk_lt _ 8
theorem plB_skip {T : Tn} {N : Nw} {g k n : Nat} (h : k < tY T n) : plB T N g k (n + 1) = plB T N g k n := msk_congr (fun q _ => by
  by_cases e : q = n
  · subst e; simp [h]
  · have : decide (n + 1 ≤ q) = decide (n ≤ q) := decide_eq_decide.mpr (by omega)
    rw [this])
theorem plB_out {T : Tn} {N : Nw} {g k n : Nat} (hn : n < 8) (h : ¬ k < tY T n) : plB T N g k (n + 1) = plB T N g k n - plB T N g k n / 2 ^ n % 2 * 2 ^ n :=
  msk_out _ _ n hn (fun q e => by
    have : decide (n + 1 ≤ q) = decide (n ≤ q) := decide_eq_decide.mpr (by omega)
    rw [this]) (by
    have : ¬ n + 1 ≤ n := by omega
    simp [h, this])
theorem plB_P {T : Tn} {N : Nw} (hN : NwOk T N) (h8 : tP T ≤ 8) {g k : Nat} (hg : g < 4) : plB T N g k (tP T) = owm N g &&& msk (fun p => decide (k < tY T p)) (tP T) := by
  unfold owm
  rw [msk_and _ _ _ h8]
  refine msk_congr (fun q _ => ?_)
  by_cases e : q < tP T
  · have : ¬ tP T ≤ q := by omega
    simp [e, this]
  · have h4 := (hN.1 q).2.1 (by omega)
    have : ¬ 4 = g := by omega
    rw [h4]
    simp [this]
