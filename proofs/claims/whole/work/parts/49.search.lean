/-! ===== the searches are the first least row (pure) ===== -/
theorem updE (f : Nat → Int32) (k : Nat) (v : Int32) : upd f k v k = v := if_pos rfl
theorem updO {f : Nat → Int32} {k j : Nat} {v : Int32} (h : j ≠ k) : upd f k v j = f j := if_neg h
theorem fdl_add {α : Type} (g : Nat → α → α) (a : Nat) : ∀ b s, fdl g (a + b) s = fdl (fun r => g (a + r)) b (fdl g a s)
  | 0, s => rfl
  | b + 1, s => by
    show g (a + b) (fdl g (a + b) s) = g (a + b) (fdl (fun r => g (a + r)) b (fdl g a s))
    rw [fdl_add g a b s]
theorem fdl_mul {α : Type} (g : Nat → α → α) (m : Nat) : ∀ n s, fdl g (n * m) s = fdl (fun p s => fdl (fun r => g (p * m + r)) m s) n s
  | 0, s => by rw [Nat.zero_mul]; rfl
  | n + 1, s => by
    rw [Nat.succ_mul, fdl_add, fdl_mul g m n]
    rfl
theorem fdl_congr {α : Type} {g h : Nat → α → α} : ∀ n s, (∀ r s, r < n → g r s = h r s) → fdl g n s = fdl h n s
  | 0, s, _ => rfl
  | n + 1, s, e => by
    show g n (fdl g n s) = h n (fdl h n s)
    rw [fdl_congr n s (fun r s hr => e r s (by omega)), e n _ (by omega)]
theorem fdl_id {α : Type} {g : Nat → α → α} {s : α} : ∀ n, (∀ r, r < n → g r s = s) → fdl g n s = s
  | 0, _ => rfl
  | n + 1, e => by
    show g n (fdl g n s) = s
    rw [fdl_id n (fun r hr => e r (by omega))]
    exact e n (by omega)
/-- the first least of the rows off, off + 1, .. -/
def mnF (W : Nat → Nat) (off : Nat) : Nat → Nat × Nat → Nat × Nat := fun r m => if W r < m.1 then (W r, off + r) else m
theorem mnF_le {W : Nat → Nat} {off : Nat} : ∀ n (m : Nat × Nat), m.1 ≤ 100000 → (fdl (mnF W off) n m).1 ≤ 100000
  | 0, m, h => h
  | n + 1, m, h => by
    have ih := mnF_le (W := W) (off := off) n m h
    show (mnF W off n (fdl (mnF W off) n m)).1 ≤ 100000
    unfold mnF at ih ⊢
    split
    · show W n ≤ 100000
      omega
    · exact ih
/-- one each: what a row costs -/
def WW (T : Tn) (w : Nat) : Nat → Nat → Nat → Nat → Nat → Nat
  | 0, _, _, worth, _ => worth
  | k + 1, f, taken, worth, r => WW T w k (f + 1) (taken ||| 2 ^ (r / tP T ^ k)) (if taken / 2 ^ (r / tP T ^ k) % 2 = 0 then wW T w worth f (r / tP T ^ k) else 100000) (r % tP T ^ k)
theorem wW_ge (T : Tn) (w worth f p : Nat) : worth ≤ wW T w worth f p := by
  unfold wW
  split
  · split <;> omega
  · omega
theorem WW_ge (T : Tn) (w : Nat) : ∀ k f taken worth r c, c ≤ worth → c ≤ 100000 → c ≤ WW T w k f taken worth r
  | 0, _, _, _, _, c, h, _ => h
  | k + 1, f, taken, worth, r, c, h, h2 => by
    refine WW_ge T w k _ _ _ _ c ?_ h2
    split
    · exact Nat.le_trans h (wW_ge T w worth f _)
    · exact h2
def dgO (T : Tn) (row j : Nat) : Nat := row / tP T ^ (tF T - 1 - j) % tP T
def HitO (T : Tn) (s : S3) (m : Nat × Nat) : Prop := s.1 = m.1 ∧ (m.1 < 100000 → ∀ j, j < tF T → s.2.1 j = nI (dgO T m.2 j))
theorem oneSim (T : Tn) (w : Nat) : ∀ k f taken worth (s : S3) a (m : Nat × Nat), f + k = tF T → worth < s.1 → s.1 ≤ 100000 → HitO T s m → (∀ j, j < f → ∀ r, r < tP T ^ k → s.2.2 j = nI (dgO T (a * tP T ^ k + r) j)) → HitO T (oneD T w k f taken worth s) (fdl (mnF (WW T w k f taken worth) (a * tP T ^ k)) (tP T ^ k) m) ∧ ∀ j, j < f → (oneD T w k f taken worth s).2.2 j = s.2.2 j := by
  intro k
  induction k with
  | zero =>
    intro f taken worth s a m hf hw hs hH hp
    have e1 : fdl (mnF (WW T w 0 f taken worth) (a * tP T ^ 0)) (tP T ^ 0) m = (worth, a * tP T ^ 0 + 0) := by
      show (if worth < m.1 then (worth, a * tP T ^ 0 + 0) else m) = _
      rw [if_pos (by rw [← hH.1]; exact hw)]
    rw [e1]
    refine ⟨⟨rfl, fun _ j hj => ?_⟩, fun j _ => rfl⟩
    exact hp j (by omega) 0 (by rw [Nat.pow_zero]; omega)
  | succ k ih =>
    intro f taken worth s a m hf hw hs hH hp
    have ep : tP T ^ (k + 1) = tP T * tP T ^ k := by rw [Nat.pow_succ, Nat.mul_comm]
    rw [ep, fdl_mul]
    unfold oneD
    -- piece by piece
    have key : ∀ n, n ≤ tP T → ∀ cs ms, cs = fdl (fun p (s : S3) => if (if taken / 2 ^ p % 2 = 0 then wW T w worth f p else 100000) < s.1 then oneD T w k (f + 1) (taken ||| 2 ^ p) (if taken / 2 ^ p % 2 = 0 then wW T w worth f p else 100000) (s.1, s.2.1, upd s.2.2 f (nI p)) else s) n s → ms = fdl (fun p s => fdl (fun r => mnF (WW T w (k + 1) f taken worth) (a * (tP T * tP T ^ k)) (p * tP T ^ k + r)) (tP T ^ k) s) n m → HitO T cs ms ∧ cs.1 ≤ 100000 ∧ ∀ j, j < f → cs.2.2 j = s.2.2 j := by
      intro n
      induction n with
      | zero =>
        intro _ cs ms hc hm
        subst hc hm
        exact ⟨hH, hs, fun _ _ => rfl⟩
      | succ n ihn =>
        intro hn cs ms hc hm
        obtain ⟨i1, i2, i3⟩ := ihn (by omega) _ _ rfl rfl
        have hPk : 0 < tP T ^ k := Nat.pow_pos (by omega)
        have hc' : cs = (fun p (s : S3) => if (if taken / 2 ^ p % 2 = 0 then wW T w worth f p else 100000) < s.1 then oneD T w k (f + 1) (taken ||| 2 ^ p) (if taken / 2 ^ p % 2 = 0 then wW T w worth f p else 100000) (s.1, s.2.1, upd s.2.2 f (nI p)) else s) n (fdl (fun p (s : S3) => if (if taken / 2 ^ p % 2 = 0 then wW T w worth f p else 100000) < s.1 then oneD T w k (f + 1) (taken ||| 2 ^ p) (if taken / 2 ^ p % 2 = 0 then wW T w worth f p else 100000) (s.1, s.2.1, upd s.2.2 f (nI p)) else s) n s) := hc
        have hm' : ms = fdl (fun r => mnF (WW T w (k + 1) f taken worth) (a * (tP T * tP T ^ k)) (n * tP T ^ k + r)) (tP T ^ k) (fdl (fun p s => fdl (fun r => mnF (WW T w (k + 1) f taken worth) (a * (tP T * tP T ^ k)) (p * tP T ^ k + r)) (tP T ^ k) s) n m) := hm
        generalize fdl (fun p (s : S3) => if (if taken / 2 ^ p % 2 = 0 then wW T w worth f p else 100000) < s.1 then oneD T w k (f + 1) (taken ||| 2 ^ p) (if taken / 2 ^ p % 2 = 0 then wW T w worth f p else 100000) (s.1, s.2.1, upd s.2.2 f (nI p)) else s) n s = c0 at hc' i1 i2 i3
        generalize fdl (fun p s => fdl (fun r => mnF (WW T w (k + 1) f taken worth) (a * (tP T * tP T ^ k)) (p * tP T ^ k + r)) (tP T ^ k) s) n m = m0 at hm' i1
        have hrow : ∀ r, r < tP T ^ k → (n * tP T ^ k + r) / tP T ^ k = n ∧ (n * tP T ^ k + r) % tP T ^ k = r := fun r hr => by
          rw [Nat.mul_comm, Nat.mul_add_div hPk, Nat.mul_add_mod, Nat.div_eq_of_lt hr, Nat.mod_eq_of_lt hr]
          exact ⟨rfl, rfl⟩
        have hWW : ∀ r, r < tP T ^ k → WW T w (k + 1) f taken worth (n * tP T ^ k + r) = WW T w k (f + 1) (taken ||| 2 ^ n) (if taken / 2 ^ n % 2 = 0 then wW T w worth f n else 100000) r := fun r hr => by
          simp only [WW]
          rw [(hrow r hr).1, (hrow r hr).2]
        have hoff : ∀ r, a * (tP T * tP T ^ k) + (n * tP T ^ k + r) = (a * tP T + n) * tP T ^ k + r := fun r => by
          rw [Nat.add_mul, Nat.mul_assoc, Nat.add_assoc]
        have hm2 : ms = fdl (mnF (WW T w k (f + 1) (taken ||| 2 ^ n) (if taken / 2 ^ n % 2 = 0 then wW T w worth f n else 100000)) ((a * tP T + n) * tP T ^ k)) (tP T ^ k) m0 := by
          rw [hm']
          refine fdl_congr _ _ (fun r s hr => ?_)
          unfold mnF
          rw [hWW r hr, hoff r]
        clear hm' hm hc
        have hc2 : cs = if (if taken / 2 ^ n % 2 = 0 then wW T w worth f n else 100000) < c0.1 then oneD T w k (f + 1) (taken ||| 2 ^ n) (if taken / 2 ^ n % 2 = 0 then wW T w worth f n else 100000) (c0.1, c0.2.1, upd c0.2.2 f (nI n)) else c0 := hc'
        clear hc'
        generalize (if taken / 2 ^ n % 2 = 0 then wW T w worth f n else 100000) = w' at hm2 hc2
        by_cases hlt : w' < c0.1
        · rw [if_pos hlt] at hc2
          have hq := ih (f + 1) (taken ||| 2 ^ n) w' (c0.1, c0.2.1, upd c0.2.2 f (nI n)) (a * tP T + n) m0 (by omega) hlt i2 ⟨i1.1, i1.2⟩ (fun j hj r hr => by
            show upd c0.2.2 f (nI n) j = _
            by_cases e : j = f
            · subst e
              rw [updE]
              congr 1
              unfold dgO
              rw [show tF T - 1 - j = k by omega, Nat.mul_comm _ (tP T ^ k), Nat.mul_add_div hPk, Nat.div_eq_of_lt hr, Nat.add_zero, Nat.mul_comm a, Nat.mul_add_mod, Nat.mod_eq_of_lt (by omega)]
            · rw [updO e, i3 j (by omega)]
              have hr2 : n * tP T ^ k + r < tP T ^ (k + 1) := by
                rw [ep]
                have : (n + 1) * tP T ^ k ≤ tP T * tP T ^ k := Nat.mul_le_mul_right _ (by omega)
                rw [Nat.add_mul, Nat.one_mul] at this
                omega
              rw [hp j (by omega) (n * tP T ^ k + r) hr2, ep, hoff r])
          rw [← hc2, ← hm2] at hq
          refine ⟨hq.1, ?_, fun j hj => ?_⟩
          · rw [hc2]; exact oneD_le k _ _ _ _ (by omega) i2
          · rw [hq.2 j (by omega)]
            show upd c0.2.2 f (nI n) j = _
            rw [updO (by omega)]; exact i3 j hj
        · rw [if_neg hlt] at hc2
          have e : ms = m0 := by
            rw [hm2]
            refine fdl_id _ (fun r hr => ?_)
            unfold mnF
            rw [if_neg]
            have := WW_ge T w k (f + 1) (taken ||| 2 ^ n) w' r c0.1 (by omega) i2
            rw [← i1.1]; omega
          rw [hc2, e]
          exact ⟨i1, i2, i3⟩
    obtain ⟨a1, a2, a3⟩ := key (tP T) (Nat.le_refl _) _ _ rfl rfl
    exact ⟨a1, a3⟩
/-- one each: the first least row -/
def mO (T : Tn) (w st : Nat) : Nat × Nat := fdl (mnF (WW T w (tF T) 0 st 0) 0) (tP T ^ tF T) (100000, 0)
theorem one_hit (T : Tn) {w st : Nat} {s : S3} (hw : w ≠ 2) (h : CRes T w st s) : HitO T s (mO T w st) := by
  obtain ⟨ch, tr, e⟩ := h
  rw [if_neg hw] at e
  have hq := (oneSim T w (tF T) 0 st 0 (100000, ch, tr) 0 (100000, 0) (by omega) (show 0 < 100000 by decide) (Nat.le_refl _) ⟨rfl, fun z => absurd z (by decide)⟩ (fun j hj => by omega)).1
  rw [Nat.zero_mul] at hq
  rw [e]
  exact hq
/-- all pieces: the rows -/
def MR (T : Tn) (st : Nat) : Nat → Nat → Nat
  | 0, _ => 1
  | k + 1, p => (if st / 2 ^ p % 2 = 1 then 1 else tF T) * MR T st k (p + 1)
def WA (T : Tn) (st : Nat) : Nat → Nat → (Nat → Nat) → Nat → Nat
  | 0, _, gv, _ => cstS T gv (tF T)
  | k + 1, p, gv, r => if st / 2 ^ p % 2 = 1 then WA T st k (p + 1) gv r else WA T st k (p + 1) (gvU gv (r / MR T st k (p + 1)) p) (r % MR T st k (p + 1))
theorem cst_mono (T : Tn) {g h : Nat → Nat} (hg : ∀ f, sub2 (g f) (h f)) : ∀ n, cstS T g n ≤ cstS T h n
  | 0 => Nat.le_refl _
  | n + 1 => by
    have ih := cst_mono T hg n
    have h1 : yd T n (g n) * tN T n ≤ yd T n (h n) * tN T n := Nat.mul_le_mul_right _ (yd_mono (hg n) n)
    simp only [cstS]; omega
theorem sub2_gvU (gv : Nat → Nat) (f p x : Nat) : sub2 (gv x) (gvU gv f p x) := by
  unfold gvU
  by_cases e : x = f
  · subst e; rw [upN_s]; exact sub2_or _ _
  · rw [upN_o e]; exact fun _ h => h
theorem WA_ge (T : Tn) (st : Nat) : ∀ k p gv r, cstS T gv (tF T) ≤ WA T st k p gv r
  | 0, _, _, _ => Nat.le_refl _
  | k + 1, p, gv, r => by
    simp only [WA]
    split
    · exact WA_ge T st k _ gv r
    · exact Nat.le_trans (cst_mono T (fun x => sub2_gvU gv _ p x) (tF T)) (WA_ge T st k _ _ _)
def dA (T : Tn) (st row p : Nat) : Nat := row / MR T st (tP T - (p + 1)) (p + 1) % tF T
def tlA (T : Tn) (st row p : Nat) : Int32 := if st / 2 ^ p % 2 = 1 then -5 else nI (dA T st row p)
def HitA (T : Tn) (st : Nat) (s : S3) (m : Nat × Nat) : Prop := s.1 = m.1 ∧ (m.1 < 100000 → ∀ j, j < tP T → s.2.1 j = tlA T st m.2 j)
theorem allSim (T : Tn) (st : Nat) : ∀ k p gv (s : S3) a (m : Nat × Nat), p + k = tP T → cstS T gv (tF T) < s.1 → s.1 ≤ 100000 → HitA T st s m → (∀ j, j < p → ∀ r, r < MR T st k p → s.2.2 j = tlA T st (a * MR T st k p + r) j) → HitA T st (allD T st k p gv s) (fdl (mnF (WA T st k p gv) (a * MR T st k p)) (MR T st k p) m) ∧ ∀ j, j < p → (allD T st k p gv s).2.2 j = s.2.2 j := by
  intro k
  induction k with
  | zero =>
    intro p gv s a m hp hw hs hH hpr
    have e1 : fdl (mnF (WA T st 0 p gv) (a * MR T st 0 p)) (MR T st 0 p) m = (cstS T gv (tF T), a * MR T st 0 p + 0) := by
      show (if cstS T gv (tF T) < m.1 then (cstS T gv (tF T), a * MR T st 0 p + 0) else m) = _
      rw [if_pos (by rw [← hH.1]; exact hw)]
    rw [e1]
    refine ⟨⟨rfl, fun _ j hj => ?_⟩, fun j _ => rfl⟩
    exact hpr j (by omega) 0 (by show 0 < 1; omega)
  | succ k ih =>
    intro p gv s a m hp hw hs hH hpr
    by_cases hst : st / 2 ^ p % 2 = 1
    · have eM : MR T st (k + 1) p = MR T st k (p + 1) := by simp only [MR]; rw [if_pos hst, Nat.one_mul]
      have eD : allD T st (k + 1) p gv s = allD T st k (p + 1) gv (s.1, s.2.1, upd s.2.2 p (-5)) := by
        show (if st / 2 ^ p % 2 = 1 then _ else _) = _
        rw [if_pos hst]
      have eW : WA T st (k + 1) p gv = WA T st k (p + 1) gv := by funext r; simp only [WA]; rw [if_pos hst]
      rw [eM, eD, eW]
      rw [eM] at hpr
      have hq := ih (p + 1) gv (s.1, s.2.1, upd s.2.2 p (-5)) a m (by omega) hw hs ⟨hH.1, hH.2⟩ (fun j hj r hr => by
        show upd s.2.2 p (-5) j = _
        by_cases e : j = p
        · subst e; rw [updE]; unfold tlA; rw [if_pos hst]
        · rw [updO e]; exact hpr j (by omega) r hr)
      refine ⟨hq.1, fun j hj => ?_⟩
      rw [hq.2 j (by omega)]
      show upd s.2.2 p (-5) j = _
      rw [updO (by omega)]
    · have eM : MR T st (k + 1) p = tF T * MR T st k (p + 1) := by simp only [MR]; rw [if_neg hst]
      rw [eM] at hpr ⊢
      rw [fdl_mul]
      have eD : allD T st (k + 1) p gv s = fdl (fun f (s : S3) => if cstS T (gvU gv f p) (tF T) < s.1 then allD T st k (p + 1) (gvU gv f p) (s.1, s.2.1, upd s.2.2 p (nI f)) else s) (tF T) s := by
        show (if st / 2 ^ p % 2 = 1 then _ else _) = _
        rw [if_neg hst]
      rw [eD]
      generalize hMM : MR T st k (p + 1) = M at hpr ih
      have key : ∀ n, n ≤ tF T → ∀ cs ms, cs = fdl (fun f (s : S3) => if cstS T (gvU gv f p) (tF T) < s.1 then allD T st k (p + 1) (gvU gv f p) (s.1, s.2.1, upd s.2.2 p (nI f)) else s) n s → ms = fdl (fun q s => fdl (fun r => mnF (WA T st (k + 1) p gv) (a * (tF T * M)) (q * M + r)) M s) n m → HitA T st cs ms ∧ cs.1 ≤ 100000 ∧ ∀ j, j < p → cs.2.2 j = s.2.2 j := by
        intro n
        induction n with
        | zero =>
          intro _ cs ms hc hm
          subst hc hm
          exact ⟨hH, hs, fun _ _ => rfl⟩
        | succ n ihn =>
          intro hn cs ms hc hm
          obtain ⟨i1, i2, i3⟩ := ihn (by omega) _ _ rfl rfl
          have hc' : cs = (fun f (s : S3) => if cstS T (gvU gv f p) (tF T) < s.1 then allD T st k (p + 1) (gvU gv f p) (s.1, s.2.1, upd s.2.2 p (nI f)) else s) n (fdl (fun f (s : S3) => if cstS T (gvU gv f p) (tF T) < s.1 then allD T st k (p + 1) (gvU gv f p) (s.1, s.2.1, upd s.2.2 p (nI f)) else s) n s) := hc
          have hm' : ms = fdl (fun r => mnF (WA T st (k + 1) p gv) (a * (tF T * M)) (n * M + r)) M (fdl (fun q s => fdl (fun r => mnF (WA T st (k + 1) p gv) (a * (tF T * M)) (q * M + r)) M s) n m) := hm
          generalize fdl (fun f (s : S3) => if cstS T (gvU gv f p) (tF T) < s.1 then allD T st k (p + 1) (gvU gv f p) (s.1, s.2.1, upd s.2.2 p (nI f)) else s) n s = c0 at hc' i1 i2 i3
          generalize fdl (fun q s => fdl (fun r => mnF (WA T st (k + 1) p gv) (a * (tF T * M)) (q * M + r)) M s) n m = m0 at hm' i1
          have hrow : ∀ r, r < M → (n * M + r) / M = n ∧ (n * M + r) % M = r := fun r hr => by
            rw [Nat.mul_comm, Nat.mul_add_div (by omega), Nat.mul_add_mod, Nat.div_eq_of_lt hr, Nat.mod_eq_of_lt hr]
            exact ⟨rfl, rfl⟩
          have hWW : ∀ r, r < M → WA T st (k + 1) p gv (n * M + r) = WA T st k (p + 1) (gvU gv n p) r := fun r hr => by
            simp only [WA]
            rw [if_neg hst, hMM, (hrow r hr).1, (hrow r hr).2]
          have hoff : ∀ r, a * (tF T * M) + (n * M + r) = (a * tF T + n) * M + r := fun r => by
            rw [Nat.add_mul, Nat.mul_assoc, Nat.add_assoc]
          have hm2 : ms = fdl (mnF (WA T st k (p + 1) (gvU gv n p)) ((a * tF T + n) * M)) M m0 := by
            rw [hm']
            refine fdl_congr _ _ (fun r s hr => ?_)
            unfold mnF
            rw [hWW r hr, hoff r]
          clear hm' hm hc
          have hc2 : cs = if cstS T (gvU gv n p) (tF T) < c0.1 then allD T st k (p + 1) (gvU gv n p) (c0.1, c0.2.1, upd c0.2.2 p (nI n)) else c0 := hc'
          by_cases hlt : cstS T (gvU gv n p) (tF T) < c0.1
          · rw [if_pos hlt] at hc2
            have hq := ih (p + 1) (gvU gv n p) (c0.1, c0.2.1, upd c0.2.2 p (nI n)) (a * tF T + n) m0 (by omega) hlt i2 ⟨i1.1, i1.2⟩
            rw [hMM] at hq
            have hq := hq (fun j hj r hr => by
              show upd c0.2.2 p (nI n) j = _
              by_cases e : j = p
              · subst e
                rw [updE]
                unfold tlA
                rw [if_neg hst]
                congr 1
                unfold dA
                rw [show tP T - (j + 1) = k by omega, hMM, Nat.mul_comm _ M, Nat.mul_add_div (by omega), Nat.div_eq_of_lt hr, Nat.add_zero, Nat.mul_comm a, Nat.mul_add_mod, Nat.mod_eq_of_lt (by omega)]
              · rw [updO e, i3 j (by omega)]
                have hr2 : n * M + r < tF T * M := by
                  have : (n + 1) * M ≤ tF T * M := Nat.mul_le_mul_right _ (by omega)
                  rw [Nat.add_mul, Nat.one_mul] at this
                  omega
                rw [hpr j (by omega) (n * M + r) hr2, hoff r])
            rw [← hc2, ← hm2] at hq
            refine ⟨hq.1, ?_, fun j hj => ?_⟩
            · rw [hc2]; exact allD_le k _ _ _ (by omega) i2
            · rw [hq.2 j (by omega)]
              show upd c0.2.2 p (nI n) j = _
              rw [updO (by omega)]; exact i3 j hj
          · rw [if_neg hlt] at hc2
            have e : ms = m0 := by
              rw [hm2]
              refine fdl_id _ (fun r hr => ?_)
              unfold mnF
              rw [if_neg]
              have := WA_ge T st k (p + 1) (gvU gv n p) r
              rw [← i1.1]; omega
            rw [hc2, e]
            exact ⟨i1, i2, i3⟩
      obtain ⟨a1, a2, a3⟩ := key (tF T) (Nat.le_refl _) _ _ rfl rfl
      exact ⟨a1, a3⟩
def mA (T : Tn) (st : Nat) : Nat × Nat := fdl (mnF (WA T st (tP T) 0 (fun _ => 0)) 0) (MR T st (tP T) 0) (100000, 0)
theorem all_hit (T : Tn) {st : Nat} {s : S3} (h : CRes T 2 st s) : HitA T st s (mA T st) := by
  obtain ⟨ch, tr, e⟩ := h
  rw [if_pos rfl] at e
  by_cases hc : cstS T (fun _ => 0) (tF T) < 100000
  · rw [if_pos hc] at e
    have hq := (allSim T st (tP T) 0 (fun _ => 0) (100000, ch, tr) 0 (100000, 0) (by omega) hc (Nat.le_refl _) ⟨rfl, fun z => absurd z (by decide)⟩ (fun j hj => by omega)).1
    rw [Nat.zero_mul] at hq
    rw [e]
    exact hq
  · rw [if_neg hc] at e
    have em : mA T st = (100000, 0) := by
      unfold mA
      refine fdl_id _ (fun r hr => ?_)
      unfold mnF
      rw [if_neg]
      have := WA_ge T st (tP T) 0 (fun _ => 0) r
      show ¬ WA T st (tP T) 0 (fun _ => 0) r < 100000
      omega
    rw [e, em]
    exact ⟨rfl, fun z => absurd z (by decide)⟩
/-- what the searches answer -/
def oVal (T : Tn) (N : Nw) (w f : Int32) : Int32 := match ixN w 2 with
  | some k => if f = -1 ∨ (ixN f (tF T)).isSome = true then (if (mO T k (stm N)).1 < 100000 then (if f < 0 then nI (mO T k (stm N)).1 else nI (dgO T (mO T k (stm N)).2 f.toNatClampNeg)) else -9) else -1
  | none => -1
def aVal (T : Tn) (N : Nw) (p : Int32) : Int32 := if p = -1 ∨ (ixN p (tP T)).isSome = true then (if (mA T (stm N)).1 < 100000 then (if p < 0 then nI (mA T (stm N)).1 else tlA T (stm N) (mA T (stm N)).2 p.toNatClampNeg) else -9) else -1
theorem neg1_or {p : Int32} {n : Nat} (hn : n < 2 ^ 31) (h : p = -1 ∨ (ixN p n).isSome = true) (h0 : ¬ p < 0) : p.toNatClampNeg < n := by
  rcases h with rfl | h
  · exact absurd (by decide) h0
  · cases hx : ixN p n with
    | none => rw [hx] at h; cases h
    | some j =>
      obtain ⟨h1, h2⟩ := ixN_some hn hx
      subst h2
      have := nI_toInt (n := j) (by omega)
      show (nI j).toInt.toNat < n
      omega
theorem oAns_val {T : Tn} (hT : TnOk T) {N : Nw} {w f r : Int32} (h : oAns T N w f r) : r = oVal T N w f := by
  have h4 := hT.2.1
  unfold oAns at h
  unfold oVal
  cases hw : ixN w 2 with
  | none => rw [hw] at h; exact h
  | some k =>
    rw [hw] at h
    obtain ⟨hk, -⟩ := ixN_some (by decide) hw
    have h : cAns T k (stm N) (tF T) f r := h
    unfold cAns at h
    show r = if f = -1 ∨ (ixN f (tF T)).isSome = true then _ else _
    by_cases hf : f = -1 ∨ (ixN f (tF T)).isSome = true
    · rw [if_pos hf] at h ⊢
      obtain ⟨s, h1, h2⟩ := h
      obtain ⟨g1, g2⟩ := one_hit T (by omega) h1
      rw [h2]
      unfold chA
      rw [g1]
      split
      · rename_i hm
        split
        · rfl
        · rename_i hf0
          exact g2 hm _ (neg1_or (by omega) hf hf0)
      · rfl
    · rw [if_neg hf] at h ⊢
      exact h
theorem aAns_val {T : Tn} (hT : TnOk T) {N : Nw} {p r : Int32} (h : cAns T 2 (stm N) (tP T) p r) : r = aVal T N p := by
  have h4 := hT.1
  unfold cAns at h
  unfold aVal
  by_cases hf : p = -1 ∨ (ixN p (tP T)).isSome = true
  · rw [if_pos hf] at h ⊢
    obtain ⟨s, h1, h2⟩ := h
    obtain ⟨g1, g2⟩ := all_hit T h1
    rw [h2]
    unfold chA
    rw [g1]
    split
    · rename_i hm
      split
      · rfl
      · rename_i hf0
        exact g2 hm _ (neg1_or (by omega) hf hf0)
    · rfl
  · rw [if_neg hf] at h ⊢
    exact h
