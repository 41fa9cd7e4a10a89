/-! ===== the items of the text (pure) ===== -/
abbrev PR : Type := Nat ⊕ (Tn × Nw × Nat)
def pNum (L : Nat) (x : Nat → Nat) (a m : Nat) (k : Nat → Nat → PR) : PR := if tkK L x a = 1 ∧ tkV L x a < m then k (tkV L x a) (tkE L x a) else .inl (tkS L x a)
def pStp (L : Nat) (x : Nat → Nat) (a : Nat) (k : Nat → PR) : PR := if tkK L x a = 2 then k (tkE L x a) else .inl (tkS L x a)
def nPav (N : Nw) (p f : Nat) : Nw := (upN (nO N) p f, nF N, nS N, nW N)
def nFlo (N : Nw) (p n : Nat) : Nw := (nO N, upN (nF N) p n, nS N, nW N)
def pPie (L : Nat) (x : Nat → Nat) (T : Tn) (N : Nw) (s0 a : Nat) : PR := if 8 ≤ tP T then .inl s0 else pNum L x a 6 fun A e1 => pNum L x e1 6 fun B e2 => if B = A then .inl (tkS L x e1) else pNum L x e2 31 fun Y e3 => if Y < 1 then .inl (tkS L x e2) else pStp L x e3 fun e4 => .inr (tAddP T A B Y, N, e4)
def pFam (L : Nat) (x : Nat → Nat) (T : Tn) (N : Nw) (s0 a : Nat) : PR := if 4 ≤ tF T then .inl s0 else pNum L x a 6 fun A e1 => pNum L x e1 6 fun B e2 => pNum L x e2 10 fun Y e3 => if Y < 1 then .inl (tkS L x e2) else pStp L x e3 fun e4 => .inr (tAddF T A B Y, N, e4)
def pPav (L : Nat) (x : Nat → Nat) (T : Tn) (N : Nw) (a : Nat) : PR := pNum L x a (tP T) fun p e1 => pNum L x e1 (tF T) fun f e2 => pStp L x e2 fun e3 => .inr (T, nPav N p f, e3)
def pSto (L : Nat) (x : Nat → Nat) (T : Tn) (N : Nw) (a : Nat) : PR := pNum L x a (tP T) fun p e1 => pStp L x e1 fun e2 => .inr (T, nPav N p 5, e2)
def pFlo (L : Nat) (x : Nat → Nat) (T : Tn) (N : Nw) (a : Nat) : PR := pNum L x a (tP T) fun p e1 => pNum L x e1 10 fun n e2 => pStp L x e2 fun e3 => .inr (T, nFlo N p n, e3)
def pItm (L : Nat) (x : Nat → Nat) (T : Tn) (N : Nw) (a : Nat) : PR :=
  if tkK L x a = 3 then pPie L x T N (tkS L x a) (tkE L x a) else if tkK L x a = 4 then pFam L x T N (tkS L x a) (tkE L x a) else if tkK L x a = 5 then pPav L x T N (tkE L x a) else if tkK L x a = 6 then pSto L x T N (tkE L x a) else if tkK L x a = 7 then pFlo L x T N (tkE L x a) else .inl (tkS L x a)
def pAll (L : Nat) (x : Nat → Nat) : Nat → Nat → Tn → Nw → Nat → Nat ⊕ (Nat × Tn × Nw)
  | 0, _, _, _, _ => .inl 0
  | n + 1, i, T, N, a => if tkK L x a = 0 then .inr (i, T, N) else match pItm L x T N a with
    | .inl s => .inl s
    | .inr (T', N', a') => pAll L x n (i + 1) T' N' a'
def T00 : Tn := (0, fun _ => 0, fun _ => 0, fun _ => 0, 0, fun _ => 0, fun _ => 0, fun _ => 0)
def N00 : Nw := (fun _ => 4, fun _ => 0, 0, fun _ => 0)
theorem T00_ok : TnOk T00 := ⟨by decide, by decide, fun p h => absurd h (Nat.not_lt_zero p), fun p h => absurd h (Nat.not_lt_zero p)⟩
theorem N00_ok (T : Tn) : NwOk T N00 := ⟨fun p => ⟨by show 4 ≤ 5; omega, fun _ => rfl, fun h => absurd h (by show ¬ 4 < 4; omega)⟩, fun p => by show 0 ≤ 9; omega, by show 0 ≤ 10; omega, fun f => by show 0 < _; exact Nat.two_pow_pos _⟩
theorem tk_adv {L : Nat} {x : Nat → Nat} {a : Nat} (h : a ≤ L) (hk : tkK L x a ≠ 0) : a < tkE L x a ∧ tkE L x a ≤ L := by
  have hb := tk_bd (x := x) h
  have : tkS L x a < L := by
    rcases Nat.lt_or_ge (tkS L x a) L with z | z
    · exact z
    · exfalso; apply hk; unfold tkK kAt; rw [if_neg (by omega)]
  omega
theorem tkV_le (L : Nat) (x : Nat → Nat) (a : Nat) : tkV L x a ≤ 100 := nvN_le _ _ _
/-- a good item: what it did, and that it went on -/
def ItOk (L : Nat) (a : Nat) (r : PR) : Prop := ∀ T' N' a', r = .inr (T', N', a') → a + 1 ≤ a' ∧ a' ≤ L ∧ TnOk T' ∧ NwOk T' N'
theorem pNum_ok {L : Nat} {x : Nat → Nat} {a m : Nat} {k : Nat → Nat → PR} (ha : a ≤ L) (h : ∀ v e, v < m → a < e → e ≤ L → ItOk L a (k v e)) : ItOk L a (pNum L x a m k) := by
  unfold pNum
  split
  · rename_i h1
    have := tk_adv (x := x) ha (by omega)
    exact h _ _ h1.2 this.1 this.2
  · intro T' N' a' e; cases e
theorem pStp_ok {L : Nat} {x : Nat → Nat} {a : Nat} {T : Tn} {N : Nw} (ha : a ≤ L) (h1 : TnOk T) (h2 : NwOk T N) : ItOk L a (pStp L x a fun e => .inr (T, N, e)) := by
  unfold pStp
  split
  · rename_i hk
    have := tk_adv (x := x) ha (by omega)
    intro T' N' a' e
    cases e
    exact ⟨this.1, this.2, h1, h2⟩
  · intro T' N' a' e; cases e
theorem ItOk.inl {L a s : Nat} : ItOk L a (.inl s) := fun _ _ _ e => by cases e
theorem ItOk.mono {L a b : Nat} {r : PR} (h : ItOk L b r) (hab : a ≤ b) : ItOk L a r := fun T' N' a' e => by
  have := h T' N' a' e
  exact ⟨by omega, this.2⟩
theorem addP_ok {T : Tn} {N : Nw} {A B Y : Nat} (hT : TnOk T) (hN : NwOk T N) (h8 : tP T < 8) (hA : A < 6) (hB : B < 6) (hne : ¬ B = A) (hY : Y < 31) (hY1 : ¬ Y < 1) : TnOk (tAddP T A B Y) ∧ NwOk (tAddP T A B Y) N := by
  have eP : tP (tAddP T A B Y) = tP T + 1 := rfl
  have eF : tF (tAddP T A B Y) = tF T := rfl
  refine ⟨⟨by rw [eP]; omega, hT.2.1, fun p hp => ?_, hT.2.2.2⟩, fun p => ⟨(hN.1 p).1, fun hp => (hN.1 p).2.1 (by rw [eP] at hp; omega), (hN.1 p).2.2⟩, hN.2.1, hN.2.2.1, fun f => ?_⟩
  · rw [eP] at hp
    show upN (tA T) (tP T) A p < 6 ∧ upN (tB T) (tP T) B p < 6 ∧ upN (tA T) (tP T) A p ≠ upN (tB T) (tP T) B p ∧ 1 ≤ upN (tY T) (tP T) Y p ∧ upN (tY T) (tP T) Y p ≤ 30
    by_cases e : p = tP T
    · subst e; rw [upN_s, upN_s, upN_s]; omega
    · rw [upN_o e, upN_o e, upN_o e]; exact hT.2.2.1 p (by omega)
  · have := hN.2.2.2 f
    rw [eP, Nat.pow_succ]; omega
theorem addF_ok {T : Tn} {N : Nw} {A B Y : Nat} (hT : TnOk T) (hN : NwOk T N) (h4 : tF T < 4) (hA : A < 6) (hB : B < 6) (hY : Y < 10) (hY1 : ¬ Y < 1) : TnOk (tAddF T A B Y) ∧ NwOk (tAddF T A B Y) N := by
  have eF : tF (tAddF T A B Y) = tF T + 1 := rfl
  refine ⟨⟨hT.1, by rw [eF]; omega, hT.2.2.1, fun p hp => ?_⟩, fun p => ⟨(hN.1 p).1, (hN.1 p).2.1, fun h => by have := (hN.1 p).2.2 h; rw [eF]; omega⟩, hN.2.1, hN.2.2.1, hN.2.2.2⟩
  rw [eF] at hp
  show upN (tH T) (tF T) A p < 6 ∧ upN (tG T) (tF T) B p < 6 ∧ 1 ≤ upN (tN T) (tF T) Y p ∧ upN (tN T) (tF T) Y p ≤ 9
  by_cases e : p = tF T
  · subst e; rw [upN_s, upN_s, upN_s]; omega
  · rw [upN_o e, upN_o e, upN_o e]; exact hT.2.2.2 p (by omega)
theorem pav_ok {T : Tn} {N : Nw} {p f : Nat} (hN : NwOk T N) (hp : p < tP T) (hf : f < tF T ∨ f = 5 ∨ f = 4) (hF : tF T ≤ 4) : NwOk T (nPav N p f) := by
  refine ⟨fun q => ?_, hN.2.1, hN.2.2.1, hN.2.2.2⟩
  show upN (nO N) p f q ≤ 5 ∧ (tP T ≤ q → upN (nO N) p f q = 4) ∧ (upN (nO N) p f q < 4 → upN (nO N) p f q < tF T)
  by_cases e : q = p
  · subst e; rw [upN_s]; omega
  · rw [upN_o e]; exact hN.1 q
theorem flo_ok {T : Tn} {N : Nw} {p n : Nat} (hN : NwOk T N) (hn : n < 10) : NwOk T (nFlo N p n) := by
  refine ⟨hN.1, fun q => ?_, hN.2.2.1, hN.2.2.2⟩
  show upN (nF N) p n q ≤ 9
  by_cases e : q = p
  · subst e; rw [upN_s]; omega
  · rw [upN_o e]; exact hN.2.1 q
theorem pItm_ok {L : Nat} {x : Nat → Nat} {T : Tn} {N : Nw} {a : Nat} (ha : a ≤ L) (hT : TnOk T) (hN : NwOk T N) : ∀ T' N' a', pItm L x T N a = .inr (T', N', a') → a + 2 ≤ a' ∧ a' ≤ L ∧ TnOk T' ∧ NwOk T' N' := by
  have key : tkK L x a ≠ 0 → ItOk L (tkE L x a) (pItm L x T N a) := by
    intro hk
    have hadv := tk_adv (x := x) ha hk
    unfold pItm
    split
    · unfold pPie
      split
      · exact ItOk.inl
      · refine pNum_ok hadv.2 (fun A e1 hA h1 h1L => ItOk.mono (pNum_ok h1L (fun B e2 hB h2 h2L => ?_)) (by omega))
        split
        · exact ItOk.inl
        · refine ItOk.mono (pNum_ok h2L (fun Y e3 hY h3 h3L => ?_)) (by omega)
          split
          · exact ItOk.inl
          · have := addP_ok (T := T) (N := N) hT hN (by omega) hA hB (by assumption) hY (by assumption)
            exact ItOk.mono (pStp_ok h3L this.1 this.2) (by omega)
    · split
      · unfold pFam
        split
        · exact ItOk.inl
        · refine pNum_ok hadv.2 (fun A e1 hA h1 h1L => ItOk.mono (pNum_ok h1L (fun B e2 hB h2 h2L => ItOk.mono (pNum_ok h2L (fun Y e3 hY h3 h3L => ?_)) (by omega))) (by omega))
          split
          · exact ItOk.inl
          · have := addF_ok (T := T) (N := N) hT hN (by omega) hA hB hY (by assumption)
            exact ItOk.mono (pStp_ok h3L this.1 this.2) (by omega)
      · split
        · unfold pPav
          refine pNum_ok hadv.2 (fun p e1 hp h1 h1L => ItOk.mono (pNum_ok h1L (fun f e2 hf h2 h2L => ItOk.mono (pStp_ok h2L hT (pav_ok hN hp (Or.inl hf) hT.2.1)) (by omega))) (by omega))
        · split
          · unfold pSto
            exact pNum_ok hadv.2 (fun p e1 hp h1 h1L => ItOk.mono (pStp_ok h1L hT (pav_ok hN hp (Or.inr (Or.inl rfl)) hT.2.1)) (by omega))
          · split
            · unfold pFlo
              exact pNum_ok hadv.2 (fun p e1 hp h1 h1L => ItOk.mono (pNum_ok h1L (fun n e2 hn h2 h2L => ItOk.mono (pStp_ok h2L hT (flo_ok hN hn)) (by omega))) (by omega))
            · exact ItOk.inl
  intro T' N' a' e
  have hk : tkK L x a ≠ 0 := by
    intro z
    unfold pItm at e
    rw [z] at e
    simp at e
  have hadv := tk_adv (x := x) ha hk
  have := key hk T' N' a' e
  exact ⟨by omega, this.2⟩
/-- bits: one put in, one taken out -/
theorem or_set {m p : Nat} (hm : m < 256) (hp : p < 8) : (m / 2 ^ p % 2 = 0 → m ||| 2 ^ p = m + 2 ^ p) ∧ (m / 2 ^ p % 2 = 1 → m ||| 2 ^ p = m) := by
  have : ∀ m, m < 256 → ∀ p, p < 8 → (m / 2 ^ p % 2 = 0 → m ||| 2 ^ p = m + 2 ^ p) ∧ (m / 2 ^ p % 2 = 1 → m ||| 2 ^ p = m) := by decide +kernel
  exact this m hm p hp
theorem msk_put (g h : Nat → Bool) (p : Nat) (hp : p < 8) (hx : ∀ x, x ≠ p → h x = g x) (h1 : h p = true) : msk h 8 = msk g 8 ||| 2 ^ p := by
  have hb := msk_bit g 8 p
  have ho := or_set (msk_lt g 8) hp
  by_cases hg : g p = true
  · rw [if_pos ⟨hp, hg⟩] at hb
    rw [ho.2 hb]
    exact msk_congr (fun x _ => by by_cases e : x = p
                                   · subst e; rw [h1, hg]
                                   · exact hx x e)
  · rw [if_neg (fun z => hg z.2)] at hb
    rw [ho.1 hb, msk_add h g p 8 (fun x _ e => hx x e) h1 (by simpa using hg), if_pos hp]
theorem msk_out (g h : Nat → Bool) (p : Nat) (hp : p < 8) (hx : ∀ x, x ≠ p → h x = g x) (h1 : h p = false) : msk h 8 = msk g 8 - msk g 8 / 2 ^ p % 2 * 2 ^ p := by
  have hb := msk_bit g 8 p
  by_cases hg : g p = true
  · rw [if_pos ⟨hp, hg⟩] at hb
    rw [hb, msk_add g h p 8 (fun x _ e => (hx x e).symm) hg h1, if_pos hp]
    omega
  · rw [if_neg (fun z => hg z.2)] at hb
    rw [hb, Nat.zero_mul, Nat.sub_zero]
    exact msk_congr (fun x _ => by by_cases e : x = p
                                   · subst e; rw [h1]; simpa using hg
                                   · exact hx x e)
theorem stm_sto (N : Nw) {p : Nat} (hp : p < 8) : stm (nPav N p 5) = stm N ||| 2 ^ p := by
  unfold stm
  refine msk_put _ _ p hp (fun x e => ?_) ?_
  · show decide (upN (nO N) p 5 x = 5) = _
    rw [upN_o e]
  · show decide (upN (nO N) p 5 p = 5) = true
    rw [upN_s]; rfl
theorem stm_pav (N : Nw) {p f : Nat} (hp : p < 8) (hf : f ≠ 5) : stm (nPav N p f) = stm N - stm N / 2 ^ p % 2 * 2 ^ p := by
  unfold stm
  refine msk_out _ _ p hp (fun x e => ?_) ?_
  · show decide (upN (nO N) p f x = 5) = _
    rw [upN_o e]
  · show decide (upN (nO N) p f p = 5) = false
    rw [upN_s]; simpa using hf
/-- a Now with one owner changed, in the cells -/
theorem NwR.sto {S : St} {b p : Nat} {N : Nw} (h : NwR S b N) (hp : p < 8) : NwR (up (up S (b + 1) p (-9)) b 2 (nI (stm N ||| 2 ^ p))) b (nPav N p 5) := by
  obtain ⟨h1, h2, h3, h4, h5⟩ := h
  refine ⟨fun q hq => ?_, fun q hq => ?_, ?_, ?_, fun f hf => ?_⟩
  · rw [up_oc (by omega)]
    show _ = clO (upN (nO N) p 5 q)
    by_cases e : q = p
    · subst e; rw [up_s, upN_s]; rfl
    · rw [up_of e, upN_o e]; exact h1 q hq
  · rw [up_oc (by omega), up_oc (by omega)]; exact h2 q hq
  · rw [up_s, stm_sto N hp]
  · rw [up_of (by omega), up_oc (by omega)]; exact h4
  · rw [up_oc (by omega), up_oc (by omega)]; exact h5 f hf
theorem NwR.pav {S : St} {b p f : Nat} {N : Nw} (h : NwR S b N) (hp : p < 8) (hf : f < 4) : NwR (up (up S b 2 (nI (stm N - stm N / 2 ^ p % 2 * 2 ^ p))) (b + 1) p (nI f)) b (nPav N p f) := by
  obtain ⟨h1, h2, h3, h4, h5⟩ := h
  refine ⟨fun q hq => ?_, fun q hq => ?_, ?_, ?_, fun f hf => ?_⟩
  · show _ = clO (upN (nO N) p f q)
    by_cases e : q = p
    · subst e; rw [up_s, upN_s, clO_lt hf]
    · rw [up_of e, up_oc (by omega), upN_o e]; exact h1 q hq
  · rw [up_oc (by omega), up_oc (by omega)]; exact h2 q hq
  · rw [up_oc (by omega), up_s, stm_pav N hp (by omega)]
  · rw [up_oc (by omega), up_of (by omega)]; exact h4
  · rw [up_oc (by omega), up_oc (by omega)]; exact h5 f hf
theorem NwR.flo {S : St} {b p n : Nat} {N : Nw} (h : NwR S b N) : NwR (up S (b + 2) p (nI n)) b (nFlo N p n) := by
  obtain ⟨h1, h2, h3, h4, h5⟩ := h
  refine ⟨fun q hq => ?_, fun q hq => ?_, ?_, ?_, fun f hf => ?_⟩
  · rw [up_oc (by omega)]; exact h1 q hq
  · show _ = nI (upN (nF N) p n q)
    by_cases e : q = p
    · subst e; rw [up_s, upN_s]
    · rw [up_of e, upN_o e]; exact h2 q hq
  · rw [up_oc (by omega)]; exact h3
  · rw [up_oc (by omega)]; exact h4
  · rw [up_oc (by omega)]; exact h5 f hf
def drL : List Nat := [3, 11, 12, 13, 14, 15, 16, 17, 22, 23, 24, 25]
def RdPost (S S' : St) (r : Int32) (res : PR) : Prop := Fr S S' drL ∧ (∀ s, res = .inl s → r = nI 0 ∧ S'.1 3 4 = nI s) ∧ ∀ T' N' a', res = .inr (T', N', a') → r = nI 1 ∧ TwR S' 11 T' ∧ NwR S' 22 N' ∧ S'.1 3 3 = nI a'
theorem TwR.go11 {S S' : St} {T : Tn} (h : TwR S 11 T) (hF : Fr S S' [3]) : TwR S' 11 T := h.go (hF.c 11) (hF.c 12) (hF.c 13) (hF.c 14) (hF.c 15) (hF.c 16) (hF.c 17)
theorem NwR.go22 {S S' : St} {N : Nw} (h : NwR S 22 N) (hF : Fr S S' [3]) : NwR S' 22 N := h.go (hF.c 22) (hF.c 23) (hF.c 24) (hF.c 25)
theorem RdPost.bad {S S' : St} {s : Nat} {res : PR} (hF : Fr S S' drL) (h : S'.1 3 4 = nI s) (e : res = .inl s) : RdPost S S' (nI 0) res := by
  subst e
  exact ⟨hF, fun s' e' => by cases e'; exact ⟨rfl, h⟩, fun _ _ _ e' => by cases e'⟩
theorem RdPost.good {S S' : St} {T' : Tn} {N' : Nw} {a' : Nat} {res : PR} (hF : Fr S S' drL) (h1 : TwR S' 11 T') (h2 : NwR S' 22 N') (h3 : S'.1 3 3 = nI a') (e : res = .inr (T', N', a')) : RdPost S S' (nI 1) res := by
  subst e
  exact ⟨hF, fun s' e' => (by cases e'), fun _ _ _ e' => (by cases e'; exact ⟨rfl, h1, h2, h3⟩)⟩
theorem mo_nI {m : Nat} (hm : m < 1000) : ∀ v, v ≤ 100 → (nI m < nI v ↔ m + 1 ≤ v) := fun v hv => nI_ltI (by omega) (by omega)
theorem mo_pred {m : Nat} (hm : m ≤ 8) : ∀ v, v ≤ 100 → (nI m - nI 1 < nI v ↔ m ≤ v) := by
  have : ∀ m, m ≤ 8 → ∀ v, v ≤ 100 → (nI m - nI 1 < nI v ↔ m ≤ v) := by decide +kernel
  exact this m hm
theorem pNum_s {L : Nat} {x : Nat → Nat} {a m s : Nat} {k : Nat → Nat → PR} (ha : a ≤ L) (hk : ∀ v e, e ≤ L → k v e = .inl s → s ≤ L) (h : pNum L x a m k = .inl s) : s ≤ L := by
  have hb := tk_bd (x := x) ha
  unfold pNum at h
  split at h
  · exact hk _ _ hb.2.2.2.1 h
  · cases h; exact hb.2.1
theorem pStp_s {L : Nat} {x : Nat → Nat} {a s : Nat} {T : Tn} {N : Nw} (ha : a ≤ L) (h : pStp L x a (fun e => .inr (T, N, e)) = .inl s) : s ≤ L := by
  have hb := tk_bd (x := x) ha
  unfold pStp at h
  split at h
  · cases h
  · cases h; exact hb.2.1
/-- a fault lies in the text -/
theorem pItm_s {L : Nat} {x : Nat → Nat} {T : Tn} {N : Nw} {a s : Nat} (ha : a ≤ L) (h : pItm L x T N a = .inl s) (hL : L ≤ 300) : s ≤ 300 := by
  have hb := tk_bd (x := x) ha
  suffices s ≤ L by omega
  unfold pItm at h
  split at h
  · unfold pPie at h
    split at h
    · cases h; exact hb.2.1
    · refine pNum_s hb.2.2.2.1 (fun A e1 h1 z => pNum_s h1 (fun B e2 h2 z => ?_) z) h
      split at z
      · cases z; exact (tk_bd (x := x) h1).2.1
      · refine pNum_s h2 (fun Y e3 h3 z => ?_) z
        split at z
        · cases z; exact (tk_bd (x := x) h2).2.1
        · exact pStp_s h3 z
  · split at h
    · unfold pFam at h
      split at h
      · cases h; exact hb.2.1
      · refine pNum_s hb.2.2.2.1 (fun A e1 h1 z => pNum_s h1 (fun B e2 h2 z => pNum_s h2 (fun Y e3 h3 z => ?_) z) z) h
        split at z
        · cases z; exact (tk_bd (x := x) h2).2.1
        · exact pStp_s h3 z
    · split at h
      · unfold pPav at h
        exact pNum_s hb.2.2.2.1 (fun A e1 h1 z => pNum_s h1 (fun B e2 h2 z => pStp_s h2 z) z) h
      · split at h
        · unfold pSto at h
          exact pNum_s hb.2.2.2.1 (fun A e1 h1 z => pStp_s h1 z) h
        · split at h
          · unfold pFlo at h
            exact pNum_s hb.2.2.2.1 (fun A e1 h1 z => pNum_s h1 (fun B e2 h2 z => pStp_s h2 z) z) h
          · cases h; exact hb.2.1
theorem pAll_end {L n i a : Nat} {x : Nat → Nat} {T : Tn} {N : Nw} (h : tkK L x a = 0) : pAll L x (n + 1) i T N a = .inr (i, T, N) := by
  simp only [pAll]; rw [if_pos h]
theorem pAll_bad {L n i a s : Nat} {x : Nat → Nat} {T : Tn} {N : Nw} (h : tkK L x a ≠ 0) (hp : pItm L x T N a = .inl s) : pAll L x (n + 1) i T N a = .inl s := by
  simp only [pAll]; rw [if_neg h, hp]
theorem pAll_go {L n i a a' : Nat} {x : Nat → Nat} {T T' : Tn} {N N' : Nw} (h : tkK L x a ≠ 0) (hp : pItm L x T N a = .inr (T', N', a')) : pAll L x (n + 1) i T N a = pAll L x n (i + 1) T' N' a' := by
  simp only [pAll]; rw [if_neg h, hp]
