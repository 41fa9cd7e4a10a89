/-! ===== the answers ===== -/
def orN (n : Nat) : Int32 := if n < 100000 then nI n else -9
def sPiece (T : Tn) (N : Nw) (p w : Int32) : Int32 := match ixN p (tP T), ixN w 6 with
  | some q, some 0 => nI (tA T q)
  | some q, some 1 => nI (tB T q)
  | some q, some 2 => nI (tY T q)
  | some q, some 3 => clO (nO N q)
  | some q, some 4 => nI (if nO N q = 5 then 1 else 0)
  | some q, some _ => nI (nF N q)
  | _, _ => -1
def sFamily (T : Tn) (N : Nw) (f w : Int32) : Int32 := match ixN f (tF T), ixN w 4 with
  | some g, some 0 => nI (tH T g)
  | some g, some 1 => nI (tG T g)
  | some g, some 2 => nI (tN T g)
  | some g, some _ => nI (popc (owm N g))
  | _, _ => -1
def sPave (T : Tn) (N : Nw) (p f : Int32) : Int32 × Nw := match ixN p (tP T), ixN f (tF T) with
  | some q, some g => if nO N q = 5 then (-2, N) else (clO (nO N q), nPav N q g)
  | _, _ => (-1, N)
def sFree (T : Tn) (N : Nw) (p : Int32) : Int32 × Nw := match ixN p (tP T) with
  | some q => if nO N q < 4 then (nI (nO N q), nPav N q 4) else (-2, N)
  | none => (-1, N)
def sStone (T : Tn) (N : Nw) (p z : Int32) : Int32 × Nw := match ixN p (tP T), ixN z 2 with
  | some q, some 0 => (nI (if nO N q = 5 then 1 else 0), if nO N q = 5 then nPav N q 4 else N)
  | some q, some _ => (nI (if nO N q = 5 then 1 else 0), nPav N q 5)
  | _, _ => (-1, N)
def sFlood (T : Tn) (N : Nw) (p n : Int32) : Int32 × Nw := match ixN p (tP T), ixN n 10 with
  | some q, some k => (nI (nF N q), nFlo N q k)
  | _, _ => (-1, N)
def sWay (T : Tn) (N : Nw) (f : Int32) : Int32 := match ixN f (tF T) with
  | some g => orN (yd T g (owm N g))
  | none => -1
def sPlace (T : Tn) (N : Nw) (f i : Int32) : Int32 := match ixN f (tF T) with
  | some g => if i < 0 then -1 else if dst T g (owm N g) (tH T g) < 100000 then (if i.toNatClampNeg ≤ dst T g (owm N g) (tH T g) % 16 then nI (plS T (owm N g) (dst T g (owm N g)) (tH T g) i.toNatClampNeg) else -5) else -9
  | none => -1
def sPole (T : Tn) (N : Nw) (f w : Int32) : Int32 := match ixN f (tF T), ixN w 31 with
  | some g, some k => orN (yd T g (owm N g &&& msk (fun p => decide (k < tY T p)) (tP T)))
  | _, _ => -1
def jC (T : Tn) (N : Nw) : Nat → Nat
  | 0 => 0
  | f + 1 => jC T N f + yd T f (owm N f) * tN T f
def jL (T : Tn) (N : Nw) : Nat → Nat
  | 0 => 0
  | f + 1 => if jL T N f < yd T f (owm N f) then yd T f (owm N f) else jL T N f
def jM (T : Tn) (N : Nw) : Nat → Bool := fun f => decide (100000 ≤ yd T f (owm N f))
def sJudge (T : Tn) (N : Nw) (w : Int32) : Int32 := match ixN w 3 with
  | some 0 => orN (jC T N (tF T))
  | some 1 => orN (jL T N (tF T))
  | some _ => nI (msk (jM T N) (tF T))
  | none => -1
/-- what a search is asked for -/
def chA (s : S3) (f : Int32) : Int32 := if s.1 < 100000 then (if f < 0 then nI s.1 else s.2.1 f.toNatClampNeg) else -9
def cAns (T : Tn) (w st n : Nat) (f r : Int32) : Prop := if f = -1 ∨ (ixN f n).isSome = true then ∃ s, CRes T w st s ∧ r = chA s f else r = -1
def oAns (T : Tn) (N : Nw) (w f r : Int32) : Prop := match ixN w 2 with
  | some k => cAns T k (stm N) (tF T) f r
  | none => r = -1
def yc (T : Tn) (f B : Nat) : Nat := yd T f B * tN T f
def sMatch (T : Tn) (N : Nw) (f g : Int32) : Int32 := match ixN f (tF T), ixN g (tF T) with
  | some a, some b => if a = b then -1 else if yc T a (owm N a ||| owm N b) + yc T b (owm N a ||| owm N b) < 100000 then nI (yc T a (owm N a ||| owm N b) + yc T b (owm N a ||| owm N b)) - nI (yc T a (owm N a)) - nI (yc T b (owm N b)) else -9
  | _, _ => -1
def alS (T : Tn) (m : Nat) : Nat → Option Nat
  | 0 => some m
  | f + 1 => match alS T m f with
    | none => none
    | some k => if 100000 ≤ yd T f 0 then none else some (k ||| msk (fun p => decide (100000 ≤ yd T f (2 ^ p))) (tP T))
def sAlways (T : Tn) (N : Nw) : Int32 := oNone (alS T (stm N) (tF T))
def sShut (T : Tn) (N : Nw) (f w : Int32) : Int64 := match ixN f (tF T), ixN w 2 with
  | some g, some 0 => lN (shF T N g).1
  | some g, some _ => lN (shF T N g).2
  | _, _ => -1
def nSee (N : Nw) (f z : Nat) : Nw := (nO N, nF N, nS N + 1, upN (nW N) f (nW N f ||| z))
def sSaw (T : Tn) (N : Nw) (f z : Int32) : Int32 × Nw := match ixN f (tF T), ixN z (2 ^ tP T) with
  | some g, some k => if nS N < 10 then (nI (nS N + 1), nSee N g k) else (-3, N)
  | _, _ => (-1, N)
def nFor (N : Nw) : Nw := (nO N, nF N, 0, fun _ => 0)
def sWho (T : Tn) (N : Nw) (p : Int32) : Int32 := match ixN p (tP T) with
  | some q => if nO N q = 5 then -2 else unqI (unq (fun f => decide (0 < fitN T N (some (q, f)))) (tF T))
  | none => -1
def ydZ (T : Tn) (f B : Nat) : Nat := if yd T f B < 100000 then yd T f B else 0
def sMark (T : Tn) (N : Nw) (tr : Int64) (k f : Int32) : Int32 × Int64 := match ixN f (tF T), ixN k 6 with
  | some g, some 0 => (nI (tN T g), tr + lN 1)
  | some g, some 1 => (nI (tN T g) + nI (popc (owm N g)), tr + lN 11)
  | some g, some 2 => (nI (tN T g) + nI (ydZ T g (owm N g)), tr + lN 101)
  | some g, some 3 => ((nI (tN T g) + nI (popc (owm N g))) * nI 2, tr + lN 1011)
  | some g, some 4 => (nI (tN T g) + nI (ydZ T g (owm N g)) - nI (sumY T (owm N g) (tP T)), tr + lN 10101)
  | some g, some _ => (nI (tN T g) + nI (tH T g), tr + lN 100001)
  | _, _ => (-1000000, tr)
def ownd (N : Nw) : Nat := cnt (fun p => decide (nO N p < 4)) 8
def upI (im : Nat → Option Nw) (k : Nat) (N : Nw) : Nat → Option Nw := fun i => if i = k then some N else im i
def sKeep (N : Nw) (im : Nat → Option Nw) (i : Int32) : Int32 × (Nat → Option Nw) := match ixN i 2 with
  | some k => (nI (ownd N), upI im k N)
  | none => (-1, im)
def sBack (N : Nw) (im : Nat → Option Nw) (i : Int32) : Int32 × Nw := match ixN i 2 with
  | some k => match im k with
    | some N' => (nI (ownd N'), N')
    | none => (-2, N)
  | none => (-1, N)
def sCount (L : Nat) (T : Tn) (N : Nw) (w : Int32) : Int32 := match ixN w 6 with
  | some 0 => nI (tP T)
  | some 1 => nI (tF T)
  | some 2 => nI (ownd N)
  | some 3 => nI (popc (stm N))
  | some 4 => nI (nS N)
  | some _ => nI L
  | none => -1
def sType (L : Nat) (x : Nat → Nat) (v : Int64) (n : Int32) : Int32 × Nat × (Nat → Nat) := match ixN n 9 with
  | some 0 => (-1, L, x)
  | some k => if L + k ≤ 300 then (nI (L + k), L + k, txU L x v k) else (-3, L, x)
  | none => (-1, L, x)
