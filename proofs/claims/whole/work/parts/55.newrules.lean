/-! ===== constructors: worlds that grow ===== -/
abbrev KN : Type := Nat → LV → List Value → va_W → Nat → Nat → Prop
def rmN (d mc ms : Nat) : Room := { frames := d, cells := mc, slots := ms, locals := 80 * d }
def Ex9 (U : State) : Prop := va_Nw (.methodLinkNest RX9 9 yX7_init "PavedBan") U ∧ va_Nw (.methodLinkNest RX9 18 yX5_init "PavedBan") U ∧ va_AO "PavedBan$Now" U
theorem Ex9.warm {s U : State} (hW : s.WarmedH U.vm) (h : Ex9 s) : Ex9 U := ⟨va_Nw.warmM hW h.1, va_Nw.warmM hW h.2.1, va_AO.moved hW.alike h.2.2⟩
theorem Ex9.same {U V : State} (hv : V.vm = U.vm) (h : Ex9 U) : Ex9 V := ⟨va_Nw.same rfl hv.symm h.1, va_Nw.same rfl hv.symm h.2.1, va_AO.moved (by rw [hv]; exact Vm.Alike.refl U.vm) h.2.2⟩
def PcN (θ : Site) (w0 : va_W) (sz : Nat) (av : List Value) : Array Value → State → Prop := va_Pc av (fun U => U.heap.size = sz ∧ va_P (sD θ) vwCl w0 U.heap ∧ va_K (sD θ) vwCl (tyC θ) U ∧ va_D (fun _ => True) w0 ∧ Env9 θ (va_A w0 sz) U U.heap ∧ Ex9 U)
def BN (θ : Site) (w0 : va_W) (sz : Nat) : va_W → State → Prop := fun w t => va_P (sD θ) vwCl w t.heap ∧ va_D (va_A w0 sz) w
/-- a constructor's contract: of the world w0 it makes a world w with P -/
def Ctn (y : MethodName) (bs : ByteArray) (ml d mc ms : Nat) (θ : Site) (w0 : va_W) (av : List Value) (P : va_W → Prop) : Prop :=
  ∀ (l : Launch) (sz : Nat), Met l y (.code y bs ml none :: lwT) (rmN d mc ms) (PcN θ w0 sz av) (va_Qv P (BN θ w0 sz) (va_A w0 sz)) mc ms (va_A w0 sz)
theorem PcN_blind {θ : Site} {w0 : va_W} {sz : Nat} {av : List Value} : FrameBlind (PcN θ w0 sz av) := by
  intro a U g mk h
  obtain ⟨h0, h1, h2, h3, h4, h5, h6⟩ := h
  exact ⟨h0, h1, h2, va_K.moved (u := U) (U := U.calling g mk a) (Vm.Alike.refl U.vm) h3, h4, h5.same rfl rfl, h6.same rfl⟩
def OkN (K : KN) (cc : ByteArray) (own : String) (nL d mc ms : Nat) (θ : Site) (Fv : va_W → Prop) : Prop :=
  ∃ (p : Program) (l : Launch) (e : Env) (s : State) (m : MethodId) (args : Array Value) (below : List Frame) (meth : Method) (c : Code) (Q : State → Prop) (A : Nat → Prop),
    p.tables.exec = Jvm.exec ∧ c.code = cc ∧ c.maxLocals = nL ∧ s.vm.findClass own = some m.cls ∧ (∀ w ∈ lwT, w.before args s = true) ∧ va_K (sD θ) vwCl (tyC θ) s ∧ meth.name = "<init>" ∧ (∀ q, s.heap.size ≤ q → A q) ∧ Env9 θ A s s.heap ∧ Ex9 s ∧
    (∀ (pc : Nat) (ls : Array Slot) (ws : va_W) (H : Heap) (locs : List Loc), decode cc pc = .ok (.return_, 1) → Fv ws → va_P (sD θ) vwCl ws H → va_D A ws → va_S A s.heap H locs → W p l e (rmN d mc ms) s m args below meth c H locs mc ms Q (F0 m pc ls [])) ∧
    K = fun pc lv st ws cells slots => ∀ (H : Heap) (locs : List Loc) (ls : Array Slot), lv.length = nL → lv_has ls nL (lvA 0 lv) → va_P (sD θ) vwCl ws H → va_D A ws → va_S A s.heap H locs → W p l e (rmN d mc ms) s m args below meth c H locs cells slots Q (F0 m pc ls st)
theorem Ctn.mk {y : MethodName} {bs : ByteArray} {ml d mc ms : Nat} {θ : Site} {w0 : va_W} {av : List Value} {P : va_W → Prop} {own : String} (pad : Nat) (lv : LV) (body : ∀ K, OkN K bs own ml d mc ms θ P → K 0 lv [] w0 0 0) (hyn : y.name = "<init>" := by rfl) (hy : plainName y.cls = true := by decide) (hlv : enL av ++ List.replicate pad none = lv := by rfl) (hl : lv.length = ml := by rfl) (hn : (lg_sl av).length ≤ ml := by (first | exact Nat.le_of_ble_eq_true rfl | decide)) (ho : y.cls = own := by rfl) : Ctn y bs ml d mc ms θ w0 av P := by
  subst ho
  intro l sz
  refine Met.ofW (cc := bs) (maxL := ml) (ret := none) hy rfl ?_
  intro p e s m args below meth c s₁ B hml hv
  obtain ⟨hargs, hsz, hP, hK, hD0, hE, hX⟩ := hv
  have hx := B.exec
  have hb := B.bytes
  have hr := B.returns
  have hts0 := atoms_spec (ws := .code y bs ml none :: lwT) B.pre
  have hts : ∀ w ∈ lwT, w.before args s = true := fun w hw => hts0 w (List.mem_cons_of_mem _ hw)
  have hown : s.vm.findClass y.cls = some m.cls := findClass_of_methodNamed B.named
  have hlocks := B.notSynchronized
  have hin : meth.name = "<init>" := ((name_of_methodNamed B.named B.method).1).trans hyn
  subst hsz
  have hD := hD0.self (sz := s.heap.size)
  have hgo := body (fun pc lv st ws cells slots => ∀ (H : Heap) (locs : List Loc) (ls : Array Slot), lv.length = ml → lv_has ls ml (lvA 0 lv) → va_P (sD θ) vwCl ws H → va_D (va_A w0 s.heap.size) ws → va_S (va_A w0 s.heap.size) s.heap H locs → W p l e (rmN d mc ms) s m args below meth c H locs cells slots (MQ below (va_Qv P (BN θ w0 s.heap.size) (va_A w0 s.heap.size)) args s mc ms (va_A w0 s.heap.size)) (F0 m pc ls st))
    ⟨p, l, e, s, m, args, below, meth, c, _, va_A w0 s.heap.size, hx, hb, hml, hown, hts, hK, hin, fun q h => Or.inr h, hE, hX, fun pc ls ws H locs hd hf hP hD hS => W.vret hx hb hr (fun t ht hW => ⟨⟨ws, rfl, hf, by rw [ht]; exact hP, hD⟩, hS.F ht⟩) hS.2.2 hd, rfl⟩
  rw [hargs, lg_entry_eq]
  rw [hargs] at hgo
  exact hgo s.heap [] _ hl (enL_has hn hlv) hP hD va_S.rf
/-! worlds as sets -/
theorem P_app {D : va_G} {a b : va_W} {H : Heap} : va_P D vwCl (a ++ b) H ↔ va_P D vwCl a H ∧ va_P D vwCl b H := by
  constructor
  · intro h
    refine ⟨fun k q hk => h k q ?_, fun k q hk => h (a.length + k) q ?_⟩
    · rw [List.getElem?_append_left (List.getElem?_eq_some_iff.mp hk).1]; exact hk
    · rw [List.getElem?_append_right (by omega), show a.length + k - a.length = k by omega]; exact hk
  · rintro ⟨h1, h2⟩; exact h1.app h2
theorem D_left {A : Nat → Prop} {a b : va_W} (h : va_D A (a ++ b)) : va_D A a := by
  have e : ∀ (k : Nat) (q : Nat × va_E), a[k]? = some q → (a ++ b)[k]? = some q := fun k q hk => by rw [List.getElem?_append_left (List.getElem?_eq_some_iff.mp hk).1]; exact hk
  exact ⟨fun i j x y hi hj => h.1 i j x y (e i x hi) (e j y hj), fun k q hk => h.2 k q (e k q hk)⟩
theorem D_right {A : Nat → Prop} {a b : va_W} (h : va_D A (a ++ b)) : va_D A b := by
  have e : ∀ (k : Nat) (q : Nat × va_E), b[k]? = some q → (a ++ b)[a.length + k]? = some q := fun k q hk => by rw [List.getElem?_append_right (by omega), show a.length + k - a.length = k by omega]; exact hk
  exact ⟨fun i j x y hi hj hxy => by have := h.1 _ _ x y (e i x hi) (e j y hj) hxy; omega, fun k q hk => h.2 _ q (e k q hk)⟩
theorem D_cross {A : Nat → Prop} {a b : va_W} (h : va_D A (a ++ b)) {i j : Nat} {x y : Nat × va_E} (hi : a[i]? = some x) (hj : b[j]? = some y) : x.1 ≠ y.1 := by
  intro hxy
  have hil := (List.getElem?_eq_some_iff.mp hi).1
  have := h.1 i (a.length + j) x y (by rw [List.getElem?_append_left hil]; exact hi) (by rw [List.getElem?_append_right (by omega), show a.length + j - a.length = j by omega]; exact hj) hxy
  omega
theorem D_swap {A : Nat → Prop} {a b : va_W} (h : va_D A (a ++ b)) : va_D A (b ++ a) := va_D.app (D_right h) (D_left h) (fun i j x y hx hy hxy => D_cross h hy hx hxy.symm)
/-- behind a call that had the cells wc: they are w1 now -/
theorem joinW {A0 : Nat → Prop} {D : va_G} {wc wr w1 : va_W} {H H1 : Heap} (hP : va_P D vwCl (wc ++ wr) H) (hD : va_D A0 (wc ++ wr)) (hk : ∀ q : Nat, q < H.size → ¬ va_A wc H.size q → H1[q]? = H[q]?) (hF : ∀ q, va_A wc H.size q → A0 q) (hP1 : va_P D vwCl w1 H1) (hD1 : va_D (va_A wc H.size) w1) : va_P D vwCl (w1 ++ wr) H1 ∧ va_D A0 (w1 ++ wr) := by
  obtain ⟨p1, p2⟩ := P_app.mp hP
  have apart : ∀ (k : Nat) (q : Nat × va_E), wr[k]? = some q → q.1 < H.size ∧ ¬ va_A wc H.size q.1 := by
    intro k q hq
    have hl := (p2 k q hq).lt
    refine ⟨hl, fun h => ?_⟩
    rcases h with ⟨k2, e, h⟩ | h
    · exact D_cross hD h hq rfl
    · omega
  refine ⟨hP1.app (fun k q hq => ?_), va_D.app (hD1.weaken (fun k q _ h => hF q.1 h)) (D_right hD) (fun i j x y hx hy hxy => ?_)⟩
  · obtain ⟨g1, g2⟩ := apart k q hq
    exact (p2 k q hq).kept (hk q.1 g1 g2)
  · exact (apart j y hy).2 (by rw [← hxy]; exact hD1.2 i x hx)
theorem freeW {A0 : Nat → Prop} {wc wr : va_W} {H0 H : Heap} {locs : List Loc} (hD : va_D A0 (wc ++ wr)) (hS : va_S A0 H0 H locs) (hA : ∀ q, H0.size ≤ q → A0 q) : ∀ q, va_A wc H.size q → A0 q := by
  intro q h
  rcases h with ⟨k, e, h⟩ | h
  · exact (D_left hD).2 k (q, e) h
  · exact hA q (Nat.le_trans hS.1 h)
/-- Arrays.fill(int[], v), in any world -/
theorem c_fillG (θ : Site) (sx : List Shp) (S : St) (q n : Nat) (v : Int32) (hn : n ≤ 2048) (hq : sx[q]? = some (.inl (0, n))) : Ctv yJ7_fill_53178 cJ7_fill_53178 4 none 0 θ sx [.ref (sA θ q), .int v] S (fun S' => S' = upA S q (fun j => if j < n then v else S.1 q j)) := by
  refine Ctv.mk (own := RJ7) 2 [some (.ref (sA θ q)), some (.int v), none, none] (fun K hC => ?_)
  have loop : ∀ m i, i + m = n → K 5 [some (.ref (sA θ q)), some (.int v), some (.int (nI i)), some (.int (nI n))] [] (upA S q (fun j => if j < i then v else S.1 q j)) := by
    intro m
    induction m with
    | zero =>
      intro i hi
      have e : i = n := by omega
      subst e
      refine q_iload_n hC dJ7_fill_53178_5 ?_
      refine q_iload_n hC dJ7_fill_53178_6 ?_
      refine q_icmp_ge hC 20 dJ7_fill_53178_7 (by decide) (fun hb => ?_) (fun hb => ?_)
      · refine q_vret hC dJ7_fill_53178_20 ?_
        rfl
      · exact absurd (nI_le (Nat.le_refl i) (by omega)) hb
    | succ m ih =>
      intro i hi
      refine q_iload_n hC dJ7_fill_53178_5 ?_
      refine q_iload_n hC dJ7_fill_53178_6 ?_
      refine q_icmp_ge hC 20 dJ7_fill_53178_7 (by decide) (fun hb => ?_) (fun hb => ?_)
      · exact absurd ((nI_leI (by omega) (by omega)).mp hb) (by omega)
      · refine q_aload_n hC dJ7_fill_53178_10 ?_
        refine q_iload_n hC dJ7_fill_53178_11 ?_
        refine q_iload_n hC dJ7_fill_53178_12 ?_
        refine q_iastn hC (by first | assumption | rfl) (by first | assumption | omega) dJ7_fill_53178_13 ?_
        refine q_St hC (S2 := upA S q (fun j => if j < i + 1 then v else S.1 q j)) ?_ ?_
        · refine St_ext (fun a b => ?_) rfl
          by_cases ha : a = q
          · subst ha
            by_cases hb2 : b = i
            · subst hb2
              rw [up_s, upA_s, if_pos (by omega)]
            · rw [up_of hb2, upA_s, upA_s]
              by_cases h3 : b < i
              · rw [if_pos h3, if_pos (by omega)]
              · rw [if_neg h3, if_neg (by omega)]
          · rw [up_oc ha, upA_o ha, upA_o ha]
        refine q_inc1_2 hC dJ7_fill_53178_14 ?_
        refine q_goto hC 5 dJ7_fill_53178_17 (by decide) ?_
        exact ih (i + 1) (by omega)
  refine q_iconst (v := nI 0) hC dJ7_fill_53178_0 (by decide) ?_
  refine q_istore_2 hC dJ7_fill_53178_1 ?_
  refine q_aload_n hC dJ7_fill_53178_2 ?_
  refine q_alenn hC (by first | assumption | rfl) (by decide) dJ7_fill_53178_3 ?_
  refine q_istore_3 hC dJ7_fill_53178_4 ?_
  refine q_St hC (S2 := upA S q (fun j => if j < 0 then v else S.1 q j)) ?_ (loop n 0 (by omega))
  refine St_ext (fun a b => ?_) rfl
  by_cases ha : a = q
  · subst ha; rw [upA_s, if_neg (by omega)]
  · rw [upA_o ha]
