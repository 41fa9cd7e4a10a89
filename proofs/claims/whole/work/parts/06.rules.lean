def rmD (d : Nat) : Room := { frames := d, cells := 0, slots := 0, locals := 80 * d }
theorem tbl_good : lw_tbl.all goodWord = true := by decide +kernel
theorem gTb {y : MethodName} {bs : ByteArray} {ml : Nat} {rt : Option FieldType} (h : Cond.code y bs ml rt ∈ lw_tbl) : GoodIn lw_tbl (.code y bs ml rt :: lw_tbl) := by
  intro w hw
  have hm : w ∈ lw_tbl := by
    rcases List.mem_cons.mp hw with rfl | hw
    · exact h
    · exact hw
  exact ⟨hm, good_of_word (List.all_eq_true.mp tbl_good w hm)⟩
def BP (θ : Site) (sx : List Shp) : St → State → Prop := fun S' t => va_P (sD θ) vwCl (GW θ sx S') t.heap
def PcW (θ : Site) (sx : List Shp) (sz : Nat) (av : List Value) (S : St) : Array Value → State → Prop := va_Pc av (fun U => U.heap.size = sz ∧ WlP θ sx sz S U)
/-- a method's contract: it returns an int (a long, nothing), and a state, with P -/
def Cti (y : MethodName) (bs : ByteArray) (ml : Nat) (rt : Option FieldType) (d : Nat) (θ : Site) (sx : List Shp) (av : List Value) (S : St) (P : Int32 → St → Prop) : Prop :=
  ∀ (l : Launch) (sz : Nat), Met l y (.code y bs ml rt :: lw_tbl) (rmD d) (PcW θ sx sz av S) (va_Qi P (BP θ sx) (AA θ sx sz)) 0 0 (AA θ sx sz)
def Ctl (y : MethodName) (bs : ByteArray) (ml : Nat) (rt : Option FieldType) (d : Nat) (θ : Site) (sx : List Shp) (av : List Value) (S : St) (P : Int64 → St → Prop) : Prop :=
  ∀ (l : Launch) (sz : Nat), Met l y (.code y bs ml rt :: lw_tbl) (rmD d) (PcW θ sx sz av S) (va_Ql P (BP θ sx) (AA θ sx sz)) 0 0 (AA θ sx sz)
def Ctv (y : MethodName) (bs : ByteArray) (ml : Nat) (rt : Option FieldType) (d : Nat) (θ : Site) (sx : List Shp) (av : List Value) (S : St) (P : St → Prop) : Prop :=
  ∀ (l : Launch) (sz : Nat), Met l y (.code y bs ml rt :: lw_tbl) (rmD d) (PcW θ sx sz av S) (va_Qv P (BP θ sx) (AA θ sx sz)) 0 0 (AA θ sx sz)
theorem PcW_blind {θ : Site} {sx : List Shp} {sz : Nat} {av : List Value} {S : St} : FrameBlind (PcW θ sx sz av S) := by
  intro a U g mk h
  obtain ⟨h0, h1, h2, h3, h4, h5⟩ := h
  exact ⟨h0, h1, h2, va_K.moved (u := U) (U := U.calling g mk a) (Vm.Alike.refl U.vm) h3, h4, h5.same rfl rfl⟩
/-- what a walk stands on: the machine, the code, the words, the cells; K: 'from this frame and these cells the machine comes to the end' -/
def Ok (K : KT) (cc : ByteArray) (own : String) (nL d : Nat) (θ : Site) (sx : List Shp) (Fi : Int32 → St → Prop) (Fl : Int64 → St → Prop) (Fv : St → Prop) : Prop :=
  ∃ (p : Program) (l : Launch) (e : Env) (s : State) (m : MethodId) (args : Array Value) (below : List Frame) (meth : Method) (c : Code) (Q : State → Prop),
    p.tables.exec = Jvm.exec ∧ c.code = cc ∧ c.maxLocals = nL ∧ s.vm.findClass own = some m.cls ∧ (∀ w ∈ lw_tbl, w.before args s = true) ∧ va_K (sD θ) vwCl (tyC θ) s ∧ DJ θ sx ∧ Env9 θ (AA θ sx s.heap.size) s s.heap ∧
    (∀ (pc : Nat) (ls : Array Slot) (v : Int32) (S : St) (H : Heap) (locs : List Loc), decode cc pc = .ok (.ireturn, 1) → Fi v S → va_P (sD θ) vwCl (GW θ sx S) H → va_S (AA θ sx s.heap.size) s.heap H locs → W p l e (rmD d) s m args below meth c H locs 0 0 Q (F0 m pc ls [.int v])) ∧
    (∀ (pc : Nat) (ls : Array Slot) (v : Int64) (S : St) (H : Heap) (locs : List Loc), decode cc pc = .ok (.lreturn, 1) → Fl v S → va_P (sD θ) vwCl (GW θ sx S) H → va_S (AA θ sx s.heap.size) s.heap H locs → W p l e (rmD d) s m args below meth c H locs 0 0 Q (F0 m pc ls [.long v])) ∧
    (∀ (pc : Nat) (ls : Array Slot) (S : St) (H : Heap) (locs : List Loc), decode cc pc = .ok (.return_, 1) → Fv S → va_P (sD θ) vwCl (GW θ sx S) H → va_S (AA θ sx s.heap.size) s.heap H locs → W p l e (rmD d) s m args below meth c H locs 0 0 Q (F0 m pc ls [])) ∧
    K = fun pc lv st S => ∀ (H : Heap) (locs : List Loc) (ls : Array Slot), lv.length = nL → lv_has ls nL (lvA 0 lv) → va_P (sD θ) vwCl (GW θ sx S) H → va_S (AA θ sx s.heap.size) s.heap H locs → W p l e (rmD d) s m args below meth c H locs 0 0 Q (F0 m pc ls st)
def enL : List Value → LV
  | [] => []
  | v :: vs => if v.category = 2 then some v :: none :: enL vs else some v :: enL vs
theorem enL_mem : ∀ (vs : List Value) (i : Nat) (pad : Nat) (q : Nat × Value), q ∈ lvA i (enL vs ++ List.replicate pad none) → q ∈ lv_args i vs
  | [], i, pad, q, h => by
    obtain ⟨j, v⟩ := q
    obtain ⟨d, h1, h2⟩ := (lvA_mem _ i j v).mp h
    simp only [enL, List.nil_append, List.getElem?_replicate] at h2
    split at h2 <;> simp at h2
  | v :: vs, i, pad, q, h => by
    simp only [enL] at h
    simp only [lv_args]
    split at h
    · rename_i hc
      rw [if_pos hc]
      simp only [List.cons_append, lvA, List.mem_cons] at h
      rcases h with h | h
      · rw [h]; exact List.mem_cons_self
      · exact List.mem_cons_of_mem _ (enL_mem vs _ pad q h)
    · rename_i hc
      rw [if_neg hc]
      simp only [List.cons_append, lvA, List.mem_cons] at h
      rcases h with h | h
      · rw [h]; exact List.mem_cons_self
      · exact List.mem_cons_of_mem _ (enL_mem vs _ pad q h)
theorem enL_has {vs : List Value} {n pad : Nat} {lv : LV} (hn : (lg_sl vs).length ≤ n) (h : enL vs ++ List.replicate pad none = lv) : lv_has ((lg_sl vs ++ List.replicate (n - (lg_sl vs).length) Slot.unset).toArray) n (lvA 0 lv) := by
  have h0 := lv_entry vs hn
  refine ⟨h0.1, h0.2.1, fun q hq => h0.2.2 q ?_⟩
  rw [← h] at hq
  exact enL_mem vs 0 pad q hq

theorem Cti.mk {y : MethodName} {bs : ByteArray} {ml d : Nat} {θ : Site} {sx : List Shp} {av : List Value} {S : St} {P : Int32 → St → Prop} {own : String} (pad : Nat) (lv : LV) (body : ∀ K, Ok K bs own ml d θ sx P (fun _ _ => False) (fun _ => False) → K 0 lv [] S) (hy : plainName y.cls = true := by decide) (hlv : enL av ++ List.replicate pad none = lv := by rfl) (hl : lv.length = ml := by rfl) (hn : (lg_sl av).length ≤ ml := by (first | exact Nat.le_of_ble_eq_true rfl | decide)) (ho : y.cls = own := by rfl) : Cti y bs ml (some .int) d θ sx av S P := by
  subst ho
  intro l sz
  refine Met.ofW (cc := bs) (maxL := ml) (ret := (some .int)) hy rfl ?_
  intro p e s m args below meth c s₁ B hml hv
  obtain ⟨hargs, hsz, hP, hK, hJ, hE⟩ := hv
  have hx := B.exec
  have hb := B.bytes
  have hr := B.returns
  have hts0 := atoms_spec (ws := .code y bs ml (some .int) :: lw_tbl) B.pre
  have hts : ∀ w ∈ lw_tbl, w.before args s = true := fun w hw => hts0 w (List.mem_cons_of_mem _ hw)
  have hown : s.vm.findClass y.cls = some m.cls := findClass_of_methodNamed B.named
  have hlocks := B.notSynchronized
  subst hsz
  have hgo := body (fun pc lv st S => ∀ (H : Heap) (locs : List Loc) (ls : Array Slot), lv.length = ml → lv_has ls ml (lvA 0 lv) → va_P (sD θ) vwCl (GW θ sx S) H → va_S (AA θ sx s.heap.size) s.heap H locs → W p l e (rmD d) s m args below meth c H locs 0 0 (MQ below (va_Qi P (BP θ sx) (AA θ sx s.heap.size)) args s 0 0 (AA θ sx s.heap.size)) (F0 m pc ls st))
    ⟨p, l, e, s, m, args, below, meth, c, _, hx, hb, hml, hown, hts, hK, hJ, hE, fun pc ls v S H locs hd hf hP hS => W.iret (v := v) hx hb hr (fun t ht hW => ⟨⟨v, S, rfl, hf, by show va_P _ _ _ t.heap; rw [ht]; exact hP⟩, hS.F ht⟩) hS.2.2 hd, fun _ _ _ _ _ _ _ h => h.elim, fun _ _ _ _ _ _ h => h.elim, rfl⟩
  rw [hargs, lg_entry_eq]
  rw [hargs] at hgo
  exact hgo s.heap [] _ hl (enL_has hn hlv) hP va_S.rf
theorem Cti.mkz {y : MethodName} {bs : ByteArray} {ml d : Nat} {θ : Site} {sx : List Shp} {av : List Value} {S : St} {P : Int32 → St → Prop} {rt : FieldType} {own : String} (pad : Nat) (lv : LV) (body : ∀ K, Ok K bs own ml d θ sx (fun v S => P v S ∧ narrow rt (.int v) = .int v) (fun _ _ => False) (fun _ => False) → K 0 lv [] S) (hy : plainName y.cls = true := by decide) (hlv : enL av ++ List.replicate pad none = lv := by rfl) (hl : lv.length = ml := by rfl) (hn : (lg_sl av).length ≤ ml := by (first | exact Nat.le_of_ble_eq_true rfl | decide)) (ho : y.cls = own := by rfl) : Cti y bs ml (some rt) d θ sx av S P := by
  subst ho
  intro l sz
  refine Met.ofW (cc := bs) (maxL := ml) (ret := (some rt)) hy rfl ?_
  intro p e s m args below meth c s₁ B hml hv
  obtain ⟨hargs, hsz, hP, hK, hJ, hE⟩ := hv
  have hx := B.exec
  have hb := B.bytes
  have hr := B.returns
  have hts0 := atoms_spec (ws := .code y bs ml (some rt) :: lw_tbl) B.pre
  have hts : ∀ w ∈ lw_tbl, w.before args s = true := fun w hw => hts0 w (List.mem_cons_of_mem _ hw)
  have hown : s.vm.findClass y.cls = some m.cls := findClass_of_methodNamed B.named
  have hlocks := B.notSynchronized
  subst hsz
  have hgo := body (fun pc lv st S => ∀ (H : Heap) (locs : List Loc) (ls : Array Slot), lv.length = ml → lv_has ls ml (lvA 0 lv) → va_P (sD θ) vwCl (GW θ sx S) H → va_S (AA θ sx s.heap.size) s.heap H locs → W p l e (rmD d) s m args below meth c H locs 0 0 (MQ below (va_Qi P (BP θ sx) (AA θ sx s.heap.size)) args s 0 0 (AA θ sx s.heap.size)) (F0 m pc ls st))
    ⟨p, l, e, s, m, args, below, meth, c, _, hx, hb, hml, hown, hts, hK, hJ, hE, fun pc ls v S H locs hd hf hP hS => W.zret (v := v) hx hb hr hf.2 (fun t ht hW => ⟨⟨v, S, rfl, hf.1, by show va_P _ _ _ t.heap; rw [ht]; exact hP⟩, hS.F ht⟩) hS.2.2 hd, fun _ _ _ _ _ _ _ h => h.elim, fun _ _ _ _ _ _ h => h.elim, rfl⟩
  rw [hargs, lg_entry_eq]
  rw [hargs] at hgo
  exact hgo s.heap [] _ hl (enL_has hn hlv) hP va_S.rf
theorem Ctl.mk {y : MethodName} {bs : ByteArray} {ml d : Nat} {θ : Site} {sx : List Shp} {av : List Value} {S : St} {P : Int64 → St → Prop} {own : String} (pad : Nat) (lv : LV) (body : ∀ K, Ok K bs own ml d θ sx (fun _ _ => False) P (fun _ => False) → K 0 lv [] S) (hy : plainName y.cls = true := by decide) (hlv : enL av ++ List.replicate pad none = lv := by rfl) (hl : lv.length = ml := by rfl) (hn : (lg_sl av).length ≤ ml := by (first | exact Nat.le_of_ble_eq_true rfl | decide)) (ho : y.cls = own := by rfl) : Ctl y bs ml (some .long) d θ sx av S P := by
  subst ho
  intro l sz
  refine Met.ofW (cc := bs) (maxL := ml) (ret := (some .long)) hy rfl ?_
  intro p e s m args below meth c s₁ B hml hv
  obtain ⟨hargs, hsz, hP, hK, hJ, hE⟩ := hv
  have hx := B.exec
  have hb := B.bytes
  have hr := B.returns
  have hts0 := atoms_spec (ws := .code y bs ml (some .long) :: lw_tbl) B.pre
  have hts : ∀ w ∈ lw_tbl, w.before args s = true := fun w hw => hts0 w (List.mem_cons_of_mem _ hw)
  have hown : s.vm.findClass y.cls = some m.cls := findClass_of_methodNamed B.named
  have hlocks := B.notSynchronized
  subst hsz
  have hgo := body (fun pc lv st S => ∀ (H : Heap) (locs : List Loc) (ls : Array Slot), lv.length = ml → lv_has ls ml (lvA 0 lv) → va_P (sD θ) vwCl (GW θ sx S) H → va_S (AA θ sx s.heap.size) s.heap H locs → W p l e (rmD d) s m args below meth c H locs 0 0 (MQ below (va_Ql P (BP θ sx) (AA θ sx s.heap.size)) args s 0 0 (AA θ sx s.heap.size)) (F0 m pc ls st))
    ⟨p, l, e, s, m, args, below, meth, c, _, hx, hb, hml, hown, hts, hK, hJ, hE, fun _ _ _ _ _ _ _ h => h.elim, fun pc ls v S H locs hd hf hP hS => W.lret (v := v) hx hb hr (fun t ht hW => ⟨⟨v, S, rfl, hf, by show va_P _ _ _ t.heap; rw [ht]; exact hP⟩, hS.F ht⟩) hS.2.2 hd, fun _ _ _ _ _ _ h => h.elim, rfl⟩
  rw [hargs, lg_entry_eq]
  rw [hargs] at hgo
  exact hgo s.heap [] _ hl (enL_has hn hlv) hP va_S.rf
theorem Ctv.mk {y : MethodName} {bs : ByteArray} {ml d : Nat} {θ : Site} {sx : List Shp} {av : List Value} {S : St} {P : St → Prop} {own : String} (pad : Nat) (lv : LV) (body : ∀ K, Ok K bs own ml d θ sx (fun _ _ => False) (fun _ _ => False) P → K 0 lv [] S) (hy : plainName y.cls = true := by decide) (hlv : enL av ++ List.replicate pad none = lv := by rfl) (hl : lv.length = ml := by rfl) (hn : (lg_sl av).length ≤ ml := by (first | exact Nat.le_of_ble_eq_true rfl | decide)) (ho : y.cls = own := by rfl) : Ctv y bs ml none d θ sx av S P := by
  subst ho
  intro l sz
  refine Met.ofW (cc := bs) (maxL := ml) (ret := none) hy rfl ?_
  intro p e s m args below meth c s₁ B hml hv
  obtain ⟨hargs, hsz, hP, hK, hJ, hE⟩ := hv
  have hx := B.exec
  have hb := B.bytes
  have hr := B.returns
  have hts0 := atoms_spec (ws := .code y bs ml none :: lw_tbl) B.pre
  have hts : ∀ w ∈ lw_tbl, w.before args s = true := fun w hw => hts0 w (List.mem_cons_of_mem _ hw)
  have hown : s.vm.findClass y.cls = some m.cls := findClass_of_methodNamed B.named
  have hlocks := B.notSynchronized
  subst hsz
  have hgo := body (fun pc lv st S => ∀ (H : Heap) (locs : List Loc) (ls : Array Slot), lv.length = ml → lv_has ls ml (lvA 0 lv) → va_P (sD θ) vwCl (GW θ sx S) H → va_S (AA θ sx s.heap.size) s.heap H locs → W p l e (rmD d) s m args below meth c H locs 0 0 (MQ below (va_Qv P (BP θ sx) (AA θ sx s.heap.size)) args s 0 0 (AA θ sx s.heap.size)) (F0 m pc ls st))
    ⟨p, l, e, s, m, args, below, meth, c, _, hx, hb, hml, hown, hts, hK, hJ, hE, fun _ _ _ _ _ _ _ h => h.elim, fun _ _ _ _ _ _ _ h => h.elim, fun pc ls S H locs hd hf hP hS => W.vret hx hb hr (fun t ht hW => ⟨⟨S, rfl, hf, by show va_P _ _ _ t.heap; rw [ht]; exact hP⟩, hS.F ht⟩) hS.2.2 hd, rfl⟩
  rw [hargs, lg_entry_eq]
  rw [hargs] at hgo
  exact hgo s.heap [] _ hl (enL_has hn hlv) hP va_S.rf
section RUL
variable {K : KT} {cc : ByteArray} {own : String} {nL d : Nat} {θ : Site} {sx : List Shp} {Fi : Int32 → St → Prop} {Fl : Int64 → St → Prop} {Fv : St → Prop} {pc : Nat} {lv : LV} {st : List Value} {S : St}
theorem q_iconst (hC : Ok K cc own nL d θ sx Fi Fl Fv) {n : Int} {v : Int32} (dg : decode cc pc = .ok (.iconst n, 1)) (hv : Int32.ofInt n = v) (k : K (pc + 1) lv (.int v :: st) S) : K pc lv (st) S := by
  obtain ⟨p, l, e, s, m, args, below, meth, c, Q, hx, hb, hml, hown, hts, hK, hJ, hE, ri, rl, rv, rfl⟩ := hC
  intro H locs ls hn hl hP hS
  exact lv_iconst hx hb dg hv (k H locs ls hn hl hP hS)
theorem q_bipush (hC : Ok K cc own nL d θ sx Fi Fl Fv) {n : Int} {v : Int32} (dg : decode cc pc = .ok (.bipush n, 2)) (hv : (Int8.ofInt n).toInt32 = v) (k : K (pc + 2) lv (.int v :: st) S) : K pc lv (st) S := by
  obtain ⟨p, l, e, s, m, args, below, meth, c, Q, hx, hb, hml, hown, hts, hK, hJ, hE, ri, rl, rv, rfl⟩ := hC
  intro H locs ls hn hl hP hS
  exact lv_bipush hx hb dg hv (k H locs ls hn hl hP hS)
theorem q_sipush (hC : Ok K cc own nL d θ sx Fi Fl Fv) {n : Int} {v : Int32} (dg : decode cc pc = .ok (.sipush n, 3)) (hv : (Int16.ofInt n).toInt32 = v) (k : K (pc + 3) lv (.int v :: st) S) : K pc lv (st) S := by
  obtain ⟨p, l, e, s, m, args, below, meth, c, Q, hx, hb, hml, hown, hts, hK, hJ, hE, ri, rl, rv, rfl⟩ := hC
  intro H locs ls hn hl hP hS
  exact lv_sipush hx hb dg hv (k H locs ls hn hl hP hS)
theorem q_lconst (hC : Ok K cc own nL d θ sx Fi Fl Fv) {n : Int} {v : Int64} (dg : decode cc pc = .ok (.lconst n, 1)) (hv : Int64.ofInt n = v) (k : K (pc + 1) lv (.long v :: st) S) : K pc lv (st) S := by
  obtain ⟨p, l, e, s, m, args, below, meth, c, Q, hx, hb, hml, hown, hts, hK, hJ, hE, ri, rl, rv, rfl⟩ := hC
  intro H locs ls hn hl hP hS
  exact lv_lconst hx hb dg hv (k H locs ls hn hl hP hS)
theorem q_iadd (hC : Ok K cc own nL d θ sx Fi Fl Fv) {x y : Int32} (dg : decode cc pc = .ok (.iadd, 1))  (k : K (pc + 1) lv (.int (x + y) :: st) S) : K pc lv (.int y :: .int x :: st) S := by
  obtain ⟨p, l, e, s, m, args, below, meth, c, Q, hx, hb, hml, hown, hts, hK, hJ, hE, ri, rl, rv, rfl⟩ := hC
  intro H locs ls hn hl hP hS
  exact lv_iadd hx hb dg (k H locs ls hn hl hP hS)
theorem q_isub (hC : Ok K cc own nL d θ sx Fi Fl Fv) {x y : Int32} (dg : decode cc pc = .ok (.isub, 1))  (k : K (pc + 1) lv (.int (x - y) :: st) S) : K pc lv (.int y :: .int x :: st) S := by
  obtain ⟨p, l, e, s, m, args, below, meth, c, Q, hx, hb, hml, hown, hts, hK, hJ, hE, ri, rl, rv, rfl⟩ := hC
  intro H locs ls hn hl hP hS
  exact lv_isub hx hb dg (k H locs ls hn hl hP hS)
theorem q_imul (hC : Ok K cc own nL d θ sx Fi Fl Fv) {x y : Int32} (dg : decode cc pc = .ok (.imul, 1))  (k : K (pc + 1) lv (.int (x * y) :: st) S) : K pc lv (.int y :: .int x :: st) S := by
  obtain ⟨p, l, e, s, m, args, below, meth, c, Q, hx, hb, hml, hown, hts, hK, hJ, hE, ri, rl, rv, rfl⟩ := hC
  intro H locs ls hn hl hP hS
  exact lv_imul hx hb dg (k H locs ls hn hl hP hS)
theorem q_iand (hC : Ok K cc own nL d θ sx Fi Fl Fv) {x y : Int32} (dg : decode cc pc = .ok (.iand, 1))  (k : K (pc + 1) lv (.int (x &&& y) :: st) S) : K pc lv (.int y :: .int x :: st) S := by
  obtain ⟨p, l, e, s, m, args, below, meth, c, Q, hx, hb, hml, hown, hts, hK, hJ, hE, ri, rl, rv, rfl⟩ := hC
  intro H locs ls hn hl hP hS
  exact lv_iand hx hb dg (k H locs ls hn hl hP hS)
theorem q_ior (hC : Ok K cc own nL d θ sx Fi Fl Fv) {x y : Int32} (dg : decode cc pc = .ok (.ior, 1))  (k : K (pc + 1) lv (.int (x ||| y) :: st) S) : K pc lv (.int y :: .int x :: st) S := by
  obtain ⟨p, l, e, s, m, args, below, meth, c, Q, hx, hb, hml, hown, hts, hK, hJ, hE, ri, rl, rv, rfl⟩ := hC
  intro H locs ls hn hl hP hS
  exact lv_ior hx hb dg (k H locs ls hn hl hP hS)
theorem q_ixor (hC : Ok K cc own nL d θ sx Fi Fl Fv) {x y : Int32} (dg : decode cc pc = .ok (.ixor, 1))  (k : K (pc + 1) lv (.int (x ^^^ y) :: st) S) : K pc lv (.int y :: .int x :: st) S := by
  obtain ⟨p, l, e, s, m, args, below, meth, c, Q, hx, hb, hml, hown, hts, hK, hJ, hE, ri, rl, rv, rfl⟩ := hC
  intro H locs ls hn hl hP hS
  exact lv_ixor hx hb dg (k H locs ls hn hl hP hS)
theorem q_ishl (hC : Ok K cc own nL d θ sx Fi Fl Fv) {x y : Int32} (dg : decode cc pc = .ok (.ishl, 1))  (k : K (pc + 1) lv (.int (x <<< (y &&& 31)) :: st) S) : K pc lv (.int y :: .int x :: st) S := by
  obtain ⟨p, l, e, s, m, args, below, meth, c, Q, hx, hb, hml, hown, hts, hK, hJ, hE, ri, rl, rv, rfl⟩ := hC
  intro H locs ls hn hl hP hS
  exact lv_ishl hx hb dg (k H locs ls hn hl hP hS)
theorem q_ishr (hC : Ok K cc own nL d θ sx Fi Fl Fv) {x y : Int32} (dg : decode cc pc = .ok (.ishr, 1))  (k : K (pc + 1) lv (.int (x >>> (y &&& 31)) :: st) S) : K pc lv (.int y :: .int x :: st) S := by
  obtain ⟨p, l, e, s, m, args, below, meth, c, Q, hx, hb, hml, hown, hts, hK, hJ, hE, ri, rl, rv, rfl⟩ := hC
  intro H locs ls hn hl hP hS
  exact lv_ishr hx hb dg (k H locs ls hn hl hP hS)
theorem q_ladd (hC : Ok K cc own nL d θ sx Fi Fl Fv) {x y : Int64} (dg : decode cc pc = .ok (.ladd, 1))  (k : K (pc + 1) lv (.long (x + y) :: st) S) : K pc lv (.long y :: .long x :: st) S := by
  obtain ⟨p, l, e, s, m, args, below, meth, c, Q, hx, hb, hml, hown, hts, hK, hJ, hE, ri, rl, rv, rfl⟩ := hC
  intro H locs ls hn hl hP hS
  exact lv_ladd hx hb dg (k H locs ls hn hl hP hS)
theorem q_lsub (hC : Ok K cc own nL d θ sx Fi Fl Fv) {x y : Int64} (dg : decode cc pc = .ok (.lsub, 1))  (k : K (pc + 1) lv (.long (x - y) :: st) S) : K pc lv (.long y :: .long x :: st) S := by
  obtain ⟨p, l, e, s, m, args, below, meth, c, Q, hx, hb, hml, hown, hts, hK, hJ, hE, ri, rl, rv, rfl⟩ := hC
  intro H locs ls hn hl hP hS
  exact lv_lsub hx hb dg (k H locs ls hn hl hP hS)
theorem q_lmul (hC : Ok K cc own nL d θ sx Fi Fl Fv) {x y : Int64} (dg : decode cc pc = .ok (.lmul, 1))  (k : K (pc + 1) lv (.long (x * y) :: st) S) : K pc lv (.long y :: .long x :: st) S := by
  obtain ⟨p, l, e, s, m, args, below, meth, c, Q, hx, hb, hml, hown, hts, hK, hJ, hE, ri, rl, rv, rfl⟩ := hC
  intro H locs ls hn hl hP hS
  exact lv_lmul hx hb dg (k H locs ls hn hl hP hS)
theorem q_land (hC : Ok K cc own nL d θ sx Fi Fl Fv) {x y : Int64} (dg : decode cc pc = .ok (.land, 1))  (k : K (pc + 1) lv (.long (x &&& y) :: st) S) : K pc lv (.long y :: .long x :: st) S := by
  obtain ⟨p, l, e, s, m, args, below, meth, c, Q, hx, hb, hml, hown, hts, hK, hJ, hE, ri, rl, rv, rfl⟩ := hC
  intro H locs ls hn hl hP hS
  exact lv_land hx hb dg (k H locs ls hn hl hP hS)
theorem q_lor (hC : Ok K cc own nL d θ sx Fi Fl Fv) {x y : Int64} (dg : decode cc pc = .ok (.lor, 1))  (k : K (pc + 1) lv (.long (x ||| y) :: st) S) : K pc lv (.long y :: .long x :: st) S := by
  obtain ⟨p, l, e, s, m, args, below, meth, c, Q, hx, hb, hml, hown, hts, hK, hJ, hE, ri, rl, rv, rfl⟩ := hC
  intro H locs ls hn hl hP hS
  exact lv_lor hx hb dg (k H locs ls hn hl hP hS)
theorem q_idiv (hC : Ok K cc own nL d θ sx Fi Fl Fv) {x y : Int32} (dg : decode cc pc = .ok (.idiv, 1)) (h0 : ¬ y = 0) (k : K (pc + 1) lv (.int (x / y) :: st) S) : K pc lv (.int y :: .int x :: st) S := by
  obtain ⟨p, l, e, s, m, args, below, meth, c, Q, hx, hb, hml, hown, hts, hK, hJ, hE, ri, rl, rv, rfl⟩ := hC
  intro H locs ls hn hl hP hS
  exact lv_idiv hx hb dg h0 (k H locs ls hn hl hP hS)
theorem q_irem (hC : Ok K cc own nL d θ sx Fi Fl Fv) {x y : Int32} (dg : decode cc pc = .ok (.irem, 1)) (h0 : ¬ y = 0) (k : K (pc + 1) lv (.int (x - x / y * y) :: st) S) : K pc lv (.int y :: .int x :: st) S := by
  obtain ⟨p, l, e, s, m, args, below, meth, c, Q, hx, hb, hml, hown, hts, hK, hJ, hE, ri, rl, rv, rfl⟩ := hC
  intro H locs ls hn hl hP hS
  exact lv_irem hx hb dg h0 (k H locs ls hn hl hP hS)
theorem q_ldiv (hC : Ok K cc own nL d θ sx Fi Fl Fv) {x y : Int64} (dg : decode cc pc = .ok (.ldiv, 1)) (h0 : ¬ y = 0) (k : K (pc + 1) lv (.long (x / y) :: st) S) : K pc lv (.long y :: .long x :: st) S := by
  obtain ⟨p, l, e, s, m, args, below, meth, c, Q, hx, hb, hml, hown, hts, hK, hJ, hE, ri, rl, rv, rfl⟩ := hC
  intro H locs ls hn hl hP hS
  exact lv_ldiv hx hb dg h0 (k H locs ls hn hl hP hS)
theorem q_lrem (hC : Ok K cc own nL d θ sx Fi Fl Fv) {x y : Int64} (dg : decode cc pc = .ok (.lrem, 1)) (h0 : ¬ y = 0) (k : K (pc + 1) lv (.long (x - x / y * y) :: st) S) : K pc lv (.long y :: .long x :: st) S := by
  obtain ⟨p, l, e, s, m, args, below, meth, c, Q, hx, hb, hml, hown, hts, hK, hJ, hE, ri, rl, rv, rfl⟩ := hC
  intro H locs ls hn hl hP hS
  exact lv_lrem hx hb dg h0 (k H locs ls hn hl hP hS)
theorem q_ineg (hC : Ok K cc own nL d θ sx Fi Fl Fv) {x : Int32} (dg : decode cc pc = .ok (.ineg, 1))  (k : K (pc + 1) lv (.int (-x) :: st) S) : K pc lv (.int x :: st) S := by
  obtain ⟨p, l, e, s, m, args, below, meth, c, Q, hx, hb, hml, hown, hts, hK, hJ, hE, ri, rl, rv, rfl⟩ := hC
  intro H locs ls hn hl hP hS
  exact lv_ineg hx hb dg (k H locs ls hn hl hP hS)
theorem q_i2l (hC : Ok K cc own nL d θ sx Fi Fl Fv) {x : Int32} (dg : decode cc pc = .ok (.i2l, 1))  (k : K (pc + 1) lv (.long x.toInt64 :: st) S) : K pc lv (.int x :: st) S := by
  obtain ⟨p, l, e, s, m, args, below, meth, c, Q, hx, hb, hml, hown, hts, hK, hJ, hE, ri, rl, rv, rfl⟩ := hC
  intro H locs ls hn hl hP hS
  exact lv_i2l hx hb dg rfl (k H locs ls hn hl hP hS)
theorem q_l2i (hC : Ok K cc own nL d θ sx Fi Fl Fv) {x : Int64} (dg : decode cc pc = .ok (.l2i, 1))  (k : K (pc + 1) lv (.int x.toInt32 :: st) S) : K pc lv (.long x :: st) S := by
  obtain ⟨p, l, e, s, m, args, below, meth, c, Q, hx, hb, hml, hown, hts, hK, hJ, hE, ri, rl, rv, rfl⟩ := hC
  intro H locs ls hn hl hP hS
  exact lv_l2i hx hb dg rfl (k H locs ls hn hl hP hS)
theorem q_i2b (hC : Ok K cc own nL d θ sx Fi Fl Fv) {x : Int32} (dg : decode cc pc = .ok (.i2b, 1))  (k : K (pc + 1) lv (.int x.toInt8.toInt32 :: st) S) : K pc lv (.int x :: st) S := by
  obtain ⟨p, l, e, s, m, args, below, meth, c, Q, hx, hb, hml, hown, hts, hK, hJ, hE, ri, rl, rv, rfl⟩ := hC
  intro H locs ls hn hl hP hS
  exact lv_i2b hx hb dg rfl (k H locs ls hn hl hP hS)
theorem q_i2c (hC : Ok K cc own nL d θ sx Fi Fl Fv) {x : Int32} (dg : decode cc pc = .ok (.i2c, 1))  (k : K (pc + 1) lv (.int (x.toUInt32 % 65536).toInt32 :: st) S) : K pc lv (.int x :: st) S := by
  obtain ⟨p, l, e, s, m, args, below, meth, c, Q, hx, hb, hml, hown, hts, hK, hJ, hE, ri, rl, rv, rfl⟩ := hC
  intro H locs ls hn hl hP hS
  exact lv_i2c hx hb dg rfl (k H locs ls hn hl hP hS)
theorem q_iushr (hC : Ok K cc own nL d θ sx Fi Fl Fv) {x y : Int32} (dg : decode cc pc = .ok (.iushr, 1))  (k : K (pc + 1) lv (.int (x.toUInt32 >>> (y.toUInt32 &&& Int32.toUInt32 31)).toInt32 :: st) S) : K pc lv (.int y :: .int x :: st) S := by
  obtain ⟨p, l, e, s, m, args, below, meth, c, Q, hx, hb, hml, hown, hts, hK, hJ, hE, ri, rl, rv, rfl⟩ := hC
  intro H locs ls hn hl hP hS
  exact lv_iushr hx hb dg rfl (k H locs ls hn hl hP hS)
theorem q_lshr (hC : Ok K cc own nL d θ sx Fi Fl Fv) {x : Int64} {y : Int32} (dg : decode cc pc = .ok (.lshr, 1))  (k : K (pc + 1) lv (.long (x >>> (y.toInt64 &&& 63)) :: st) S) : K pc lv (.int y :: .long x :: st) S := by
  obtain ⟨p, l, e, s, m, args, below, meth, c, Q, hx, hb, hml, hown, hts, hK, hJ, hE, ri, rl, rv, rfl⟩ := hC
  intro H locs ls hn hl hP hS
  exact lv_lshr hx hb dg rfl (k H locs ls hn hl hP hS)
theorem q_lshl (hC : Ok K cc own nL d θ sx Fi Fl Fv) {x : Int64} {y : Int32} (dg : decode cc pc = .ok (.lshl, 1))  (k : K (pc + 1) lv (.long (x <<< (y.toInt64 &&& 63)) :: st) S) : K pc lv (.int y :: .long x :: st) S := by
  obtain ⟨p, l, e, s, m, args, below, meth, c, Q, hx, hb, hml, hown, hts, hK, hJ, hE, ri, rl, rv, rfl⟩ := hC
  intro H locs ls hn hl hP hS
  exact lv_lshl hx hb dg rfl (k H locs ls hn hl hP hS)
theorem q_dup (hC : Ok K cc own nL d θ sx Fi Fl Fv) {va : Value} (dg : decode cc pc = .ok (.dup, 1)) (h1 : va.category = 1) (k : K (pc + 1) lv (va :: va :: st) S) : K pc lv (va :: st) S := by
  obtain ⟨p, l, e, s, m, args, below, meth, c, Q, hx, hb, hml, hown, hts, hK, hJ, hE, ri, rl, rv, rfl⟩ := hC
  intro H locs ls hn hl hP hS
  exact lv_dup hx hb dg h1 (k H locs ls hn hl hP hS)
theorem q_pop (hC : Ok K cc own nL d θ sx Fi Fl Fv) {va : Value} (dg : decode cc pc = .ok (.pop, 1)) (h1 : va.category = 1) (k : K (pc + 1) lv (st) S) : K pc lv (va :: st) S := by
  obtain ⟨p, l, e, s, m, args, below, meth, c, Q, hx, hb, hml, hown, hts, hK, hJ, hE, ri, rl, rv, rfl⟩ := hC
  intro H locs ls hn hl hP hS
  exact lv_pop hx hb dg h1 (k H locs ls hn hl hP hS)
theorem q_dup_x1 (hC : Ok K cc own nL d θ sx Fi Fl Fv) {va vb : Value} (dg : decode cc pc = .ok (.dup_x1, 1)) (h1 : va.category = 1) (h2 : vb.category = 1) (k : K (pc + 1) lv (va :: vb :: va :: st) S) : K pc lv (va :: vb :: st) S := by
  obtain ⟨p, l, e, s, m, args, below, meth, c, Q, hx, hb, hml, hown, hts, hK, hJ, hE, ri, rl, rv, rfl⟩ := hC
  intro H locs ls hn hl hP hS
  exact lv_dup_x1 hx hb dg h1 h2 (k H locs ls hn hl hP hS)
theorem q_dup_x2 (hC : Ok K cc own nL d θ sx Fi Fl Fv) {va vb vd : Value} (dg : decode cc pc = .ok (.dup_x2, 1)) (h1 : va.category = 1) (h2 : vb.category = 1) (h3 : vd.category = 1) (k : K (pc + 1) lv (va :: vb :: vd :: va :: st) S) : K pc lv (va :: vb :: vd :: st) S := by
  obtain ⟨p, l, e, s, m, args, below, meth, c, Q, hx, hb, hml, hown, hts, hK, hJ, hE, ri, rl, rv, rfl⟩ := hC
  intro H locs ls hn hl hP hS
  exact lv_dup_x2 hx hb dg h1 h2 h3 (k H locs ls hn hl hP hS)
theorem q_dup2 (hC : Ok K cc own nL d θ sx Fi Fl Fv) {va vb : Value} (dg : decode cc pc = .ok (.dup2, 1)) (h1 : va.category = 1) (h2 : vb.category = 1) (k : K (pc + 1) lv (va :: vb :: va :: vb :: st) S) : K pc lv (va :: vb :: st) S := by
  obtain ⟨p, l, e, s, m, args, below, meth, c, Q, hx, hb, hml, hown, hts, hK, hJ, hE, ri, rl, rv, rfl⟩ := hC
  intro H locs ls hn hl hP hS
  exact lv_dup2_11 hx hb dg h1 h2 (k H locs ls hn hl hP hS)
theorem q_dup2l (hC : Ok K cc own nL d θ sx Fi Fl Fv) {va : Value} (dg : decode cc pc = .ok (.dup2, 1)) (h1 : va.category = 2) (k : K (pc + 1) lv (va :: va :: st) S) : K pc lv (va :: st) S := by
  obtain ⟨p, l, e, s, m, args, below, meth, c, Q, hx, hb, hml, hown, hts, hK, hJ, hE, ri, rl, rv, rfl⟩ := hC
  intro H locs ls hn hl hP hS
  exact lv_dup2_2 hx hb dg h1 (k H locs ls hn hl hP hS)
theorem q_iload_n (hC : Ok K cc own nL d θ sx Fi Fl Fv) {n : Fin 4} {x : Int32} (dg : decode cc pc = .ok (.iload_n n, 1)) (k : K (pc + 1) lv (.int x :: st) S) (hi : lv[(n : Nat)]? = some (some (.int x)) := by rfl) : K pc lv st S := by
  obtain ⟨p, l, e, s, m, args, below, meth, c, Q, hx, hb, hml, hown, hts, hK, hJ, hE, ri, rl, rv, rfl⟩ := hC
  intro H locs ls hn hl hP hS
  exact lv_iload_n hx hb dg rfl (lv_rd hl hi) (k H locs ls hn hl hP hS)
theorem q_iload (hC : Ok K cc own nL d θ sx Fi Fl Fv) {n : Nat} {x : Int32} (dg : decode cc pc = .ok (.iload n, 2)) (k : K (pc + 2) lv (.int x :: st) S) (hi : lv[n]? = some (some (.int x)) := by rfl) : K pc lv st S := by
  obtain ⟨p, l, e, s, m, args, below, meth, c, Q, hx, hb, hml, hown, hts, hK, hJ, hE, ri, rl, rv, rfl⟩ := hC
  intro H locs ls hn hl hP hS
  exact lv_iload hx hb dg (lv_rd hl hi) (k H locs ls hn hl hP hS)
theorem q_lload_n (hC : Ok K cc own nL d θ sx Fi Fl Fv) {n : Fin 4} {x : Int64} (dg : decode cc pc = .ok (.lload_n n, 1)) (k : K (pc + 1) lv (.long x :: st) S) (hi : lv[(n : Nat)]? = some (some (.long x)) := by rfl) : K pc lv st S := by
  obtain ⟨p, l, e, s, m, args, below, meth, c, Q, hx, hb, hml, hown, hts, hK, hJ, hE, ri, rl, rv, rfl⟩ := hC
  intro H locs ls hn hl hP hS
  exact lv_lload_n hx hb dg rfl (lv_rd hl hi) (k H locs ls hn hl hP hS)
theorem q_lload (hC : Ok K cc own nL d θ sx Fi Fl Fv) {n : Nat} {x : Int64} (dg : decode cc pc = .ok (.lload n, 2)) (k : K (pc + 2) lv (.long x :: st) S) (hi : lv[n]? = some (some (.long x)) := by rfl) : K pc lv st S := by
  obtain ⟨p, l, e, s, m, args, below, meth, c, Q, hx, hb, hml, hown, hts, hK, hJ, hE, ri, rl, rv, rfl⟩ := hC
  intro H locs ls hn hl hP hS
  exact lv_lload hx hb dg (lv_rd hl hi) (k H locs ls hn hl hP hS)
theorem q_aload_n (hC : Ok K cc own nL d θ sx Fi Fl Fv) {n : Fin 4} {x : Nat} (dg : decode cc pc = .ok (.aload_n n, 1)) (k : K (pc + 1) lv (.ref x :: st) S) (hi : lv[(n : Nat)]? = some (some (.ref x)) := by rfl) : K pc lv st S := by
  obtain ⟨p, l, e, s, m, args, below, meth, c, Q, hx, hb, hml, hown, hts, hK, hJ, hE, ri, rl, rv, rfl⟩ := hC
  intro H locs ls hn hl hP hS
  exact lv_aload_n hx hb dg rfl (lv_rd hl hi) (k H locs ls hn hl hP hS)
theorem q_aload (hC : Ok K cc own nL d θ sx Fi Fl Fv) {n : Nat} {x : Nat} (dg : decode cc pc = .ok (.aload n, 2)) (k : K (pc + 2) lv (.ref x :: st) S) (hi : lv[n]? = some (some (.ref x)) := by rfl) : K pc lv st S := by
  obtain ⟨p, l, e, s, m, args, below, meth, c, Q, hx, hb, hml, hown, hts, hK, hJ, hE, ri, rl, rv, rfl⟩ := hC
  intro H locs ls hn hl hP hS
  exact lv_aload hx hb dg (lv_rd hl hi) (k H locs ls hn hl hP hS)
theorem q_istore_g (hC : Ok K cc own nL d θ sx Fi Fl Fv) {i : Nat} {n : Fin 4} {x : Int32} (dg : decode cc pc = .ok (.istore_n n, 1)) (hi : (n : Nat) = i) (h1 : i < lv.length) (h2 : nlg lv i) (k : K (pc + 1) (lv.set i (some (.int x))) st S) : K pc lv (.int x :: st) S := by
  obtain ⟨p, l, e, s, m, args, below, meth, c, Q, hx, hb, hml, hown, hts, hK, hJ, hE, ri, rl, rv, rfl⟩ := hC
  intro H locs ls hn hl hP hS
  exact lv_istore_n hx hb dg hi hl (by omega) rfl (fun ls' hl' => k H locs ls' (by simpa using hn) (lv_st1 hl' h1 h2) hP hS)
theorem q_istoreg (hC : Ok K cc own nL d θ sx Fi Fl Fv) {i : Nat} {x : Int32} (dg : decode cc pc = .ok (.istore i, 2)) (h1 : i < lv.length) (h2 : nlg lv i) (k : K (pc + 2) (lv.set i (some (.int x))) st S) : K pc lv (.int x :: st) S := by
  obtain ⟨p, l, e, s, m, args, below, meth, c, Q, hx, hb, hml, hown, hts, hK, hJ, hE, ri, rl, rv, rfl⟩ := hC
  intro H locs ls hn hl hP hS
  exact lv_istore hx hb dg hl (by omega) rfl (fun ls' hl' => k H locs ls' (by simpa using hn) (lv_st1 hl' h1 h2) hP hS)
theorem q_astore_g (hC : Ok K cc own nL d θ sx Fi Fl Fv) {i : Nat} {n : Fin 4} {x : Nat} (dg : decode cc pc = .ok (.astore_n n, 1)) (hi : (n : Nat) = i) (h1 : i < lv.length) (h2 : nlg lv i) (k : K (pc + 1) (lv.set i (some (.ref x))) st S) : K pc lv (.ref x :: st) S := by
  obtain ⟨p, l, e, s, m, args, below, meth, c, Q, hx, hb, hml, hown, hts, hK, hJ, hE, ri, rl, rv, rfl⟩ := hC
  intro H locs ls hn hl hP hS
  exact lv_astore_n hx hb dg hi hl (by omega) rfl (fun ls' hl' => k H locs ls' (by simpa using hn) (lv_st1 hl' h1 h2) hP hS)
theorem q_astoreg (hC : Ok K cc own nL d θ sx Fi Fl Fv) {i : Nat} {x : Nat} (dg : decode cc pc = .ok (.astore i, 2)) (h1 : i < lv.length) (h2 : nlg lv i) (k : K (pc + 2) (lv.set i (some (.ref x))) st S) : K pc lv (.ref x :: st) S := by
  obtain ⟨p, l, e, s, m, args, below, meth, c, Q, hx, hb, hml, hown, hts, hK, hJ, hE, ri, rl, rv, rfl⟩ := hC
  intro H locs ls hn hl hP hS
  exact lv_astore hx hb dg hl (by omega) rfl (fun ls' hl' => k H locs ls' (by simpa using hn) (lv_st1 hl' h1 h2) hP hS)
theorem q_lstore_g (hC : Ok K cc own nL d θ sx Fi Fl Fv) {i : Nat} {n : Fin 4} {x : Int64} (dg : decode cc pc = .ok (.lstore_n n, 1)) (hi : (n : Nat) = i) (h1 : i + 1 < lv.length) (h2 : nlg lv i) (k : K (pc + 1) ((lv.set i (some (.long x))).set (i + 1) none) st S) : K pc lv (.long x :: st) S := by
  obtain ⟨p, l, e, s, m, args, below, meth, c, Q, hx, hb, hml, hown, hts, hK, hJ, hE, ri, rl, rv, rfl⟩ := hC
  intro H locs ls hn hl hP hS
  exact lv_lstore_n hx hb dg hi hl (by omega) rfl (fun ls' hl' => k H locs ls' (by simpa using hn) (lv_st2 hl' h1 h2) hP hS)
theorem q_lstoreg (hC : Ok K cc own nL d θ sx Fi Fl Fv) {i : Nat} {x : Int64} (dg : decode cc pc = .ok (.lstore i, 2)) (h1 : i + 1 < lv.length) (h2 : nlg lv i) (k : K (pc + 2) ((lv.set i (some (.long x))).set (i + 1) none) st S) : K pc lv (.long x :: st) S := by
  obtain ⟨p, l, e, s, m, args, below, meth, c, Q, hx, hb, hml, hown, hts, hK, hJ, hE, ri, rl, rv, rfl⟩ := hC
  intro H locs ls hn hl hP hS
  exact lv_lstore hx hb dg hl (by omega) rfl (fun ls' hl' => k H locs ls' (by simpa using hn) (lv_st2 hl' h1 h2) hP hS)
theorem q_iincg (hC : Ok K cc own nL d θ sx Fi Fl Fv) {i : Nat} {n : Int} {x v : Int32} (dg : decode cc pc = .ok (.iinc i n, 3)) (h0 : lv[i]? = some (some (.int x))) (hv : x + Int32.ofInt n = v) (h1 : i < lv.length) (h2 : nlg lv i) (k : K (pc + 3) (lv.set i (some (.int v))) st S) : K pc lv st S := by
  obtain ⟨p, l, e, s, m, args, below, meth, c, Q, hx, hb, hml, hown, hts, hK, hJ, hE, ri, rl, rv, rfl⟩ := hC
  intro H locs ls hn hl hP hS
  obtain ⟨q, hq⟩ := List.getElem?_of_mem ((lvA_mem lv 0 i (.int x)).mpr ⟨i, by omega, h0⟩)
  exact lv_iinc hx hb dg hl hq hv (by omega) rfl (fun ls' hl' => k H locs ls' (by simpa using hn) (lv_st1 hl' h1 h2) hP hS)
theorem nlg_i {lv : LV} {i : Nat} {o : Option Value} (h : lv[i]? = some o) (h2 : ∀ v, o = some v → v.category = 1) : nlg lv (i + 1) := fun v hv => h2 v (by rw [h] at hv; exact Option.some.inj hv)
def nl1 : Option Value → Bool
  | some (.long _) => false
  | some (.double _) => false
  | _ => true
theorem nl1_ok {o : Option Value} (h : nl1 o = true) : ∀ v, o = some v → v.category = 1 := by
  intro v hv
  subst hv
  cases v <;> first | rfl | (simp [nl1] at h)
theorem q_istore_0 (hC : Ok K cc own nL d θ sx Fi Fl Fv) {x : Int32} {o : Option Value} {tl : LV} (dg : decode cc pc = .ok (.istore_n 0, 1)) (k : K (pc + 1) (some (.int x) :: tl) st S)  : K pc (o :: tl) (.int x :: st) S :=
  q_istore_g (i := 0) hC dg rfl (by simp) trivial k
theorem q_astore_0 (hC : Ok K cc own nL d θ sx Fi Fl Fv) {x : Nat} {o : Option Value} {tl : LV} (dg : decode cc pc = .ok (.astore_n 0, 1)) (k : K (pc + 1) (some (.ref x) :: tl) st S)  : K pc (o :: tl) (.ref x :: st) S :=
  q_astore_g (i := 0) hC dg rfl (by simp) trivial k
theorem q_lstore_0 (hC : Ok K cc own nL d θ sx Fi Fl Fv) {x : Int64} {o o2 : Option Value} {tl : LV} (dg : decode cc pc = .ok (.lstore_n 0, 1)) (k : K (pc + 1) (some (.long x) :: none :: tl) st S)  : K pc (o :: o2 :: tl) (.long x :: st) S :=
  q_lstore_g (i := 0) hC dg rfl (by simp) trivial k
theorem q_iinc_0 (hC : Ok K cc own nL d θ sx Fi Fl Fv) {n : Int} {x v : Int32} {tl : LV} (dg : decode cc pc = .ok (.iinc 0 n, 3)) (hv : x + Int32.ofInt n = v) (k : K (pc + 3) (some (.int v) :: tl) st S)  : K pc (some (.int x) :: tl) st S :=
  q_iincg (i := 0) hC dg rfl hv (by simp) trivial k
theorem q_istore_1 (hC : Ok K cc own nL d θ sx Fi Fl Fv) {x : Int32} {a0 o : Option Value} {tl : LV} (dg : decode cc pc = .ok (.istore_n 1, 1)) (k : K (pc + 1) (a0 :: some (.int x) :: tl) st S) (hh : nl1 a0 = true := by rfl) : K pc (a0 :: o :: tl) (.int x :: st) S :=
  q_istore_g (i := 1) hC dg rfl (by simp) (nlg_i (i := 0) rfl (nl1_ok hh)) k
theorem q_astore_1 (hC : Ok K cc own nL d θ sx Fi Fl Fv) {x : Nat} {a0 o : Option Value} {tl : LV} (dg : decode cc pc = .ok (.astore_n 1, 1)) (k : K (pc + 1) (a0 :: some (.ref x) :: tl) st S) (hh : nl1 a0 = true := by rfl) : K pc (a0 :: o :: tl) (.ref x :: st) S :=
  q_astore_g (i := 1) hC dg rfl (by simp) (nlg_i (i := 0) rfl (nl1_ok hh)) k
theorem q_lstore_1 (hC : Ok K cc own nL d θ sx Fi Fl Fv) {x : Int64} {a0 o o2 : Option Value} {tl : LV} (dg : decode cc pc = .ok (.lstore_n 1, 1)) (k : K (pc + 1) (a0 :: some (.long x) :: none :: tl) st S) (hh : nl1 a0 = true := by rfl) : K pc (a0 :: o :: o2 :: tl) (.long x :: st) S :=
  q_lstore_g (i := 1) hC dg rfl (by simp) (nlg_i (i := 0) rfl (nl1_ok hh)) k
theorem q_iinc_1 (hC : Ok K cc own nL d θ sx Fi Fl Fv) {n : Int} {x v : Int32} {a0 : Option Value} {tl : LV} (dg : decode cc pc = .ok (.iinc 1 n, 3)) (hv : x + Int32.ofInt n = v) (k : K (pc + 3) (a0 :: some (.int v) :: tl) st S) (hh : nl1 a0 = true := by rfl) : K pc (a0 :: some (.int x) :: tl) st S :=
  q_iincg (i := 1) hC dg rfl hv (by simp) (nlg_i (i := 0) rfl (nl1_ok hh)) k
theorem q_istore_2 (hC : Ok K cc own nL d θ sx Fi Fl Fv) {x : Int32} {a0 a1 o : Option Value} {tl : LV} (dg : decode cc pc = .ok (.istore_n 2, 1)) (k : K (pc + 1) (a0 :: a1 :: some (.int x) :: tl) st S) (hh : nl1 a1 = true := by rfl) : K pc (a0 :: a1 :: o :: tl) (.int x :: st) S :=
  q_istore_g (i := 2) hC dg rfl (by simp) (nlg_i (i := 1) rfl (nl1_ok hh)) k
theorem q_astore_2 (hC : Ok K cc own nL d θ sx Fi Fl Fv) {x : Nat} {a0 a1 o : Option Value} {tl : LV} (dg : decode cc pc = .ok (.astore_n 2, 1)) (k : K (pc + 1) (a0 :: a1 :: some (.ref x) :: tl) st S) (hh : nl1 a1 = true := by rfl) : K pc (a0 :: a1 :: o :: tl) (.ref x :: st) S :=
  q_astore_g (i := 2) hC dg rfl (by simp) (nlg_i (i := 1) rfl (nl1_ok hh)) k
theorem q_lstore_2 (hC : Ok K cc own nL d θ sx Fi Fl Fv) {x : Int64} {a0 a1 o o2 : Option Value} {tl : LV} (dg : decode cc pc = .ok (.lstore_n 2, 1)) (k : K (pc + 1) (a0 :: a1 :: some (.long x) :: none :: tl) st S) (hh : nl1 a1 = true := by rfl) : K pc (a0 :: a1 :: o :: o2 :: tl) (.long x :: st) S :=
  q_lstore_g (i := 2) hC dg rfl (by simp) (nlg_i (i := 1) rfl (nl1_ok hh)) k
theorem q_iinc_2 (hC : Ok K cc own nL d θ sx Fi Fl Fv) {n : Int} {x v : Int32} {a0 a1 : Option Value} {tl : LV} (dg : decode cc pc = .ok (.iinc 2 n, 3)) (hv : x + Int32.ofInt n = v) (k : K (pc + 3) (a0 :: a1 :: some (.int v) :: tl) st S) (hh : nl1 a1 = true := by rfl) : K pc (a0 :: a1 :: some (.int x) :: tl) st S :=
  q_iincg (i := 2) hC dg rfl hv (by simp) (nlg_i (i := 1) rfl (nl1_ok hh)) k
theorem q_istore_3 (hC : Ok K cc own nL d θ sx Fi Fl Fv) {x : Int32} {a0 a1 a2 o : Option Value} {tl : LV} (dg : decode cc pc = .ok (.istore_n 3, 1)) (k : K (pc + 1) (a0 :: a1 :: a2 :: some (.int x) :: tl) st S) (hh : nl1 a2 = true := by rfl) : K pc (a0 :: a1 :: a2 :: o :: tl) (.int x :: st) S :=
  q_istore_g (i := 3) hC dg rfl (by simp) (nlg_i (i := 2) rfl (nl1_ok hh)) k
theorem q_astore_3 (hC : Ok K cc own nL d θ sx Fi Fl Fv) {x : Nat} {a0 a1 a2 o : Option Value} {tl : LV} (dg : decode cc pc = .ok (.astore_n 3, 1)) (k : K (pc + 1) (a0 :: a1 :: a2 :: some (.ref x) :: tl) st S) (hh : nl1 a2 = true := by rfl) : K pc (a0 :: a1 :: a2 :: o :: tl) (.ref x :: st) S :=
  q_astore_g (i := 3) hC dg rfl (by simp) (nlg_i (i := 2) rfl (nl1_ok hh)) k
theorem q_lstore_3 (hC : Ok K cc own nL d θ sx Fi Fl Fv) {x : Int64} {a0 a1 a2 o o2 : Option Value} {tl : LV} (dg : decode cc pc = .ok (.lstore_n 3, 1)) (k : K (pc + 1) (a0 :: a1 :: a2 :: some (.long x) :: none :: tl) st S) (hh : nl1 a2 = true := by rfl) : K pc (a0 :: a1 :: a2 :: o :: o2 :: tl) (.long x :: st) S :=
  q_lstore_g (i := 3) hC dg rfl (by simp) (nlg_i (i := 2) rfl (nl1_ok hh)) k
theorem q_iinc_3 (hC : Ok K cc own nL d θ sx Fi Fl Fv) {n : Int} {x v : Int32} {a0 a1 a2 : Option Value} {tl : LV} (dg : decode cc pc = .ok (.iinc 3 n, 3)) (hv : x + Int32.ofInt n = v) (k : K (pc + 3) (a0 :: a1 :: a2 :: some (.int v) :: tl) st S) (hh : nl1 a2 = true := by rfl) : K pc (a0 :: a1 :: a2 :: some (.int x) :: tl) st S :=
  q_iincg (i := 3) hC dg rfl hv (by simp) (nlg_i (i := 2) rfl (nl1_ok hh)) k
theorem q_istore_4 (hC : Ok K cc own nL d θ sx Fi Fl Fv) {x : Int32} {a0 a1 a2 a3 o : Option Value} {tl : LV} (dg : decode cc pc = .ok (.istore 4, 2)) (k : K (pc + 2) (a0 :: a1 :: a2 :: a3 :: some (.int x) :: tl) st S) (hh : nl1 a3 = true := by rfl) : K pc (a0 :: a1 :: a2 :: a3 :: o :: tl) (.int x :: st) S :=
  q_istoreg (i := 4) hC dg (by simp) (nlg_i (i := 3) rfl (nl1_ok hh)) k
theorem q_astore_4 (hC : Ok K cc own nL d θ sx Fi Fl Fv) {x : Nat} {a0 a1 a2 a3 o : Option Value} {tl : LV} (dg : decode cc pc = .ok (.astore 4, 2)) (k : K (pc + 2) (a0 :: a1 :: a2 :: a3 :: some (.ref x) :: tl) st S) (hh : nl1 a3 = true := by rfl) : K pc (a0 :: a1 :: a2 :: a3 :: o :: tl) (.ref x :: st) S :=
  q_astoreg (i := 4) hC dg (by simp) (nlg_i (i := 3) rfl (nl1_ok hh)) k
theorem q_lstore_4 (hC : Ok K cc own nL d θ sx Fi Fl Fv) {x : Int64} {a0 a1 a2 a3 o o2 : Option Value} {tl : LV} (dg : decode cc pc = .ok (.lstore 4, 2)) (k : K (pc + 2) (a0 :: a1 :: a2 :: a3 :: some (.long x) :: none :: tl) st S) (hh : nl1 a3 = true := by rfl) : K pc (a0 :: a1 :: a2 :: a3 :: o :: o2 :: tl) (.long x :: st) S :=
  q_lstoreg (i := 4) hC dg (by simp) (nlg_i (i := 3) rfl (nl1_ok hh)) k
theorem q_iinc_4 (hC : Ok K cc own nL d θ sx Fi Fl Fv) {n : Int} {x v : Int32} {a0 a1 a2 a3 : Option Value} {tl : LV} (dg : decode cc pc = .ok (.iinc 4 n, 3)) (hv : x + Int32.ofInt n = v) (k : K (pc + 3) (a0 :: a1 :: a2 :: a3 :: some (.int v) :: tl) st S) (hh : nl1 a3 = true := by rfl) : K pc (a0 :: a1 :: a2 :: a3 :: some (.int x) :: tl) st S :=
  q_iincg (i := 4) hC dg rfl hv (by simp) (nlg_i (i := 3) rfl (nl1_ok hh)) k
theorem q_istore_5 (hC : Ok K cc own nL d θ sx Fi Fl Fv) {x : Int32} {a0 a1 a2 a3 a4 o : Option Value} {tl : LV} (dg : decode cc pc = .ok (.istore 5, 2)) (k : K (pc + 2) (a0 :: a1 :: a2 :: a3 :: a4 :: some (.int x) :: tl) st S) (hh : nl1 a4 = true := by rfl) : K pc (a0 :: a1 :: a2 :: a3 :: a4 :: o :: tl) (.int x :: st) S :=
  q_istoreg (i := 5) hC dg (by simp) (nlg_i (i := 4) rfl (nl1_ok hh)) k
theorem q_astore_5 (hC : Ok K cc own nL d θ sx Fi Fl Fv) {x : Nat} {a0 a1 a2 a3 a4 o : Option Value} {tl : LV} (dg : decode cc pc = .ok (.astore 5, 2)) (k : K (pc + 2) (a0 :: a1 :: a2 :: a3 :: a4 :: some (.ref x) :: tl) st S) (hh : nl1 a4 = true := by rfl) : K pc (a0 :: a1 :: a2 :: a3 :: a4 :: o :: tl) (.ref x :: st) S :=
  q_astoreg (i := 5) hC dg (by simp) (nlg_i (i := 4) rfl (nl1_ok hh)) k
theorem q_lstore_5 (hC : Ok K cc own nL d θ sx Fi Fl Fv) {x : Int64} {a0 a1 a2 a3 a4 o o2 : Option Value} {tl : LV} (dg : decode cc pc = .ok (.lstore 5, 2)) (k : K (pc + 2) (a0 :: a1 :: a2 :: a3 :: a4 :: some (.long x) :: none :: tl) st S) (hh : nl1 a4 = true := by rfl) : K pc (a0 :: a1 :: a2 :: a3 :: a4 :: o :: o2 :: tl) (.long x :: st) S :=
  q_lstoreg (i := 5) hC dg (by simp) (nlg_i (i := 4) rfl (nl1_ok hh)) k
theorem q_iinc_5 (hC : Ok K cc own nL d θ sx Fi Fl Fv) {n : Int} {x v : Int32} {a0 a1 a2 a3 a4 : Option Value} {tl : LV} (dg : decode cc pc = .ok (.iinc 5 n, 3)) (hv : x + Int32.ofInt n = v) (k : K (pc + 3) (a0 :: a1 :: a2 :: a3 :: a4 :: some (.int v) :: tl) st S) (hh : nl1 a4 = true := by rfl) : K pc (a0 :: a1 :: a2 :: a3 :: a4 :: some (.int x) :: tl) st S :=
  q_iincg (i := 5) hC dg rfl hv (by simp) (nlg_i (i := 4) rfl (nl1_ok hh)) k
theorem q_istore_6 (hC : Ok K cc own nL d θ sx Fi Fl Fv) {x : Int32} {a0 a1 a2 a3 a4 a5 o : Option Value} {tl : LV} (dg : decode cc pc = .ok (.istore 6, 2)) (k : K (pc + 2) (a0 :: a1 :: a2 :: a3 :: a4 :: a5 :: some (.int x) :: tl) st S) (hh : nl1 a5 = true := by rfl) : K pc (a0 :: a1 :: a2 :: a3 :: a4 :: a5 :: o :: tl) (.int x :: st) S :=
  q_istoreg (i := 6) hC dg (by simp) (nlg_i (i := 5) rfl (nl1_ok hh)) k
theorem q_astore_6 (hC : Ok K cc own nL d θ sx Fi Fl Fv) {x : Nat} {a0 a1 a2 a3 a4 a5 o : Option Value} {tl : LV} (dg : decode cc pc = .ok (.astore 6, 2)) (k : K (pc + 2) (a0 :: a1 :: a2 :: a3 :: a4 :: a5 :: some (.ref x) :: tl) st S) (hh : nl1 a5 = true := by rfl) : K pc (a0 :: a1 :: a2 :: a3 :: a4 :: a5 :: o :: tl) (.ref x :: st) S :=
  q_astoreg (i := 6) hC dg (by simp) (nlg_i (i := 5) rfl (nl1_ok hh)) k
theorem q_lstore_6 (hC : Ok K cc own nL d θ sx Fi Fl Fv) {x : Int64} {a0 a1 a2 a3 a4 a5 o o2 : Option Value} {tl : LV} (dg : decode cc pc = .ok (.lstore 6, 2)) (k : K (pc + 2) (a0 :: a1 :: a2 :: a3 :: a4 :: a5 :: some (.long x) :: none :: tl) st S) (hh : nl1 a5 = true := by rfl) : K pc (a0 :: a1 :: a2 :: a3 :: a4 :: a5 :: o :: o2 :: tl) (.long x :: st) S :=
  q_lstoreg (i := 6) hC dg (by simp) (nlg_i (i := 5) rfl (nl1_ok hh)) k
theorem q_iinc_6 (hC : Ok K cc own nL d θ sx Fi Fl Fv) {n : Int} {x v : Int32} {a0 a1 a2 a3 a4 a5 : Option Value} {tl : LV} (dg : decode cc pc = .ok (.iinc 6 n, 3)) (hv : x + Int32.ofInt n = v) (k : K (pc + 3) (a0 :: a1 :: a2 :: a3 :: a4 :: a5 :: some (.int v) :: tl) st S) (hh : nl1 a5 = true := by rfl) : K pc (a0 :: a1 :: a2 :: a3 :: a4 :: a5 :: some (.int x) :: tl) st S :=
  q_iincg (i := 6) hC dg rfl hv (by simp) (nlg_i (i := 5) rfl (nl1_ok hh)) k
theorem q_istore_7 (hC : Ok K cc own nL d θ sx Fi Fl Fv) {x : Int32} {a0 a1 a2 a3 a4 a5 a6 o : Option Value} {tl : LV} (dg : decode cc pc = .ok (.istore 7, 2)) (k : K (pc + 2) (a0 :: a1 :: a2 :: a3 :: a4 :: a5 :: a6 :: some (.int x) :: tl) st S) (hh : nl1 a6 = true := by rfl) : K pc (a0 :: a1 :: a2 :: a3 :: a4 :: a5 :: a6 :: o :: tl) (.int x :: st) S :=
  q_istoreg (i := 7) hC dg (by simp) (nlg_i (i := 6) rfl (nl1_ok hh)) k
theorem q_astore_7 (hC : Ok K cc own nL d θ sx Fi Fl Fv) {x : Nat} {a0 a1 a2 a3 a4 a5 a6 o : Option Value} {tl : LV} (dg : decode cc pc = .ok (.astore 7, 2)) (k : K (pc + 2) (a0 :: a1 :: a2 :: a3 :: a4 :: a5 :: a6 :: some (.ref x) :: tl) st S) (hh : nl1 a6 = true := by rfl) : K pc (a0 :: a1 :: a2 :: a3 :: a4 :: a5 :: a6 :: o :: tl) (.ref x :: st) S :=
  q_astoreg (i := 7) hC dg (by simp) (nlg_i (i := 6) rfl (nl1_ok hh)) k
theorem q_lstore_7 (hC : Ok K cc own nL d θ sx Fi Fl Fv) {x : Int64} {a0 a1 a2 a3 a4 a5 a6 o o2 : Option Value} {tl : LV} (dg : decode cc pc = .ok (.lstore 7, 2)) (k : K (pc + 2) (a0 :: a1 :: a2 :: a3 :: a4 :: a5 :: a6 :: some (.long x) :: none :: tl) st S) (hh : nl1 a6 = true := by rfl) : K pc (a0 :: a1 :: a2 :: a3 :: a4 :: a5 :: a6 :: o :: o2 :: tl) (.long x :: st) S :=
  q_lstoreg (i := 7) hC dg (by simp) (nlg_i (i := 6) rfl (nl1_ok hh)) k
theorem q_iinc_7 (hC : Ok K cc own nL d θ sx Fi Fl Fv) {n : Int} {x v : Int32} {a0 a1 a2 a3 a4 a5 a6 : Option Value} {tl : LV} (dg : decode cc pc = .ok (.iinc 7 n, 3)) (hv : x + Int32.ofInt n = v) (k : K (pc + 3) (a0 :: a1 :: a2 :: a3 :: a4 :: a5 :: a6 :: some (.int v) :: tl) st S) (hh : nl1 a6 = true := by rfl) : K pc (a0 :: a1 :: a2 :: a3 :: a4 :: a5 :: a6 :: some (.int x) :: tl) st S :=
  q_iincg (i := 7) hC dg rfl hv (by simp) (nlg_i (i := 6) rfl (nl1_ok hh)) k
theorem q_istore_8 (hC : Ok K cc own nL d θ sx Fi Fl Fv) {x : Int32} {a0 a1 a2 a3 a4 a5 a6 a7 o : Option Value} {tl : LV} (dg : decode cc pc = .ok (.istore 8, 2)) (k : K (pc + 2) (a0 :: a1 :: a2 :: a3 :: a4 :: a5 :: a6 :: a7 :: some (.int x) :: tl) st S) (hh : nl1 a7 = true := by rfl) : K pc (a0 :: a1 :: a2 :: a3 :: a4 :: a5 :: a6 :: a7 :: o :: tl) (.int x :: st) S :=
  q_istoreg (i := 8) hC dg (by simp) (nlg_i (i := 7) rfl (nl1_ok hh)) k
theorem q_astore_8 (hC : Ok K cc own nL d θ sx Fi Fl Fv) {x : Nat} {a0 a1 a2 a3 a4 a5 a6 a7 o : Option Value} {tl : LV} (dg : decode cc pc = .ok (.astore 8, 2)) (k : K (pc + 2) (a0 :: a1 :: a2 :: a3 :: a4 :: a5 :: a6 :: a7 :: some (.ref x) :: tl) st S) (hh : nl1 a7 = true := by rfl) : K pc (a0 :: a1 :: a2 :: a3 :: a4 :: a5 :: a6 :: a7 :: o :: tl) (.ref x :: st) S :=
  q_astoreg (i := 8) hC dg (by simp) (nlg_i (i := 7) rfl (nl1_ok hh)) k
theorem q_lstore_8 (hC : Ok K cc own nL d θ sx Fi Fl Fv) {x : Int64} {a0 a1 a2 a3 a4 a5 a6 a7 o o2 : Option Value} {tl : LV} (dg : decode cc pc = .ok (.lstore 8, 2)) (k : K (pc + 2) (a0 :: a1 :: a2 :: a3 :: a4 :: a5 :: a6 :: a7 :: some (.long x) :: none :: tl) st S) (hh : nl1 a7 = true := by rfl) : K pc (a0 :: a1 :: a2 :: a3 :: a4 :: a5 :: a6 :: a7 :: o :: o2 :: tl) (.long x :: st) S :=
  q_lstoreg (i := 8) hC dg (by simp) (nlg_i (i := 7) rfl (nl1_ok hh)) k
theorem q_iinc_8 (hC : Ok K cc own nL d θ sx Fi Fl Fv) {n : Int} {x v : Int32} {a0 a1 a2 a3 a4 a5 a6 a7 : Option Value} {tl : LV} (dg : decode cc pc = .ok (.iinc 8 n, 3)) (hv : x + Int32.ofInt n = v) (k : K (pc + 3) (a0 :: a1 :: a2 :: a3 :: a4 :: a5 :: a6 :: a7 :: some (.int v) :: tl) st S) (hh : nl1 a7 = true := by rfl) : K pc (a0 :: a1 :: a2 :: a3 :: a4 :: a5 :: a6 :: a7 :: some (.int x) :: tl) st S :=
  q_iincg (i := 8) hC dg rfl hv (by simp) (nlg_i (i := 7) rfl (nl1_ok hh)) k
theorem q_istore_9 (hC : Ok K cc own nL d θ sx Fi Fl Fv) {x : Int32} {a0 a1 a2 a3 a4 a5 a6 a7 a8 o : Option Value} {tl : LV} (dg : decode cc pc = .ok (.istore 9, 2)) (k : K (pc + 2) (a0 :: a1 :: a2 :: a3 :: a4 :: a5 :: a6 :: a7 :: a8 :: some (.int x) :: tl) st S) (hh : nl1 a8 = true := by rfl) : K pc (a0 :: a1 :: a2 :: a3 :: a4 :: a5 :: a6 :: a7 :: a8 :: o :: tl) (.int x :: st) S :=
  q_istoreg (i := 9) hC dg (by simp) (nlg_i (i := 8) rfl (nl1_ok hh)) k
theorem q_astore_9 (hC : Ok K cc own nL d θ sx Fi Fl Fv) {x : Nat} {a0 a1 a2 a3 a4 a5 a6 a7 a8 o : Option Value} {tl : LV} (dg : decode cc pc = .ok (.astore 9, 2)) (k : K (pc + 2) (a0 :: a1 :: a2 :: a3 :: a4 :: a5 :: a6 :: a7 :: a8 :: some (.ref x) :: tl) st S) (hh : nl1 a8 = true := by rfl) : K pc (a0 :: a1 :: a2 :: a3 :: a4 :: a5 :: a6 :: a7 :: a8 :: o :: tl) (.ref x :: st) S :=
  q_astoreg (i := 9) hC dg (by simp) (nlg_i (i := 8) rfl (nl1_ok hh)) k
theorem q_lstore_9 (hC : Ok K cc own nL d θ sx Fi Fl Fv) {x : Int64} {a0 a1 a2 a3 a4 a5 a6 a7 a8 o o2 : Option Value} {tl : LV} (dg : decode cc pc = .ok (.lstore 9, 2)) (k : K (pc + 2) (a0 :: a1 :: a2 :: a3 :: a4 :: a5 :: a6 :: a7 :: a8 :: some (.long x) :: none :: tl) st S) (hh : nl1 a8 = true := by rfl) : K pc (a0 :: a1 :: a2 :: a3 :: a4 :: a5 :: a6 :: a7 :: a8 :: o :: o2 :: tl) (.long x :: st) S :=
  q_lstoreg (i := 9) hC dg (by simp) (nlg_i (i := 8) rfl (nl1_ok hh)) k
theorem q_iinc_9 (hC : Ok K cc own nL d θ sx Fi Fl Fv) {n : Int} {x v : Int32} {a0 a1 a2 a3 a4 a5 a6 a7 a8 : Option Value} {tl : LV} (dg : decode cc pc = .ok (.iinc 9 n, 3)) (hv : x + Int32.ofInt n = v) (k : K (pc + 3) (a0 :: a1 :: a2 :: a3 :: a4 :: a5 :: a6 :: a7 :: a8 :: some (.int v) :: tl) st S) (hh : nl1 a8 = true := by rfl) : K pc (a0 :: a1 :: a2 :: a3 :: a4 :: a5 :: a6 :: a7 :: a8 :: some (.int x) :: tl) st S :=
  q_iincg (i := 9) hC dg rfl hv (by simp) (nlg_i (i := 8) rfl (nl1_ok hh)) k
theorem q_istore_10 (hC : Ok K cc own nL d θ sx Fi Fl Fv) {x : Int32} {a0 a1 a2 a3 a4 a5 a6 a7 a8 a9 o : Option Value} {tl : LV} (dg : decode cc pc = .ok (.istore 10, 2)) (k : K (pc + 2) (a0 :: a1 :: a2 :: a3 :: a4 :: a5 :: a6 :: a7 :: a8 :: a9 :: some (.int x) :: tl) st S) (hh : nl1 a9 = true := by rfl) : K pc (a0 :: a1 :: a2 :: a3 :: a4 :: a5 :: a6 :: a7 :: a8 :: a9 :: o :: tl) (.int x :: st) S :=
  q_istoreg (i := 10) hC dg (by simp) (nlg_i (i := 9) rfl (nl1_ok hh)) k
theorem q_astore_10 (hC : Ok K cc own nL d θ sx Fi Fl Fv) {x : Nat} {a0 a1 a2 a3 a4 a5 a6 a7 a8 a9 o : Option Value} {tl : LV} (dg : decode cc pc = .ok (.astore 10, 2)) (k : K (pc + 2) (a0 :: a1 :: a2 :: a3 :: a4 :: a5 :: a6 :: a7 :: a8 :: a9 :: some (.ref x) :: tl) st S) (hh : nl1 a9 = true := by rfl) : K pc (a0 :: a1 :: a2 :: a3 :: a4 :: a5 :: a6 :: a7 :: a8 :: a9 :: o :: tl) (.ref x :: st) S :=
  q_astoreg (i := 10) hC dg (by simp) (nlg_i (i := 9) rfl (nl1_ok hh)) k
theorem q_lstore_10 (hC : Ok K cc own nL d θ sx Fi Fl Fv) {x : Int64} {a0 a1 a2 a3 a4 a5 a6 a7 a8 a9 o o2 : Option Value} {tl : LV} (dg : decode cc pc = .ok (.lstore 10, 2)) (k : K (pc + 2) (a0 :: a1 :: a2 :: a3 :: a4 :: a5 :: a6 :: a7 :: a8 :: a9 :: some (.long x) :: none :: tl) st S) (hh : nl1 a9 = true := by rfl) : K pc (a0 :: a1 :: a2 :: a3 :: a4 :: a5 :: a6 :: a7 :: a8 :: a9 :: o :: o2 :: tl) (.long x :: st) S :=
  q_lstoreg (i := 10) hC dg (by simp) (nlg_i (i := 9) rfl (nl1_ok hh)) k
theorem q_iinc_10 (hC : Ok K cc own nL d θ sx Fi Fl Fv) {n : Int} {x v : Int32} {a0 a1 a2 a3 a4 a5 a6 a7 a8 a9 : Option Value} {tl : LV} (dg : decode cc pc = .ok (.iinc 10 n, 3)) (hv : x + Int32.ofInt n = v) (k : K (pc + 3) (a0 :: a1 :: a2 :: a3 :: a4 :: a5 :: a6 :: a7 :: a8 :: a9 :: some (.int v) :: tl) st S) (hh : nl1 a9 = true := by rfl) : K pc (a0 :: a1 :: a2 :: a3 :: a4 :: a5 :: a6 :: a7 :: a8 :: a9 :: some (.int x) :: tl) st S :=
  q_iincg (i := 10) hC dg rfl hv (by simp) (nlg_i (i := 9) rfl (nl1_ok hh)) k
theorem q_istore_11 (hC : Ok K cc own nL d θ sx Fi Fl Fv) {x : Int32} {a0 a1 a2 a3 a4 a5 a6 a7 a8 a9 a10 o : Option Value} {tl : LV} (dg : decode cc pc = .ok (.istore 11, 2)) (k : K (pc + 2) (a0 :: a1 :: a2 :: a3 :: a4 :: a5 :: a6 :: a7 :: a8 :: a9 :: a10 :: some (.int x) :: tl) st S) (hh : nl1 a10 = true := by rfl) : K pc (a0 :: a1 :: a2 :: a3 :: a4 :: a5 :: a6 :: a7 :: a8 :: a9 :: a10 :: o :: tl) (.int x :: st) S :=
  q_istoreg (i := 11) hC dg (by simp) (nlg_i (i := 10) rfl (nl1_ok hh)) k
theorem q_astore_11 (hC : Ok K cc own nL d θ sx Fi Fl Fv) {x : Nat} {a0 a1 a2 a3 a4 a5 a6 a7 a8 a9 a10 o : Option Value} {tl : LV} (dg : decode cc pc = .ok (.astore 11, 2)) (k : K (pc + 2) (a0 :: a1 :: a2 :: a3 :: a4 :: a5 :: a6 :: a7 :: a8 :: a9 :: a10 :: some (.ref x) :: tl) st S) (hh : nl1 a10 = true := by rfl) : K pc (a0 :: a1 :: a2 :: a3 :: a4 :: a5 :: a6 :: a7 :: a8 :: a9 :: a10 :: o :: tl) (.ref x :: st) S :=
  q_astoreg (i := 11) hC dg (by simp) (nlg_i (i := 10) rfl (nl1_ok hh)) k
theorem q_lstore_11 (hC : Ok K cc own nL d θ sx Fi Fl Fv) {x : Int64} {a0 a1 a2 a3 a4 a5 a6 a7 a8 a9 a10 o o2 : Option Value} {tl : LV} (dg : decode cc pc = .ok (.lstore 11, 2)) (k : K (pc + 2) (a0 :: a1 :: a2 :: a3 :: a4 :: a5 :: a6 :: a7 :: a8 :: a9 :: a10 :: some (.long x) :: none :: tl) st S) (hh : nl1 a10 = true := by rfl) : K pc (a0 :: a1 :: a2 :: a3 :: a4 :: a5 :: a6 :: a7 :: a8 :: a9 :: a10 :: o :: o2 :: tl) (.long x :: st) S :=
  q_lstoreg (i := 11) hC dg (by simp) (nlg_i (i := 10) rfl (nl1_ok hh)) k
theorem q_iinc_11 (hC : Ok K cc own nL d θ sx Fi Fl Fv) {n : Int} {x v : Int32} {a0 a1 a2 a3 a4 a5 a6 a7 a8 a9 a10 : Option Value} {tl : LV} (dg : decode cc pc = .ok (.iinc 11 n, 3)) (hv : x + Int32.ofInt n = v) (k : K (pc + 3) (a0 :: a1 :: a2 :: a3 :: a4 :: a5 :: a6 :: a7 :: a8 :: a9 :: a10 :: some (.int v) :: tl) st S) (hh : nl1 a10 = true := by rfl) : K pc (a0 :: a1 :: a2 :: a3 :: a4 :: a5 :: a6 :: a7 :: a8 :: a9 :: a10 :: some (.int x) :: tl) st S :=
  q_iincg (i := 11) hC dg rfl hv (by simp) (nlg_i (i := 10) rfl (nl1_ok hh)) k
theorem q_istore_12 (hC : Ok K cc own nL d θ sx Fi Fl Fv) {x : Int32} {a0 a1 a2 a3 a4 a5 a6 a7 a8 a9 a10 a11 o : Option Value} {tl : LV} (dg : decode cc pc = .ok (.istore 12, 2)) (k : K (pc + 2) (a0 :: a1 :: a2 :: a3 :: a4 :: a5 :: a6 :: a7 :: a8 :: a9 :: a10 :: a11 :: some (.int x) :: tl) st S) (hh : nl1 a11 = true := by rfl) : K pc (a0 :: a1 :: a2 :: a3 :: a4 :: a5 :: a6 :: a7 :: a8 :: a9 :: a10 :: a11 :: o :: tl) (.int x :: st) S :=
  q_istoreg (i := 12) hC dg (by simp) (nlg_i (i := 11) rfl (nl1_ok hh)) k
theorem q_astore_12 (hC : Ok K cc own nL d θ sx Fi Fl Fv) {x : Nat} {a0 a1 a2 a3 a4 a5 a6 a7 a8 a9 a10 a11 o : Option Value} {tl : LV} (dg : decode cc pc = .ok (.astore 12, 2)) (k : K (pc + 2) (a0 :: a1 :: a2 :: a3 :: a4 :: a5 :: a6 :: a7 :: a8 :: a9 :: a10 :: a11 :: some (.ref x) :: tl) st S) (hh : nl1 a11 = true := by rfl) : K pc (a0 :: a1 :: a2 :: a3 :: a4 :: a5 :: a6 :: a7 :: a8 :: a9 :: a10 :: a11 :: o :: tl) (.ref x :: st) S :=
  q_astoreg (i := 12) hC dg (by simp) (nlg_i (i := 11) rfl (nl1_ok hh)) k
theorem q_lstore_12 (hC : Ok K cc own nL d θ sx Fi Fl Fv) {x : Int64} {a0 a1 a2 a3 a4 a5 a6 a7 a8 a9 a10 a11 o o2 : Option Value} {tl : LV} (dg : decode cc pc = .ok (.lstore 12, 2)) (k : K (pc + 2) (a0 :: a1 :: a2 :: a3 :: a4 :: a5 :: a6 :: a7 :: a8 :: a9 :: a10 :: a11 :: some (.long x) :: none :: tl) st S) (hh : nl1 a11 = true := by rfl) : K pc (a0 :: a1 :: a2 :: a3 :: a4 :: a5 :: a6 :: a7 :: a8 :: a9 :: a10 :: a11 :: o :: o2 :: tl) (.long x :: st) S :=
  q_lstoreg (i := 12) hC dg (by simp) (nlg_i (i := 11) rfl (nl1_ok hh)) k
theorem q_iinc_12 (hC : Ok K cc own nL d θ sx Fi Fl Fv) {n : Int} {x v : Int32} {a0 a1 a2 a3 a4 a5 a6 a7 a8 a9 a10 a11 : Option Value} {tl : LV} (dg : decode cc pc = .ok (.iinc 12 n, 3)) (hv : x + Int32.ofInt n = v) (k : K (pc + 3) (a0 :: a1 :: a2 :: a3 :: a4 :: a5 :: a6 :: a7 :: a8 :: a9 :: a10 :: a11 :: some (.int v) :: tl) st S) (hh : nl1 a11 = true := by rfl) : K pc (a0 :: a1 :: a2 :: a3 :: a4 :: a5 :: a6 :: a7 :: a8 :: a9 :: a10 :: a11 :: some (.int x) :: tl) st S :=
  q_iincg (i := 12) hC dg rfl hv (by simp) (nlg_i (i := 11) rfl (nl1_ok hh)) k
theorem q_istore_13 (hC : Ok K cc own nL d θ sx Fi Fl Fv) {x : Int32} {a0 a1 a2 a3 a4 a5 a6 a7 a8 a9 a10 a11 a12 o : Option Value} {tl : LV} (dg : decode cc pc = .ok (.istore 13, 2)) (k : K (pc + 2) (a0 :: a1 :: a2 :: a3 :: a4 :: a5 :: a6 :: a7 :: a8 :: a9 :: a10 :: a11 :: a12 :: some (.int x) :: tl) st S) (hh : nl1 a12 = true := by rfl) : K pc (a0 :: a1 :: a2 :: a3 :: a4 :: a5 :: a6 :: a7 :: a8 :: a9 :: a10 :: a11 :: a12 :: o :: tl) (.int x :: st) S :=
  q_istoreg (i := 13) hC dg (by simp) (nlg_i (i := 12) rfl (nl1_ok hh)) k
theorem q_astore_13 (hC : Ok K cc own nL d θ sx Fi Fl Fv) {x : Nat} {a0 a1 a2 a3 a4 a5 a6 a7 a8 a9 a10 a11 a12 o : Option Value} {tl : LV} (dg : decode cc pc = .ok (.astore 13, 2)) (k : K (pc + 2) (a0 :: a1 :: a2 :: a3 :: a4 :: a5 :: a6 :: a7 :: a8 :: a9 :: a10 :: a11 :: a12 :: some (.ref x) :: tl) st S) (hh : nl1 a12 = true := by rfl) : K pc (a0 :: a1 :: a2 :: a3 :: a4 :: a5 :: a6 :: a7 :: a8 :: a9 :: a10 :: a11 :: a12 :: o :: tl) (.ref x :: st) S :=
  q_astoreg (i := 13) hC dg (by simp) (nlg_i (i := 12) rfl (nl1_ok hh)) k
theorem q_lstore_13 (hC : Ok K cc own nL d θ sx Fi Fl Fv) {x : Int64} {a0 a1 a2 a3 a4 a5 a6 a7 a8 a9 a10 a11 a12 o o2 : Option Value} {tl : LV} (dg : decode cc pc = .ok (.lstore 13, 2)) (k : K (pc + 2) (a0 :: a1 :: a2 :: a3 :: a4 :: a5 :: a6 :: a7 :: a8 :: a9 :: a10 :: a11 :: a12 :: some (.long x) :: none :: tl) st S) (hh : nl1 a12 = true := by rfl) : K pc (a0 :: a1 :: a2 :: a3 :: a4 :: a5 :: a6 :: a7 :: a8 :: a9 :: a10 :: a11 :: a12 :: o :: o2 :: tl) (.long x :: st) S :=
  q_lstoreg (i := 13) hC dg (by simp) (nlg_i (i := 12) rfl (nl1_ok hh)) k
theorem q_iinc_13 (hC : Ok K cc own nL d θ sx Fi Fl Fv) {n : Int} {x v : Int32} {a0 a1 a2 a3 a4 a5 a6 a7 a8 a9 a10 a11 a12 : Option Value} {tl : LV} (dg : decode cc pc = .ok (.iinc 13 n, 3)) (hv : x + Int32.ofInt n = v) (k : K (pc + 3) (a0 :: a1 :: a2 :: a3 :: a4 :: a5 :: a6 :: a7 :: a8 :: a9 :: a10 :: a11 :: a12 :: some (.int v) :: tl) st S) (hh : nl1 a12 = true := by rfl) : K pc (a0 :: a1 :: a2 :: a3 :: a4 :: a5 :: a6 :: a7 :: a8 :: a9 :: a10 :: a11 :: a12 :: some (.int x) :: tl) st S :=
  q_iincg (i := 13) hC dg rfl hv (by simp) (nlg_i (i := 12) rfl (nl1_ok hh)) k
theorem q_istore_14 (hC : Ok K cc own nL d θ sx Fi Fl Fv) {x : Int32} {a0 a1 a2 a3 a4 a5 a6 a7 a8 a9 a10 a11 a12 a13 o : Option Value} {tl : LV} (dg : decode cc pc = .ok (.istore 14, 2)) (k : K (pc + 2) (a0 :: a1 :: a2 :: a3 :: a4 :: a5 :: a6 :: a7 :: a8 :: a9 :: a10 :: a11 :: a12 :: a13 :: some (.int x) :: tl) st S) (hh : nl1 a13 = true := by rfl) : K pc (a0 :: a1 :: a2 :: a3 :: a4 :: a5 :: a6 :: a7 :: a8 :: a9 :: a10 :: a11 :: a12 :: a13 :: o :: tl) (.int x :: st) S :=
  q_istoreg (i := 14) hC dg (by simp) (nlg_i (i := 13) rfl (nl1_ok hh)) k
theorem q_astore_14 (hC : Ok K cc own nL d θ sx Fi Fl Fv) {x : Nat} {a0 a1 a2 a3 a4 a5 a6 a7 a8 a9 a10 a11 a12 a13 o : Option Value} {tl : LV} (dg : decode cc pc = .ok (.astore 14, 2)) (k : K (pc + 2) (a0 :: a1 :: a2 :: a3 :: a4 :: a5 :: a6 :: a7 :: a8 :: a9 :: a10 :: a11 :: a12 :: a13 :: some (.ref x) :: tl) st S) (hh : nl1 a13 = true := by rfl) : K pc (a0 :: a1 :: a2 :: a3 :: a4 :: a5 :: a6 :: a7 :: a8 :: a9 :: a10 :: a11 :: a12 :: a13 :: o :: tl) (.ref x :: st) S :=
  q_astoreg (i := 14) hC dg (by simp) (nlg_i (i := 13) rfl (nl1_ok hh)) k
theorem q_lstore_14 (hC : Ok K cc own nL d θ sx Fi Fl Fv) {x : Int64} {a0 a1 a2 a3 a4 a5 a6 a7 a8 a9 a10 a11 a12 a13 o o2 : Option Value} {tl : LV} (dg : decode cc pc = .ok (.lstore 14, 2)) (k : K (pc + 2) (a0 :: a1 :: a2 :: a3 :: a4 :: a5 :: a6 :: a7 :: a8 :: a9 :: a10 :: a11 :: a12 :: a13 :: some (.long x) :: none :: tl) st S) (hh : nl1 a13 = true := by rfl) : K pc (a0 :: a1 :: a2 :: a3 :: a4 :: a5 :: a6 :: a7 :: a8 :: a9 :: a10 :: a11 :: a12 :: a13 :: o :: o2 :: tl) (.long x :: st) S :=
  q_lstoreg (i := 14) hC dg (by simp) (nlg_i (i := 13) rfl (nl1_ok hh)) k
theorem q_iinc_14 (hC : Ok K cc own nL d θ sx Fi Fl Fv) {n : Int} {x v : Int32} {a0 a1 a2 a3 a4 a5 a6 a7 a8 a9 a10 a11 a12 a13 : Option Value} {tl : LV} (dg : decode cc pc = .ok (.iinc 14 n, 3)) (hv : x + Int32.ofInt n = v) (k : K (pc + 3) (a0 :: a1 :: a2 :: a3 :: a4 :: a5 :: a6 :: a7 :: a8 :: a9 :: a10 :: a11 :: a12 :: a13 :: some (.int v) :: tl) st S) (hh : nl1 a13 = true := by rfl) : K pc (a0 :: a1 :: a2 :: a3 :: a4 :: a5 :: a6 :: a7 :: a8 :: a9 :: a10 :: a11 :: a12 :: a13 :: some (.int x) :: tl) st S :=
  q_iincg (i := 14) hC dg rfl hv (by simp) (nlg_i (i := 13) rfl (nl1_ok hh)) k
theorem q_istore_15 (hC : Ok K cc own nL d θ sx Fi Fl Fv) {x : Int32} {a0 a1 a2 a3 a4 a5 a6 a7 a8 a9 a10 a11 a12 a13 a14 o : Option Value} {tl : LV} (dg : decode cc pc = .ok (.istore 15, 2)) (k : K (pc + 2) (a0 :: a1 :: a2 :: a3 :: a4 :: a5 :: a6 :: a7 :: a8 :: a9 :: a10 :: a11 :: a12 :: a13 :: a14 :: some (.int x) :: tl) st S) (hh : nl1 a14 = true := by rfl) : K pc (a0 :: a1 :: a2 :: a3 :: a4 :: a5 :: a6 :: a7 :: a8 :: a9 :: a10 :: a11 :: a12 :: a13 :: a14 :: o :: tl) (.int x :: st) S :=
  q_istoreg (i := 15) hC dg (by simp) (nlg_i (i := 14) rfl (nl1_ok hh)) k
theorem q_astore_15 (hC : Ok K cc own nL d θ sx Fi Fl Fv) {x : Nat} {a0 a1 a2 a3 a4 a5 a6 a7 a8 a9 a10 a11 a12 a13 a14 o : Option Value} {tl : LV} (dg : decode cc pc = .ok (.astore 15, 2)) (k : K (pc + 2) (a0 :: a1 :: a2 :: a3 :: a4 :: a5 :: a6 :: a7 :: a8 :: a9 :: a10 :: a11 :: a12 :: a13 :: a14 :: some (.ref x) :: tl) st S) (hh : nl1 a14 = true := by rfl) : K pc (a0 :: a1 :: a2 :: a3 :: a4 :: a5 :: a6 :: a7 :: a8 :: a9 :: a10 :: a11 :: a12 :: a13 :: a14 :: o :: tl) (.ref x :: st) S :=
  q_astoreg (i := 15) hC dg (by simp) (nlg_i (i := 14) rfl (nl1_ok hh)) k
theorem q_lstore_15 (hC : Ok K cc own nL d θ sx Fi Fl Fv) {x : Int64} {a0 a1 a2 a3 a4 a5 a6 a7 a8 a9 a10 a11 a12 a13 a14 o o2 : Option Value} {tl : LV} (dg : decode cc pc = .ok (.lstore 15, 2)) (k : K (pc + 2) (a0 :: a1 :: a2 :: a3 :: a4 :: a5 :: a6 :: a7 :: a8 :: a9 :: a10 :: a11 :: a12 :: a13 :: a14 :: some (.long x) :: none :: tl) st S) (hh : nl1 a14 = true := by rfl) : K pc (a0 :: a1 :: a2 :: a3 :: a4 :: a5 :: a6 :: a7 :: a8 :: a9 :: a10 :: a11 :: a12 :: a13 :: a14 :: o :: o2 :: tl) (.long x :: st) S :=
  q_lstoreg (i := 15) hC dg (by simp) (nlg_i (i := 14) rfl (nl1_ok hh)) k
theorem q_iinc_15 (hC : Ok K cc own nL d θ sx Fi Fl Fv) {n : Int} {x v : Int32} {a0 a1 a2 a3 a4 a5 a6 a7 a8 a9 a10 a11 a12 a13 a14 : Option Value} {tl : LV} (dg : decode cc pc = .ok (.iinc 15 n, 3)) (hv : x + Int32.ofInt n = v) (k : K (pc + 3) (a0 :: a1 :: a2 :: a3 :: a4 :: a5 :: a6 :: a7 :: a8 :: a9 :: a10 :: a11 :: a12 :: a13 :: a14 :: some (.int v) :: tl) st S) (hh : nl1 a14 = true := by rfl) : K pc (a0 :: a1 :: a2 :: a3 :: a4 :: a5 :: a6 :: a7 :: a8 :: a9 :: a10 :: a11 :: a12 :: a13 :: a14 :: some (.int x) :: tl) st S :=
  q_iincg (i := 15) hC dg rfl hv (by simp) (nlg_i (i := 14) rfl (nl1_ok hh)) k
theorem q_istore_16 (hC : Ok K cc own nL d θ sx Fi Fl Fv) {x : Int32} {a0 a1 a2 a3 a4 a5 a6 a7 a8 a9 a10 a11 a12 a13 a14 a15 o : Option Value} {tl : LV} (dg : decode cc pc = .ok (.istore 16, 2)) (k : K (pc + 2) (a0 :: a1 :: a2 :: a3 :: a4 :: a5 :: a6 :: a7 :: a8 :: a9 :: a10 :: a11 :: a12 :: a13 :: a14 :: a15 :: some (.int x) :: tl) st S) (hh : nl1 a15 = true := by rfl) : K pc (a0 :: a1 :: a2 :: a3 :: a4 :: a5 :: a6 :: a7 :: a8 :: a9 :: a10 :: a11 :: a12 :: a13 :: a14 :: a15 :: o :: tl) (.int x :: st) S :=
  q_istoreg (i := 16) hC dg (by simp) (nlg_i (i := 15) rfl (nl1_ok hh)) k
theorem q_astore_16 (hC : Ok K cc own nL d θ sx Fi Fl Fv) {x : Nat} {a0 a1 a2 a3 a4 a5 a6 a7 a8 a9 a10 a11 a12 a13 a14 a15 o : Option Value} {tl : LV} (dg : decode cc pc = .ok (.astore 16, 2)) (k : K (pc + 2) (a0 :: a1 :: a2 :: a3 :: a4 :: a5 :: a6 :: a7 :: a8 :: a9 :: a10 :: a11 :: a12 :: a13 :: a14 :: a15 :: some (.ref x) :: tl) st S) (hh : nl1 a15 = true := by rfl) : K pc (a0 :: a1 :: a2 :: a3 :: a4 :: a5 :: a6 :: a7 :: a8 :: a9 :: a10 :: a11 :: a12 :: a13 :: a14 :: a15 :: o :: tl) (.ref x :: st) S :=
  q_astoreg (i := 16) hC dg (by simp) (nlg_i (i := 15) rfl (nl1_ok hh)) k
theorem q_lstore_16 (hC : Ok K cc own nL d θ sx Fi Fl Fv) {x : Int64} {a0 a1 a2 a3 a4 a5 a6 a7 a8 a9 a10 a11 a12 a13 a14 a15 o o2 : Option Value} {tl : LV} (dg : decode cc pc = .ok (.lstore 16, 2)) (k : K (pc + 2) (a0 :: a1 :: a2 :: a3 :: a4 :: a5 :: a6 :: a7 :: a8 :: a9 :: a10 :: a11 :: a12 :: a13 :: a14 :: a15 :: some (.long x) :: none :: tl) st S) (hh : nl1 a15 = true := by rfl) : K pc (a0 :: a1 :: a2 :: a3 :: a4 :: a5 :: a6 :: a7 :: a8 :: a9 :: a10 :: a11 :: a12 :: a13 :: a14 :: a15 :: o :: o2 :: tl) (.long x :: st) S :=
  q_lstoreg (i := 16) hC dg (by simp) (nlg_i (i := 15) rfl (nl1_ok hh)) k
theorem q_iinc_16 (hC : Ok K cc own nL d θ sx Fi Fl Fv) {n : Int} {x v : Int32} {a0 a1 a2 a3 a4 a5 a6 a7 a8 a9 a10 a11 a12 a13 a14 a15 : Option Value} {tl : LV} (dg : decode cc pc = .ok (.iinc 16 n, 3)) (hv : x + Int32.ofInt n = v) (k : K (pc + 3) (a0 :: a1 :: a2 :: a3 :: a4 :: a5 :: a6 :: a7 :: a8 :: a9 :: a10 :: a11 :: a12 :: a13 :: a14 :: a15 :: some (.int v) :: tl) st S) (hh : nl1 a15 = true := by rfl) : K pc (a0 :: a1 :: a2 :: a3 :: a4 :: a5 :: a6 :: a7 :: a8 :: a9 :: a10 :: a11 :: a12 :: a13 :: a14 :: a15 :: some (.int x) :: tl) st S :=
  q_iincg (i := 16) hC dg rfl hv (by simp) (nlg_i (i := 15) rfl (nl1_ok hh)) k
theorem q_istore_17 (hC : Ok K cc own nL d θ sx Fi Fl Fv) {x : Int32} {a0 a1 a2 a3 a4 a5 a6 a7 a8 a9 a10 a11 a12 a13 a14 a15 a16 o : Option Value} {tl : LV} (dg : decode cc pc = .ok (.istore 17, 2)) (k : K (pc + 2) (a0 :: a1 :: a2 :: a3 :: a4 :: a5 :: a6 :: a7 :: a8 :: a9 :: a10 :: a11 :: a12 :: a13 :: a14 :: a15 :: a16 :: some (.int x) :: tl) st S) (hh : nl1 a16 = true := by rfl) : K pc (a0 :: a1 :: a2 :: a3 :: a4 :: a5 :: a6 :: a7 :: a8 :: a9 :: a10 :: a11 :: a12 :: a13 :: a14 :: a15 :: a16 :: o :: tl) (.int x :: st) S :=
  q_istoreg (i := 17) hC dg (by simp) (nlg_i (i := 16) rfl (nl1_ok hh)) k
theorem q_astore_17 (hC : Ok K cc own nL d θ sx Fi Fl Fv) {x : Nat} {a0 a1 a2 a3 a4 a5 a6 a7 a8 a9 a10 a11 a12 a13 a14 a15 a16 o : Option Value} {tl : LV} (dg : decode cc pc = .ok (.astore 17, 2)) (k : K (pc + 2) (a0 :: a1 :: a2 :: a3 :: a4 :: a5 :: a6 :: a7 :: a8 :: a9 :: a10 :: a11 :: a12 :: a13 :: a14 :: a15 :: a16 :: some (.ref x) :: tl) st S) (hh : nl1 a16 = true := by rfl) : K pc (a0 :: a1 :: a2 :: a3 :: a4 :: a5 :: a6 :: a7 :: a8 :: a9 :: a10 :: a11 :: a12 :: a13 :: a14 :: a15 :: a16 :: o :: tl) (.ref x :: st) S :=
  q_astoreg (i := 17) hC dg (by simp) (nlg_i (i := 16) rfl (nl1_ok hh)) k
theorem q_lstore_17 (hC : Ok K cc own nL d θ sx Fi Fl Fv) {x : Int64} {a0 a1 a2 a3 a4 a5 a6 a7 a8 a9 a10 a11 a12 a13 a14 a15 a16 o o2 : Option Value} {tl : LV} (dg : decode cc pc = .ok (.lstore 17, 2)) (k : K (pc + 2) (a0 :: a1 :: a2 :: a3 :: a4 :: a5 :: a6 :: a7 :: a8 :: a9 :: a10 :: a11 :: a12 :: a13 :: a14 :: a15 :: a16 :: some (.long x) :: none :: tl) st S) (hh : nl1 a16 = true := by rfl) : K pc (a0 :: a1 :: a2 :: a3 :: a4 :: a5 :: a6 :: a7 :: a8 :: a9 :: a10 :: a11 :: a12 :: a13 :: a14 :: a15 :: a16 :: o :: o2 :: tl) (.long x :: st) S :=
  q_lstoreg (i := 17) hC dg (by simp) (nlg_i (i := 16) rfl (nl1_ok hh)) k
theorem q_iinc_17 (hC : Ok K cc own nL d θ sx Fi Fl Fv) {n : Int} {x v : Int32} {a0 a1 a2 a3 a4 a5 a6 a7 a8 a9 a10 a11 a12 a13 a14 a15 a16 : Option Value} {tl : LV} (dg : decode cc pc = .ok (.iinc 17 n, 3)) (hv : x + Int32.ofInt n = v) (k : K (pc + 3) (a0 :: a1 :: a2 :: a3 :: a4 :: a5 :: a6 :: a7 :: a8 :: a9 :: a10 :: a11 :: a12 :: a13 :: a14 :: a15 :: a16 :: some (.int v) :: tl) st S) (hh : nl1 a16 = true := by rfl) : K pc (a0 :: a1 :: a2 :: a3 :: a4 :: a5 :: a6 :: a7 :: a8 :: a9 :: a10 :: a11 :: a12 :: a13 :: a14 :: a15 :: a16 :: some (.int x) :: tl) st S :=
  q_iincg (i := 17) hC dg rfl hv (by simp) (nlg_i (i := 16) rfl (nl1_ok hh)) k
theorem q_istore_18 (hC : Ok K cc own nL d θ sx Fi Fl Fv) {x : Int32} {a0 a1 a2 a3 a4 a5 a6 a7 a8 a9 a10 a11 a12 a13 a14 a15 a16 a17 o : Option Value} {tl : LV} (dg : decode cc pc = .ok (.istore 18, 2)) (k : K (pc + 2) (a0 :: a1 :: a2 :: a3 :: a4 :: a5 :: a6 :: a7 :: a8 :: a9 :: a10 :: a11 :: a12 :: a13 :: a14 :: a15 :: a16 :: a17 :: some (.int x) :: tl) st S) (hh : nl1 a17 = true := by rfl) : K pc (a0 :: a1 :: a2 :: a3 :: a4 :: a5 :: a6 :: a7 :: a8 :: a9 :: a10 :: a11 :: a12 :: a13 :: a14 :: a15 :: a16 :: a17 :: o :: tl) (.int x :: st) S :=
  q_istoreg (i := 18) hC dg (by simp) (nlg_i (i := 17) rfl (nl1_ok hh)) k
theorem q_astore_18 (hC : Ok K cc own nL d θ sx Fi Fl Fv) {x : Nat} {a0 a1 a2 a3 a4 a5 a6 a7 a8 a9 a10 a11 a12 a13 a14 a15 a16 a17 o : Option Value} {tl : LV} (dg : decode cc pc = .ok (.astore 18, 2)) (k : K (pc + 2) (a0 :: a1 :: a2 :: a3 :: a4 :: a5 :: a6 :: a7 :: a8 :: a9 :: a10 :: a11 :: a12 :: a13 :: a14 :: a15 :: a16 :: a17 :: some (.ref x) :: tl) st S) (hh : nl1 a17 = true := by rfl) : K pc (a0 :: a1 :: a2 :: a3 :: a4 :: a5 :: a6 :: a7 :: a8 :: a9 :: a10 :: a11 :: a12 :: a13 :: a14 :: a15 :: a16 :: a17 :: o :: tl) (.ref x :: st) S :=
  q_astoreg (i := 18) hC dg (by simp) (nlg_i (i := 17) rfl (nl1_ok hh)) k
theorem q_lstore_18 (hC : Ok K cc own nL d θ sx Fi Fl Fv) {x : Int64} {a0 a1 a2 a3 a4 a5 a6 a7 a8 a9 a10 a11 a12 a13 a14 a15 a16 a17 o o2 : Option Value} {tl : LV} (dg : decode cc pc = .ok (.lstore 18, 2)) (k : K (pc + 2) (a0 :: a1 :: a2 :: a3 :: a4 :: a5 :: a6 :: a7 :: a8 :: a9 :: a10 :: a11 :: a12 :: a13 :: a14 :: a15 :: a16 :: a17 :: some (.long x) :: none :: tl) st S) (hh : nl1 a17 = true := by rfl) : K pc (a0 :: a1 :: a2 :: a3 :: a4 :: a5 :: a6 :: a7 :: a8 :: a9 :: a10 :: a11 :: a12 :: a13 :: a14 :: a15 :: a16 :: a17 :: o :: o2 :: tl) (.long x :: st) S :=
  q_lstoreg (i := 18) hC dg (by simp) (nlg_i (i := 17) rfl (nl1_ok hh)) k
theorem q_iinc_18 (hC : Ok K cc own nL d θ sx Fi Fl Fv) {n : Int} {x v : Int32} {a0 a1 a2 a3 a4 a5 a6 a7 a8 a9 a10 a11 a12 a13 a14 a15 a16 a17 : Option Value} {tl : LV} (dg : decode cc pc = .ok (.iinc 18 n, 3)) (hv : x + Int32.ofInt n = v) (k : K (pc + 3) (a0 :: a1 :: a2 :: a3 :: a4 :: a5 :: a6 :: a7 :: a8 :: a9 :: a10 :: a11 :: a12 :: a13 :: a14 :: a15 :: a16 :: a17 :: some (.int v) :: tl) st S) (hh : nl1 a17 = true := by rfl) : K pc (a0 :: a1 :: a2 :: a3 :: a4 :: a5 :: a6 :: a7 :: a8 :: a9 :: a10 :: a11 :: a12 :: a13 :: a14 :: a15 :: a16 :: a17 :: some (.int x) :: tl) st S :=
  q_iincg (i := 18) hC dg rfl hv (by simp) (nlg_i (i := 17) rfl (nl1_ok hh)) k
theorem q_istore_19 (hC : Ok K cc own nL d θ sx Fi Fl Fv) {x : Int32} {a0 a1 a2 a3 a4 a5 a6 a7 a8 a9 a10 a11 a12 a13 a14 a15 a16 a17 a18 o : Option Value} {tl : LV} (dg : decode cc pc = .ok (.istore 19, 2)) (k : K (pc + 2) (a0 :: a1 :: a2 :: a3 :: a4 :: a5 :: a6 :: a7 :: a8 :: a9 :: a10 :: a11 :: a12 :: a13 :: a14 :: a15 :: a16 :: a17 :: a18 :: some (.int x) :: tl) st S) (hh : nl1 a18 = true := by rfl) : K pc (a0 :: a1 :: a2 :: a3 :: a4 :: a5 :: a6 :: a7 :: a8 :: a9 :: a10 :: a11 :: a12 :: a13 :: a14 :: a15 :: a16 :: a17 :: a18 :: o :: tl) (.int x :: st) S :=
  q_istoreg (i := 19) hC dg (by simp) (nlg_i (i := 18) rfl (nl1_ok hh)) k
theorem q_astore_19 (hC : Ok K cc own nL d θ sx Fi Fl Fv) {x : Nat} {a0 a1 a2 a3 a4 a5 a6 a7 a8 a9 a10 a11 a12 a13 a14 a15 a16 a17 a18 o : Option Value} {tl : LV} (dg : decode cc pc = .ok (.astore 19, 2)) (k : K (pc + 2) (a0 :: a1 :: a2 :: a3 :: a4 :: a5 :: a6 :: a7 :: a8 :: a9 :: a10 :: a11 :: a12 :: a13 :: a14 :: a15 :: a16 :: a17 :: a18 :: some (.ref x) :: tl) st S) (hh : nl1 a18 = true := by rfl) : K pc (a0 :: a1 :: a2 :: a3 :: a4 :: a5 :: a6 :: a7 :: a8 :: a9 :: a10 :: a11 :: a12 :: a13 :: a14 :: a15 :: a16 :: a17 :: a18 :: o :: tl) (.ref x :: st) S :=
  q_astoreg (i := 19) hC dg (by simp) (nlg_i (i := 18) rfl (nl1_ok hh)) k
theorem q_lstore_19 (hC : Ok K cc own nL d θ sx Fi Fl Fv) {x : Int64} {a0 a1 a2 a3 a4 a5 a6 a7 a8 a9 a10 a11 a12 a13 a14 a15 a16 a17 a18 o o2 : Option Value} {tl : LV} (dg : decode cc pc = .ok (.lstore 19, 2)) (k : K (pc + 2) (a0 :: a1 :: a2 :: a3 :: a4 :: a5 :: a6 :: a7 :: a8 :: a9 :: a10 :: a11 :: a12 :: a13 :: a14 :: a15 :: a16 :: a17 :: a18 :: some (.long x) :: none :: tl) st S) (hh : nl1 a18 = true := by rfl) : K pc (a0 :: a1 :: a2 :: a3 :: a4 :: a5 :: a6 :: a7 :: a8 :: a9 :: a10 :: a11 :: a12 :: a13 :: a14 :: a15 :: a16 :: a17 :: a18 :: o :: o2 :: tl) (.long x :: st) S :=
  q_lstoreg (i := 19) hC dg (by simp) (nlg_i (i := 18) rfl (nl1_ok hh)) k
theorem q_iinc_19 (hC : Ok K cc own nL d θ sx Fi Fl Fv) {n : Int} {x v : Int32} {a0 a1 a2 a3 a4 a5 a6 a7 a8 a9 a10 a11 a12 a13 a14 a15 a16 a17 a18 : Option Value} {tl : LV} (dg : decode cc pc = .ok (.iinc 19 n, 3)) (hv : x + Int32.ofInt n = v) (k : K (pc + 3) (a0 :: a1 :: a2 :: a3 :: a4 :: a5 :: a6 :: a7 :: a8 :: a9 :: a10 :: a11 :: a12 :: a13 :: a14 :: a15 :: a16 :: a17 :: a18 :: some (.int v) :: tl) st S) (hh : nl1 a18 = true := by rfl) : K pc (a0 :: a1 :: a2 :: a3 :: a4 :: a5 :: a6 :: a7 :: a8 :: a9 :: a10 :: a11 :: a12 :: a13 :: a14 :: a15 :: a16 :: a17 :: a18 :: some (.int x) :: tl) st S :=
  q_iincg (i := 19) hC dg rfl hv (by simp) (nlg_i (i := 18) rfl (nl1_ok hh)) k
theorem q_istore_20 (hC : Ok K cc own nL d θ sx Fi Fl Fv) {x : Int32} {a0 a1 a2 a3 a4 a5 a6 a7 a8 a9 a10 a11 a12 a13 a14 a15 a16 a17 a18 a19 o : Option Value} {tl : LV} (dg : decode cc pc = .ok (.istore 20, 2)) (k : K (pc + 2) (a0 :: a1 :: a2 :: a3 :: a4 :: a5 :: a6 :: a7 :: a8 :: a9 :: a10 :: a11 :: a12 :: a13 :: a14 :: a15 :: a16 :: a17 :: a18 :: a19 :: some (.int x) :: tl) st S) (hh : nl1 a19 = true := by rfl) : K pc (a0 :: a1 :: a2 :: a3 :: a4 :: a5 :: a6 :: a7 :: a8 :: a9 :: a10 :: a11 :: a12 :: a13 :: a14 :: a15 :: a16 :: a17 :: a18 :: a19 :: o :: tl) (.int x :: st) S :=
  q_istoreg (i := 20) hC dg (by simp) (nlg_i (i := 19) rfl (nl1_ok hh)) k
theorem q_astore_20 (hC : Ok K cc own nL d θ sx Fi Fl Fv) {x : Nat} {a0 a1 a2 a3 a4 a5 a6 a7 a8 a9 a10 a11 a12 a13 a14 a15 a16 a17 a18 a19 o : Option Value} {tl : LV} (dg : decode cc pc = .ok (.astore 20, 2)) (k : K (pc + 2) (a0 :: a1 :: a2 :: a3 :: a4 :: a5 :: a6 :: a7 :: a8 :: a9 :: a10 :: a11 :: a12 :: a13 :: a14 :: a15 :: a16 :: a17 :: a18 :: a19 :: some (.ref x) :: tl) st S) (hh : nl1 a19 = true := by rfl) : K pc (a0 :: a1 :: a2 :: a3 :: a4 :: a5 :: a6 :: a7 :: a8 :: a9 :: a10 :: a11 :: a12 :: a13 :: a14 :: a15 :: a16 :: a17 :: a18 :: a19 :: o :: tl) (.ref x :: st) S :=
  q_astoreg (i := 20) hC dg (by simp) (nlg_i (i := 19) rfl (nl1_ok hh)) k
theorem q_lstore_20 (hC : Ok K cc own nL d θ sx Fi Fl Fv) {x : Int64} {a0 a1 a2 a3 a4 a5 a6 a7 a8 a9 a10 a11 a12 a13 a14 a15 a16 a17 a18 a19 o o2 : Option Value} {tl : LV} (dg : decode cc pc = .ok (.lstore 20, 2)) (k : K (pc + 2) (a0 :: a1 :: a2 :: a3 :: a4 :: a5 :: a6 :: a7 :: a8 :: a9 :: a10 :: a11 :: a12 :: a13 :: a14 :: a15 :: a16 :: a17 :: a18 :: a19 :: some (.long x) :: none :: tl) st S) (hh : nl1 a19 = true := by rfl) : K pc (a0 :: a1 :: a2 :: a3 :: a4 :: a5 :: a6 :: a7 :: a8 :: a9 :: a10 :: a11 :: a12 :: a13 :: a14 :: a15 :: a16 :: a17 :: a18 :: a19 :: o :: o2 :: tl) (.long x :: st) S :=
  q_lstoreg (i := 20) hC dg (by simp) (nlg_i (i := 19) rfl (nl1_ok hh)) k
theorem q_iinc_20 (hC : Ok K cc own nL d θ sx Fi Fl Fv) {n : Int} {x v : Int32} {a0 a1 a2 a3 a4 a5 a6 a7 a8 a9 a10 a11 a12 a13 a14 a15 a16 a17 a18 a19 : Option Value} {tl : LV} (dg : decode cc pc = .ok (.iinc 20 n, 3)) (hv : x + Int32.ofInt n = v) (k : K (pc + 3) (a0 :: a1 :: a2 :: a3 :: a4 :: a5 :: a6 :: a7 :: a8 :: a9 :: a10 :: a11 :: a12 :: a13 :: a14 :: a15 :: a16 :: a17 :: a18 :: a19 :: some (.int v) :: tl) st S) (hh : nl1 a19 = true := by rfl) : K pc (a0 :: a1 :: a2 :: a3 :: a4 :: a5 :: a6 :: a7 :: a8 :: a9 :: a10 :: a11 :: a12 :: a13 :: a14 :: a15 :: a16 :: a17 :: a18 :: a19 :: some (.int x) :: tl) st S :=
  q_iincg (i := 20) hC dg rfl hv (by simp) (nlg_i (i := 19) rfl (nl1_ok hh)) k
theorem q_istore_21 (hC : Ok K cc own nL d θ sx Fi Fl Fv) {x : Int32} {a0 a1 a2 a3 a4 a5 a6 a7 a8 a9 a10 a11 a12 a13 a14 a15 a16 a17 a18 a19 a20 o : Option Value} {tl : LV} (dg : decode cc pc = .ok (.istore 21, 2)) (k : K (pc + 2) (a0 :: a1 :: a2 :: a3 :: a4 :: a5 :: a6 :: a7 :: a8 :: a9 :: a10 :: a11 :: a12 :: a13 :: a14 :: a15 :: a16 :: a17 :: a18 :: a19 :: a20 :: some (.int x) :: tl) st S) (hh : nl1 a20 = true := by rfl) : K pc (a0 :: a1 :: a2 :: a3 :: a4 :: a5 :: a6 :: a7 :: a8 :: a9 :: a10 :: a11 :: a12 :: a13 :: a14 :: a15 :: a16 :: a17 :: a18 :: a19 :: a20 :: o :: tl) (.int x :: st) S :=
  q_istoreg (i := 21) hC dg (by simp) (nlg_i (i := 20) rfl (nl1_ok hh)) k
theorem q_astore_21 (hC : Ok K cc own nL d θ sx Fi Fl Fv) {x : Nat} {a0 a1 a2 a3 a4 a5 a6 a7 a8 a9 a10 a11 a12 a13 a14 a15 a16 a17 a18 a19 a20 o : Option Value} {tl : LV} (dg : decode cc pc = .ok (.astore 21, 2)) (k : K (pc + 2) (a0 :: a1 :: a2 :: a3 :: a4 :: a5 :: a6 :: a7 :: a8 :: a9 :: a10 :: a11 :: a12 :: a13 :: a14 :: a15 :: a16 :: a17 :: a18 :: a19 :: a20 :: some (.ref x) :: tl) st S) (hh : nl1 a20 = true := by rfl) : K pc (a0 :: a1 :: a2 :: a3 :: a4 :: a5 :: a6 :: a7 :: a8 :: a9 :: a10 :: a11 :: a12 :: a13 :: a14 :: a15 :: a16 :: a17 :: a18 :: a19 :: a20 :: o :: tl) (.ref x :: st) S :=
  q_astoreg (i := 21) hC dg (by simp) (nlg_i (i := 20) rfl (nl1_ok hh)) k
theorem q_lstore_21 (hC : Ok K cc own nL d θ sx Fi Fl Fv) {x : Int64} {a0 a1 a2 a3 a4 a5 a6 a7 a8 a9 a10 a11 a12 a13 a14 a15 a16 a17 a18 a19 a20 o o2 : Option Value} {tl : LV} (dg : decode cc pc = .ok (.lstore 21, 2)) (k : K (pc + 2) (a0 :: a1 :: a2 :: a3 :: a4 :: a5 :: a6 :: a7 :: a8 :: a9 :: a10 :: a11 :: a12 :: a13 :: a14 :: a15 :: a16 :: a17 :: a18 :: a19 :: a20 :: some (.long x) :: none :: tl) st S) (hh : nl1 a20 = true := by rfl) : K pc (a0 :: a1 :: a2 :: a3 :: a4 :: a5 :: a6 :: a7 :: a8 :: a9 :: a10 :: a11 :: a12 :: a13 :: a14 :: a15 :: a16 :: a17 :: a18 :: a19 :: a20 :: o :: o2 :: tl) (.long x :: st) S :=
  q_lstoreg (i := 21) hC dg (by simp) (nlg_i (i := 20) rfl (nl1_ok hh)) k
theorem q_iinc_21 (hC : Ok K cc own nL d θ sx Fi Fl Fv) {n : Int} {x v : Int32} {a0 a1 a2 a3 a4 a5 a6 a7 a8 a9 a10 a11 a12 a13 a14 a15 a16 a17 a18 a19 a20 : Option Value} {tl : LV} (dg : decode cc pc = .ok (.iinc 21 n, 3)) (hv : x + Int32.ofInt n = v) (k : K (pc + 3) (a0 :: a1 :: a2 :: a3 :: a4 :: a5 :: a6 :: a7 :: a8 :: a9 :: a10 :: a11 :: a12 :: a13 :: a14 :: a15 :: a16 :: a17 :: a18 :: a19 :: a20 :: some (.int v) :: tl) st S) (hh : nl1 a20 = true := by rfl) : K pc (a0 :: a1 :: a2 :: a3 :: a4 :: a5 :: a6 :: a7 :: a8 :: a9 :: a10 :: a11 :: a12 :: a13 :: a14 :: a15 :: a16 :: a17 :: a18 :: a19 :: a20 :: some (.int x) :: tl) st S :=
  q_iincg (i := 21) hC dg rfl hv (by simp) (nlg_i (i := 20) rfl (nl1_ok hh)) k
/-- fewer locals are known -/
theorem q_weak {K : KT} {cc : ByteArray} {own : String} {nL d : Nat} {θ : Site} {sx : List Shp} {Fi : Int32 → St → Prop} {Fl : Int64 → St → Prop} {Fv : St → Prop} (hC : Ok K cc own nL d θ sx Fi Fl Fv) {lv lv' : LV} (hs : ∀ (i : Nat) (v : Value), lv'[i]? = some (some v) → lv[i]? = some (some v)) (hL : lv'.length = lv.length) (k : K pc lv' st S) : K pc lv st S := by
  obtain ⟨p, l, e, s, m, args, below, meth, c, Q, hx, hb, hml, hown, hts, hK, hJ, hE, ri, rl, rv, rfl⟩ := hC
  intro H locs ls hn hl hP hS
  exact k H locs ls (by omega) (lv_weak hl hs) hP hS
end RUL
