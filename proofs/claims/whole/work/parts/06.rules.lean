def rmD (d : Nat) : Room := { frames := d, cells := 0, slots := 0, locals := 80 * d }
def lwT : List Cond := lw_tbl.filter goodWord
theorem lwT_in {w : Cond} (h : w ∈ lwT) : w ∈ lw_tbl := (List.mem_filter.mp h).1
theorem tbl_good : lwT.all goodWord = true := List.all_eq_true.mpr (fun w h => (List.mem_filter.mp h).2)
theorem gTb {y : MethodName} {bs : ByteArray} {ml : Nat} {rt : Option FieldType} (h : Cond.code y bs ml rt ∈ lwT) : GoodIn lwT (.code y bs ml rt :: lwT) := by
  intro w hw
  have hm : w ∈ lwT := by
    rcases List.mem_cons.mp hw with rfl | hw
    · exact h
    · exact hw
  exact ⟨hm, good_of_word (List.all_eq_true.mp tbl_good w hm)⟩
def BP (θ : Site) (sx : List Shp) : St → State → Prop := fun S' t => va_P (sD θ) vwCl (GW θ sx S') t.heap
def PcW (θ : Site) (sx : List Shp) (sz : Nat) (av : List Value) (S : St) : Array Value → State → Prop := va_Pc av (fun U => U.heap.size = sz ∧ WlP θ sx sz S U)
/-- a method's contract: it returns an int (a long, nothing), and a state, with P -/
def Cti (y : MethodName) (bs : ByteArray) (ml : Nat) (rt : Option FieldType) (d : Nat) (θ : Site) (sx : List Shp) (av : List Value) (S : St) (P : Int32 → St → Prop) : Prop :=
  ∀ (l : Launch) (sz : Nat), Met l y (.code y bs ml rt :: lwT) (rmD d) (PcW θ sx sz av S) (va_Qi P (BP θ sx) (AA θ sx sz)) 0 0 (AA θ sx sz)
def Ctl (y : MethodName) (bs : ByteArray) (ml : Nat) (rt : Option FieldType) (d : Nat) (θ : Site) (sx : List Shp) (av : List Value) (S : St) (P : Int64 → St → Prop) : Prop :=
  ∀ (l : Launch) (sz : Nat), Met l y (.code y bs ml rt :: lwT) (rmD d) (PcW θ sx sz av S) (va_Ql P (BP θ sx) (AA θ sx sz)) 0 0 (AA θ sx sz)
def Ctv (y : MethodName) (bs : ByteArray) (ml : Nat) (rt : Option FieldType) (d : Nat) (θ : Site) (sx : List Shp) (av : List Value) (S : St) (P : St → Prop) : Prop :=
  ∀ (l : Launch) (sz : Nat), Met l y (.code y bs ml rt :: lwT) (rmD d) (PcW θ sx sz av S) (va_Qv P (BP θ sx) (AA θ sx sz)) 0 0 (AA θ sx sz)
theorem PcW_blind {θ : Site} {sx : List Shp} {sz : Nat} {av : List Value} {S : St} : FrameBlind (PcW θ sx sz av S) := by
  intro a U g mk h
  obtain ⟨h0, h1, h2, h3, h4, h5⟩ := h
  exact ⟨h0, h1, h2, va_K.moved (u := U) (U := U.calling g mk a) (Vm.Alike.refl U.vm) h3, h4, h5.same rfl rfl⟩
/-- what a walk stands on: the machine, the code, the words, the cells; K: 'from this frame and these cells the machine comes to the end' -/
def Ok (K : KT) (cc : ByteArray) (own : String) (nL d : Nat) (θ : Site) (sx : List Shp) (Fi : Int32 → St → Prop) (Fl : Int64 → St → Prop) (Fv : St → Prop) : Prop :=
  ∃ (p : Program) (l : Launch) (e : Env) (s : State) (m : MethodId) (args : Array Value) (below : List Frame) (meth : Method) (c : Code) (Q : State → Prop),
    p.tables.exec = Jvm.exec ∧ c.code = cc ∧ c.maxLocals = nL ∧ s.vm.findClass own = some m.cls ∧ (∀ w ∈ lwT, w.before args s = true) ∧ va_K (sD θ) vwCl (tyC θ) s ∧ DJ θ sx ∧ Env9 θ (AA θ sx s.heap.size) s s.heap ∧
    (∀ (pc : Nat) (ls : Array Slot) (v : Int32) (S : St) (H : Heap) (locs : List Loc), decode cc pc = .ok (.ireturn, 1) → Fi v S → va_P (sD θ) vwCl (GW θ sx S) H → va_S (AA θ sx s.heap.size) s.heap H locs → W p l e (rmD d) s m args below meth c H locs 0 0 Q (F0 m pc ls [.int v])) ∧
    (∀ (pc : Nat) (ls : Array Slot) (v : Int64) (S : St) (H : Heap) (locs : List Loc), decode cc pc = .ok (.lreturn, 1) → Fl v S → va_P (sD θ) vwCl (GW θ sx S) H → va_S (AA θ sx s.heap.size) s.heap H locs → W p l e (rmD d) s m args below meth c H locs 0 0 Q (F0 m pc ls [.long v])) ∧
    (∀ (pc : Nat) (ls : Array Slot) (S : St) (H : Heap) (locs : List Loc), decode cc pc = .ok (.return_, 1) → Fv S → va_P (sD θ) vwCl (GW θ sx S) H → va_S (AA θ sx s.heap.size) s.heap H locs → W p l e (rmD d) s m args below meth c H locs 0 0 Q (F0 m pc ls [])) ∧
    K = fun pc lv st S => ∀ (H : Heap) (locs : List Loc) (ls : Array Slot), lv.length = nL → lv_has ls nL (lvA 0 lv) → va_P (sD θ) vwCl (GW θ sx S) H → va_S (AA θ sx s.heap.size) s.heap H locs → W p l e (rmD d) s m args below meth c H locs 0 0 Q (F0 m pc ls st)
def enL : List Value → LV
  | [] => []
  | v :: vs => if v.category = 2 then some v :: none :: enL vs else some v :: enL vs
theorem enL_mem : ∀ (vs : List Value) (i : Nat) (pad : Nat) (q : Nat × Value), q ∈ lvA i (enL vs ++ List.replicate pad none) → q ∈ lv_args i vs
  | [], i, pad, q, h => by
    obtain ⟨j, v⟩ := q
    obtain ⟨d, h1, h2⟩ := (lvA_mem _ i j v).mp h
    simp only [enL, List.nil_append, List.getElem?_replicate] at h2
    split at h2 <;> simp at h2
  | v :: vs, i, pad, q, h => by
    simp only [enL] at h
    simp only [lv_args]
    split at h
    · rename_i hc
      rw [if_pos hc]
      simp only [List.cons_append, lvA, List.mem_cons] at h
      rcases h with h | h
      · rw [h]; exact List.mem_cons_self
      · exact List.mem_cons_of_mem _ (enL_mem vs _ pad q h)
    · rename_i hc
      rw [if_neg hc]
      simp only [List.cons_append, lvA, List.mem_cons] at h
      rcases h with h | h
      · rw [h]; exact List.mem_cons_self
      · exact List.mem_cons_of_mem _ (enL_mem vs _ pad q h)
theorem enL_has {vs : List Value} {n pad : Nat} {lv : LV} (hn : (lg_sl vs).length ≤ n) (h : enL vs ++ List.replicate pad none = lv) : lv_has ((lg_sl vs ++ List.replicate (n - (lg_sl vs).length) Slot.unset).toArray) n (lvA 0 lv) := by
  have h0 := lv_entry vs hn
  refine ⟨h0.1, h0.2.1, fun q hq => h0.2.2 q ?_⟩
  rw [← h] at hq
  exact enL_mem vs 0 pad q hq

theorem Cti.mk {y : MethodName} {bs : ByteArray} {ml d : Nat} {θ : Site} {sx : List Shp} {av : List Value} {S : St} {P : Int32 → St → Prop} {own : String} (pad : Nat) (lv : LV) (body : ∀ K, Ok K bs own ml d θ sx P (fun _ _ => False) (fun _ => False) → K 0 lv [] S) (hy : plainName y.cls = true := by decide) (hlv : enL av ++ List.replicate pad none = lv := by rfl) (hl : lv.length = ml := by rfl) (hn : (lg_sl av).length ≤ ml := by (first | exact Nat.le_of_ble_eq_true rfl | decide)) (ho : y.cls = own := by rfl) : Cti y bs ml (some .int) d θ sx av S P := by
  subst ho
  intro l sz
  refine Met.ofW (cc := bs) (maxL := ml) (ret := (some .int)) hy rfl ?_
  intro p e s m args below meth c s₁ B hml hv
  obtain ⟨hargs, hsz, hP, hK, hJ, hE⟩ := hv
  have hx := B.exec
  have hb := B.bytes
  have hr := B.returns
  have hts0 := atoms_spec (ws := .code y bs ml (some .int) :: lwT) B.pre
  have hts : ∀ w ∈ lwT, w.before args s = true := fun w hw => hts0 w (List.mem_cons_of_mem _ hw)
  have hown : s.vm.findClass y.cls = some m.cls := findClass_of_methodNamed B.named
  have hlocks := B.notSynchronized
  subst hsz
  have hgo := body (fun pc lv st S => ∀ (H : Heap) (locs : List Loc) (ls : Array Slot), lv.length = ml → lv_has ls ml (lvA 0 lv) → va_P (sD θ) vwCl (GW θ sx S) H → va_S (AA θ sx s.heap.size) s.heap H locs → W p l e (rmD d) s m args below meth c H locs 0 0 (MQ below (va_Qi P (BP θ sx) (AA θ sx s.heap.size)) args s 0 0 (AA θ sx s.heap.size)) (F0 m pc ls st))
    ⟨p, l, e, s, m, args, below, meth, c, _, hx, hb, hml, hown, hts, hK, hJ, hE, fun pc ls v S H locs hd hf hP hS => W.iret (v := v) hx hb hr (fun t ht hW => ⟨⟨v, S, rfl, hf, by show va_P _ _ _ t.heap; rw [ht]; exact hP⟩, hS.F ht⟩) hS.2.2 hd, fun _ _ _ _ _ _ _ h => h.elim, fun _ _ _ _ _ _ h => h.elim, rfl⟩
  rw [hargs, lg_entry_eq]
  rw [hargs] at hgo
  exact hgo s.heap [] _ hl (enL_has hn hlv) hP va_S.rf
theorem Cti.mkz {y : MethodName} {bs : ByteArray} {ml d : Nat} {θ : Site} {sx : List Shp} {av : List Value} {S : St} {P : Int32 → St → Prop} {rt : FieldType} {own : String} (pad : Nat) (lv : LV) (body : ∀ K, Ok K bs own ml d θ sx (fun v S => P v S ∧ narrow rt (.int v) = .int v) (fun _ _ => False) (fun _ => False) → K 0 lv [] S) (hy : plainName y.cls = true := by decide) (hlv : enL av ++ List.replicate pad none = lv := by rfl) (hl : lv.length = ml := by rfl) (hn : (lg_sl av).length ≤ ml := by (first | exact Nat.le_of_ble_eq_true rfl | decide)) (ho : y.cls = own := by rfl) : Cti y bs ml (some rt) d θ sx av S P := by
  subst ho
  intro l sz
  refine Met.ofW (cc := bs) (maxL := ml) (ret := (some rt)) hy rfl ?_
  intro p e s m args below meth c s₁ B hml hv
  obtain ⟨hargs, hsz, hP, hK, hJ, hE⟩ := hv
  have hx := B.exec
  have hb := B.bytes
  have hr := B.returns
  have hts0 := atoms_spec (ws := .code y bs ml (some rt) :: lwT) B.pre
  have hts : ∀ w ∈ lwT, w.before args s = true := fun w hw => hts0 w (List.mem_cons_of_mem _ hw)
  have hown : s.vm.findClass y.cls = some m.cls := findClass_of_methodNamed B.named
  have hlocks := B.notSynchronized
  subst hsz
  have hgo := body (fun pc lv st S => ∀ (H : Heap) (locs : List Loc) (ls : Array Slot), lv.length = ml → lv_has ls ml (lvA 0 lv) → va_P (sD θ) vwCl (GW θ sx S) H → va_S (AA θ sx s.heap.size) s.heap H locs → W p l e (rmD d) s m args below meth c H locs 0 0 (MQ below (va_Qi P (BP θ sx) (AA θ sx s.heap.size)) args s 0 0 (AA θ sx s.heap.size)) (F0 m pc ls st))
    ⟨p, l, e, s, m, args, below, meth, c, _, hx, hb, hml, hown, hts, hK, hJ, hE, fun pc ls v S H locs hd hf hP hS => W.zret (v := v) hx hb hr hf.2 (fun t ht hW => ⟨⟨v, S, rfl, hf.1, by show va_P _ _ _ t.heap; rw [ht]; exact hP⟩, hS.F ht⟩) hS.2.2 hd, fun _ _ _ _ _ _ _ h => h.elim, fun _ _ _ _ _ _ h => h.elim, rfl⟩
  rw [hargs, lg_entry_eq]
  rw [hargs] at hgo
  exact hgo s.heap [] _ hl (enL_has hn hlv) hP va_S.rf
theorem Ctl.mk {y : MethodName} {bs : ByteArray} {ml d : Nat} {θ : Site} {sx : List Shp} {av : List Value} {S : St} {P : Int64 → St → Prop} {own : String} (pad : Nat) (lv : LV) (body : ∀ K, Ok K bs own ml d θ sx (fun _ _ => False) P (fun _ => False) → K 0 lv [] S) (hy : plainName y.cls = true := by decide) (hlv : enL av ++ List.replicate pad none = lv := by rfl) (hl : lv.length = ml := by rfl) (hn : (lg_sl av).length ≤ ml := by (first | exact Nat.le_of_ble_eq_true rfl | decide)) (ho : y.cls = own := by rfl) : Ctl y bs ml (some .long) d θ sx av S P := by
  subst ho
  intro l sz
  refine Met.ofW (cc := bs) (maxL := ml) (ret := (some .long)) hy rfl ?_
  intro p e s m args below meth c s₁ B hml hv
  obtain ⟨hargs, hsz, hP, hK, hJ, hE⟩ := hv
  have hx := B.exec
  have hb := B.bytes
  have hr := B.returns
  have hts0 := atoms_spec (ws := .code y bs ml (some .long) :: lwT) B.pre
  have hts : ∀ w ∈ lwT, w.before args s = true := fun w hw => hts0 w (List.mem_cons_of_mem _ hw)
  have hown : s.vm.findClass y.cls = some m.cls := findClass_of_methodNamed B.named
  have hlocks := B.notSynchronized
  subst hsz
  have hgo := body (fun pc lv st S => ∀ (H : Heap) (locs : List Loc) (ls : Array Slot), lv.length = ml → lv_has ls ml (lvA 0 lv) → va_P (sD θ) vwCl (GW θ sx S) H → va_S (AA θ sx s.heap.size) s.heap H locs → W p l e (rmD d) s m args below meth c H locs 0 0 (MQ below (va_Ql P (BP θ sx) (AA θ sx s.heap.size)) args s 0 0 (AA θ sx s.heap.size)) (F0 m pc ls st))
    ⟨p, l, e, s, m, args, below, meth, c, _, hx, hb, hml, hown, hts, hK, hJ, hE, fun _ _ _ _ _ _ _ h => h.elim, fun pc ls v S H locs hd hf hP hS => W.lret (v := v) hx hb hr (fun t ht hW => ⟨⟨v, S, rfl, hf, by show va_P _ _ _ t.heap; rw [ht]; exact hP⟩, hS.F ht⟩) hS.2.2 hd, fun _ _ _ _ _ _ h => h.elim, rfl⟩
  rw [hargs, lg_entry_eq]
  rw [hargs] at hgo
  exact hgo s.heap [] _ hl (enL_has hn hlv) hP va_S.rf
theorem Ctv.mk {y : MethodName} {bs : ByteArray} {ml d : Nat} {θ : Site} {sx : List Shp} {av : List Value} {S : St} {P : St → Prop} {own : String} (pad : Nat) (lv : LV) (body : ∀ K, Ok K bs own ml d θ sx (fun _ _ => False) (fun _ _ => False) P → K 0 lv [] S) (hy : plainName y.cls = true := by decide) (hlv : enL av ++ List.replicate pad none = lv := by rfl) (hl : lv.length = ml := by rfl) (hn : (lg_sl av).length ≤ ml := by (first | exact Nat.le_of_ble_eq_true rfl | decide)) (ho : y.cls = own := by rfl) : Ctv y bs ml none d θ sx av S P := by
  subst ho
  intro l sz
  refine Met.ofW (cc := bs) (maxL := ml) (ret := none) hy rfl ?_
  intro p e s m args below meth c s₁ B hml hv
  obtain ⟨hargs, hsz, hP, hK, hJ, hE⟩ := hv
  have hx := B.exec
  have hb := B.bytes
  have hr := B.returns
  have hts0 := atoms_spec (ws := .code y bs ml none :: lwT) B.pre
  have hts : ∀ w ∈ lwT, w.before args s = true := fun w hw => hts0 w (List.mem_cons_of_mem _ hw)
  have hown : s.vm.findClass y.cls = some m.cls := findClass_of_methodNamed B.named
  have hlocks := B.notSynchronized
  subst hsz
  have hgo := body (fun pc lv st S => ∀ (H : Heap) (locs : List Loc) (ls : Array Slot), lv.length = ml → lv_has ls ml (lvA 0 lv) → va_P (sD θ) vwCl (GW θ sx S) H → va_S (AA θ sx s.heap.size) s.heap H locs → W p l e (rmD d) s m args below meth c H locs 0 0 (MQ below (va_Qv P (BP θ sx) (AA θ sx s.heap.size)) args s 0 0 (AA θ sx s.heap.size)) (F0 m pc ls st))
    ⟨p, l, e, s, m, args, below, meth, c, _, hx, hb, hml, hown, hts, hK, hJ, hE, fun _ _ _ _ _ _ _ h => h.elim, fun _ _ _ _ _ _ _ h => h.elim, fun pc ls S H locs hd hf hP hS => W.vret hx hb hr (fun t ht hW => ⟨⟨S, rfl, hf, by show va_P _ _ _ t.heap; rw [ht]; exact hP⟩, hS.F ht⟩) hS.2.2 hd, rfl⟩
  rw [hargs, lg_entry_eq]
  rw [hargs] at hgo
  exact hgo s.heap [] _ hl (enL_has hn hlv) hP va_S.rf

def FL (own : String) (idx ci j : Nat) : Prop := ∃ (C : String) (T : u_T) (N : Nat), vwCl[ci]? = some (C, T, N) ∧ j < N ∧ Cond.fieldLink own idx C (T j).2.1 (T j).2.2.1 ∈ lwT ∧ (T j).1 = C
def FP (own : String) (idx ci j : Nat) (ty : FieldType) : Prop := FL own idx ci j ∧ ∀ (C : String) (T : u_T) (N : Nat), vwCl[ci]? = some (C, T, N) → (T j).2.2.2 = false ∧ parseFieldDescriptor (T j).2.2.1 = some ty
theorem clW0 : ∀ q ∈ vwCl, ∀ w ∈ u_ws q.1 q.2.1 q.2.2, w ∈ lwT := by decide +kernel
theorem clW {ci N : Nat} {C : String} {T : u_T} (h : vwCl[ci]? = some (C, T, N)) : ∀ w ∈ u_ws C T N, w ∈ lwT := clW0 (C, T, N) (List.mem_of_getElem? h)
def tyAll : List (Nat → FieldType) := [tyX0, tyX1, tyX2, tyX3, tyX4, tyX5, tyX6, tyX7, tyX8, tyX9, tyX10]
theorem clT {ci N : Nat} {C : String} {T : u_T} (h : vwCl[ci]? = some (C, T, N)) : ∃ ty0 : Nat → FieldType, (∀ k, k < N → parseFieldDescriptor (T k).2.2.1 = some (ty0 k)) ∧ ∀ a, a < N → ∀ b, b < N → a ≠ b → (T a).2.1 ≠ (T b).2.1 := by
  match ci, h with
  | 0, h => cases h; exact ⟨tyX0, tyX0_ok, nmX0⟩
  | 1, h => cases h; exact ⟨tyX1, tyX1_ok, nmX1⟩
  | 2, h => cases h; exact ⟨tyX2, tyX2_ok, nmX2⟩
  | 3, h => cases h; exact ⟨tyX3, tyX3_ok, nmX3⟩
  | 4, h => cases h; exact ⟨tyX4, tyX4_ok, nmX4⟩
  | 5, h => cases h; exact ⟨tyX5, tyX5_ok, nmX5⟩
  | 6, h => cases h; exact ⟨tyX6, tyX6_ok, nmX6⟩
  | 7, h => cases h; exact ⟨tyX7, tyX7_ok, nmX7⟩
  | 8, h => cases h; exact ⟨tyX8, tyX8_ok, nmX8⟩
  | 9, h => cases h; exact ⟨tyX9, tyX9_ok, nmX9⟩
  | 10, h => cases h; exact ⟨tyX10, tyX10_ok, nmX10⟩
  | k + 11, h => simp [vwCl] at h
def CV (own : String) (idx : Nat) (y : MethodName) (bs : ByteArray) (ml : Nat) (rt : Option FieldType) (n ci : Nat) : Prop := Cond.code y bs ml rt ∈ lwT ∧ Cond.methodLink own idx y ∈ lwT ∧ Cond.instanceMethod y ∈ lwT ∧ Cond.selects y.cls y y ∈ lwT ∧ Cond.initialized y.cls ∈ lwT ∧ y.cls ≠ "java/lang/invoke/MethodHandle" ∧ y.cls ≠ "java/lang/invoke/VarHandle" ∧ (parseMethodDescriptor y.desc).map (fun d => d.parameters.length) = some n ∧ ml ≤ 60 ∧ ∃ (T : u_T) (N : Nat), vwCl[ci]? = some (y.cls, T, N)
def CSt (own : String) (idx : Nat) (y : MethodName) (bs : ByteArray) (ml : Nat) (rt : Option FieldType) (n : Nat) : Prop := Cond.code y bs ml rt ∈ lwT ∧ Cond.methodLink own idx y ∈ lwT ∧ Cond.static y ∈ lwT ∧ Cond.initialized y.cls ∈ lwT ∧ y.cls ≠ "java/lang/invoke/MethodHandle" ∧ y.cls ≠ "java/lang/invoke/VarHandle" ∧ (parseMethodDescriptor y.desc).map (fun d => d.parameters.length) = some n ∧ ml ≤ 60
theorem acN : Cond.native arraycopyName ∈ lwT := by decide +kernel
theorem acS : Cond.static arraycopyName ∈ lwT := by decide +kernel
theorem acI : Cond.initialized "java/lang/System" ∈ lwT := by decide +kernel
theorem acW : nativeFrameWords "java/lang/System" "arraycopy" 5 ≤ 61 := by decide +kernel
theorem mmaxS : Cond.static Lib.Math.max.name ∈ lwT := by decide +kernel
theorem mminS : Cond.static Lib.Math.min.name ∈ lwT := by decide +kernel
theorem mI : Cond.initialized "java/lang/Math" ∈ lwT := by decide +kernel
theorem mmaxC : Cond.code Lib.Math.max.name Lib.Math.max.code 2 (some .int) ∈ lwT := by decide +kernel
theorem mminC : Cond.code Lib.Math.min.name Lib.Math.min.code 2 (some .int) ∈ lwT := by decide +kernel

section RUL
variable {K : KT} {cc : ByteArray} {own : String} {nL d : Nat} {θ : Site} {sx : List Shp} {Fi : Int32 → St → Prop} {Fl : Int64 → St → Prop} {Fv : St → Prop} {pc : Nat} {lv : LV} {st : List Value} {S : St}
theorem q_iconst (hC : Ok K cc own nL d θ sx Fi Fl Fv) {n : Int} {v : Int32} (dg : decode cc pc = .ok (.iconst n, 1)) (hv : Int32.ofInt n = v) (k : K (pc + 1) lv (.int v :: st) S) : K pc lv (st) S := by
  obtain ⟨p, l, e, s, m, args, below, meth, c, Q, hx, hb, hml, hown, hts, hK, hJ, hE, ri, rl, rv, rfl⟩ := hC
  intro H locs ls hn hl hP hS
  exact lv_iconst hx hb dg hv (k H locs ls hn hl hP hS)
theorem q_bipush (hC : Ok K cc own nL d θ sx Fi Fl Fv) {n : Int} {v : Int32} (dg : decode cc pc = .ok (.bipush n, 2)) (hv : (Int8.ofInt n).toInt32 = v) (k : K (pc + 2) lv (.int v :: st) S) : K pc lv (st) S := by
  obtain ⟨p, l, e, s, m, args, below, meth, c, Q, hx, hb, hml, hown, hts, hK, hJ, hE, ri, rl, rv, rfl⟩ := hC
  intro H locs ls hn hl hP hS
  exact lv_bipush hx hb dg hv (k H locs ls hn hl hP hS)
theorem q_sipush (hC : Ok K cc own nL d θ sx Fi Fl Fv) {n : Int} {v : Int32} (dg : decode cc pc = .ok (.sipush n, 3)) (hv : (Int16.ofInt n).toInt32 = v) (k : K (pc + 3) lv (.int v :: st) S) : K pc lv (st) S := by
  obtain ⟨p, l, e, s, m, args, below, meth, c, Q, hx, hb, hml, hown, hts, hK, hJ, hE, ri, rl, rv, rfl⟩ := hC
  intro H locs ls hn hl hP hS
  exact lv_sipush hx hb dg hv (k H locs ls hn hl hP hS)
theorem q_lconst (hC : Ok K cc own nL d θ sx Fi Fl Fv) {n : Fin 2} {v : Int64} (dg : decode cc pc = .ok (.lconst n, 1)) (hv : Int64.ofNat (n : Nat) = v) (k : K (pc + 1) lv (.long v :: st) S) : K pc lv (st) S := by
  obtain ⟨p, l, e, s, m, args, below, meth, c, Q, hx, hb, hml, hown, hts, hK, hJ, hE, ri, rl, rv, rfl⟩ := hC
  intro H locs ls hn hl hP hS
  exact lv_lconst hx hb dg hv (k H locs ls hn hl hP hS)
theorem q_iadd (hC : Ok K cc own nL d θ sx Fi Fl Fv) {x y : Int32} (dg : decode cc pc = .ok (.iadd, 1))  (k : K (pc + 1) lv (.int (x + y) :: st) S) : K pc lv (.int y :: .int x :: st) S := by
  obtain ⟨p, l, e, s, m, args, below, meth, c, Q, hx, hb, hml, hown, hts, hK, hJ, hE, ri, rl, rv, rfl⟩ := hC
  intro H locs ls hn hl hP hS
  exact lv_iadd hx hb dg (k H locs ls hn hl hP hS)
theorem q_isub (hC : Ok K cc own nL d θ sx Fi Fl Fv) {x y : Int32} (dg : decode cc pc = .ok (.isub, 1))  (k : K (pc + 1) lv (.int (x - y) :: st) S) : K pc lv (.int y :: .int x :: st) S := by
  obtain ⟨p, l, e, s, m, args, below, meth, c, Q, hx, hb, hml, hown, hts, hK, hJ, hE, ri, rl, rv, rfl⟩ := hC
  intro H locs ls hn hl hP hS
  exact lv_isub hx hb dg (k H locs ls hn hl hP hS)
theorem q_imul (hC : Ok K cc own nL d θ sx Fi Fl Fv) {x y : Int32} (dg : decode cc pc = .ok (.imul, 1))  (k : K (pc + 1) lv (.int (x * y) :: st) S) : K pc lv (.int y :: .int x :: st) S := by
  obtain ⟨p, l, e, s, m, args, below, meth, c, Q, hx, hb, hml, hown, hts, hK, hJ, hE, ri, rl, rv, rfl⟩ := hC
  intro H locs ls hn hl hP hS
  exact lv_imul hx hb dg (k H locs ls hn hl hP hS)
theorem q_iand (hC : Ok K cc own nL d θ sx Fi Fl Fv) {x y : Int32} (dg : decode cc pc = .ok (.iand, 1))  (k : K (pc + 1) lv (.int (x &&& y) :: st) S) : K pc lv (.int y :: .int x :: st) S := by
  obtain ⟨p, l, e, s, m, args, below, meth, c, Q, hx, hb, hml, hown, hts, hK, hJ, hE, ri, rl, rv, rfl⟩ := hC
  intro H locs ls hn hl hP hS
  exact lv_iand hx hb dg (k H locs ls hn hl hP hS)
theorem q_ior (hC : Ok K cc own nL d θ sx Fi Fl Fv) {x y : Int32} (dg : decode cc pc = .ok (.ior, 1))  (k : K (pc + 1) lv (.int (x ||| y) :: st) S) : K pc lv (.int y :: .int x :: st) S := by
  obtain ⟨p, l, e, s, m, args, below, meth, c, Q, hx, hb, hml, hown, hts, hK, hJ, hE, ri, rl, rv, rfl⟩ := hC
  intro H locs ls hn hl hP hS
  exact lv_ior hx hb dg (k H locs ls hn hl hP hS)
theorem q_ixor (hC : Ok K cc own nL d θ sx Fi Fl Fv) {x y : Int32} (dg : decode cc pc = .ok (.ixor, 1))  (k : K (pc + 1) lv (.int (x ^^^ y) :: st) S) : K pc lv (.int y :: .int x :: st) S := by
  obtain ⟨p, l, e, s, m, args, below, meth, c, Q, hx, hb, hml, hown, hts, hK, hJ, hE, ri, rl, rv, rfl⟩ := hC
  intro H locs ls hn hl hP hS
  exact lv_ixor hx hb dg (k H locs ls hn hl hP hS)
theorem q_ishl (hC : Ok K cc own nL d θ sx Fi Fl Fv) {x y : Int32} (dg : decode cc pc = .ok (.ishl, 1))  (k : K (pc + 1) lv (.int (x <<< (y &&& 31)) :: st) S) : K pc lv (.int y :: .int x :: st) S := by
  obtain ⟨p, l, e, s, m, args, below, meth, c, Q, hx, hb, hml, hown, hts, hK, hJ, hE, ri, rl, rv, rfl⟩ := hC
  intro H locs ls hn hl hP hS
  exact lv_ishl hx hb dg (k H locs ls hn hl hP hS)
theorem q_ishr (hC : Ok K cc own nL d θ sx Fi Fl Fv) {x y : Int32} (dg : decode cc pc = .ok (.ishr, 1))  (k : K (pc + 1) lv (.int (x >>> (y &&& 31)) :: st) S) : K pc lv (.int y :: .int x :: st) S := by
  obtain ⟨p, l, e, s, m, args, below, meth, c, Q, hx, hb, hml, hown, hts, hK, hJ, hE, ri, rl, rv, rfl⟩ := hC
  intro H locs ls hn hl hP hS
  exact lv_ishr hx hb dg (k H locs ls hn hl hP hS)
theorem q_ladd (hC : Ok K cc own nL d θ sx Fi Fl Fv) {x y : Int64} (dg : decode cc pc = .ok (.ladd, 1))  (k : K (pc + 1) lv (.long (x + y) :: st) S) : K pc lv (.long y :: .long x :: st) S := by
  obtain ⟨p, l, e, s, m, args, below, meth, c, Q, hx, hb, hml, hown, hts, hK, hJ, hE, ri, rl, rv, rfl⟩ := hC
  intro H locs ls hn hl hP hS
  exact lv_ladd hx hb dg (k H locs ls hn hl hP hS)
theorem q_lsub (hC : Ok K cc own nL d θ sx Fi Fl Fv) {x y : Int64} (dg : decode cc pc = .ok (.lsub, 1))  (k : K (pc + 1) lv (.long (x - y) :: st) S) : K pc lv (.long y :: .long x :: st) S := by
  obtain ⟨p, l, e, s, m, args, below, meth, c, Q, hx, hb, hml, hown, hts, hK, hJ, hE, ri, rl, rv, rfl⟩ := hC
  intro H locs ls hn hl hP hS
  exact lv_lsub hx hb dg (k H locs ls hn hl hP hS)
theorem q_lmul (hC : Ok K cc own nL d θ sx Fi Fl Fv) {x y : Int64} (dg : decode cc pc = .ok (.lmul, 1))  (k : K (pc + 1) lv (.long (x * y) :: st) S) : K pc lv (.long y :: .long x :: st) S := by
  obtain ⟨p, l, e, s, m, args, below, meth, c, Q, hx, hb, hml, hown, hts, hK, hJ, hE, ri, rl, rv, rfl⟩ := hC
  intro H locs ls hn hl hP hS
  exact lv_lmul hx hb dg (k H locs ls hn hl hP hS)
theorem q_land (hC : Ok K cc own nL d θ sx Fi Fl Fv) {x y : Int64} (dg : decode cc pc = .ok (.land, 1))  (k : K (pc + 1) lv (.long (x &&& y) :: st) S) : K pc lv (.long y :: .long x :: st) S := by
  obtain ⟨p, l, e, s, m, args, below, meth, c, Q, hx, hb, hml, hown, hts, hK, hJ, hE, ri, rl, rv, rfl⟩ := hC
  intro H locs ls hn hl hP hS
  exact lv_land hx hb dg (k H locs ls hn hl hP hS)
theorem q_lor (hC : Ok K cc own nL d θ sx Fi Fl Fv) {x y : Int64} (dg : decode cc pc = .ok (.lor, 1))  (k : K (pc + 1) lv (.long (x ||| y) :: st) S) : K pc lv (.long y :: .long x :: st) S := by
  obtain ⟨p, l, e, s, m, args, below, meth, c, Q, hx, hb, hml, hown, hts, hK, hJ, hE, ri, rl, rv, rfl⟩ := hC
  intro H locs ls hn hl hP hS
  exact lv_lor hx hb dg (k H locs ls hn hl hP hS)
theorem q_idiv (hC : Ok K cc own nL d θ sx Fi Fl Fv) {x y : Int32} (dg : decode cc pc = .ok (.idiv, 1)) (h0 : ¬ y = 0) (k : K (pc + 1) lv (.int (x / y) :: st) S) : K pc lv (.int y :: .int x :: st) S := by
  obtain ⟨p, l, e, s, m, args, below, meth, c, Q, hx, hb, hml, hown, hts, hK, hJ, hE, ri, rl, rv, rfl⟩ := hC
  intro H locs ls hn hl hP hS
  exact lv_idiv hx hb dg h0 (k H locs ls hn hl hP hS)
theorem q_irem (hC : Ok K cc own nL d θ sx Fi Fl Fv) {x y : Int32} (dg : decode cc pc = .ok (.irem, 1)) (h0 : ¬ y = 0) (k : K (pc + 1) lv (.int (x - x / y * y) :: st) S) : K pc lv (.int y :: .int x :: st) S := by
  obtain ⟨p, l, e, s, m, args, below, meth, c, Q, hx, hb, hml, hown, hts, hK, hJ, hE, ri, rl, rv, rfl⟩ := hC
  intro H locs ls hn hl hP hS
  exact lv_irem hx hb dg h0 (k H locs ls hn hl hP hS)
theorem q_ldiv (hC : Ok K cc own nL d θ sx Fi Fl Fv) {x y : Int64} (dg : decode cc pc = .ok (.ldiv, 1)) (h0 : ¬ y = 0) (k : K (pc + 1) lv (.long (x / y) :: st) S) : K pc lv (.long y :: .long x :: st) S := by
  obtain ⟨p, l, e, s, m, args, below, meth, c, Q, hx, hb, hml, hown, hts, hK, hJ, hE, ri, rl, rv, rfl⟩ := hC
  intro H locs ls hn hl hP hS
  exact lv_ldiv hx hb dg h0 (k H locs ls hn hl hP hS)
theorem q_lrem (hC : Ok K cc own nL d θ sx Fi Fl Fv) {x y : Int64} (dg : decode cc pc = .ok (.lrem, 1)) (h0 : ¬ y = 0) (k : K (pc + 1) lv (.long (x - x / y * y) :: st) S) : K pc lv (.long y :: .long x :: st) S := by
  obtain ⟨p, l, e, s, m, args, below, meth, c, Q, hx, hb, hml, hown, hts, hK, hJ, hE, ri, rl, rv, rfl⟩ := hC
  intro H locs ls hn hl hP hS
  exact lv_lrem hx hb dg h0 (k H locs ls hn hl hP hS)
theorem q_ineg (hC : Ok K cc own nL d θ sx Fi Fl Fv) {x : Int32} (dg : decode cc pc = .ok (.ineg, 1))  (k : K (pc + 1) lv (.int (-x) :: st) S) : K pc lv (.int x :: st) S := by
  obtain ⟨p, l, e, s, m, args, below, meth, c, Q, hx, hb, hml, hown, hts, hK, hJ, hE, ri, rl, rv, rfl⟩ := hC
  intro H locs ls hn hl hP hS
  exact lv_ineg hx hb dg (k H locs ls hn hl hP hS)
theorem q_i2l (hC : Ok K cc own nL d θ sx Fi Fl Fv) {x : Int32} (dg : decode cc pc = .ok (.i2l, 1))  (k : K (pc + 1) lv (.long x.toInt64 :: st) S) : K pc lv (.int x :: st) S := by
  obtain ⟨p, l, e, s, m, args, below, meth, c, Q, hx, hb, hml, hown, hts, hK, hJ, hE, ri, rl, rv, rfl⟩ := hC
  intro H locs ls hn hl hP hS
  exact lv_i2l hx hb dg rfl (k H locs ls hn hl hP hS)
theorem q_l2i (hC : Ok K cc own nL d θ sx Fi Fl Fv) {x : Int64} (dg : decode cc pc = .ok (.l2i, 1))  (k : K (pc + 1) lv (.int x.toInt32 :: st) S) : K pc lv (.long x :: st) S := by
  obtain ⟨p, l, e, s, m, args, below, meth, c, Q, hx, hb, hml, hown, hts, hK, hJ, hE, ri, rl, rv, rfl⟩ := hC
  intro H locs ls hn hl hP hS
  exact lv_l2i hx hb dg rfl (k H locs ls hn hl hP hS)
theorem q_i2b (hC : Ok K cc own nL d θ sx Fi Fl Fv) {x : Int32} (dg : decode cc pc = .ok (.i2b, 1))  (k : K (pc + 1) lv (.int x.toInt8.toInt32 :: st) S) : K pc lv (.int x :: st) S := by
  obtain ⟨p, l, e, s, m, args, below, meth, c, Q, hx, hb, hml, hown, hts, hK, hJ, hE, ri, rl, rv, rfl⟩ := hC
  intro H locs ls hn hl hP hS
  exact lv_i2b hx hb dg rfl (k H locs ls hn hl hP hS)
theorem q_i2c (hC : Ok K cc own nL d θ sx Fi Fl Fv) {x : Int32} (dg : decode cc pc = .ok (.i2c, 1))  (k : K (pc + 1) lv (.int (x.toUInt32 % 65536).toInt32 :: st) S) : K pc lv (.int x :: st) S := by
  obtain ⟨p, l, e, s, m, args, below, meth, c, Q, hx, hb, hml, hown, hts, hK, hJ, hE, ri, rl, rv, rfl⟩ := hC
  intro H locs ls hn hl hP hS
  exact lv_i2c hx hb dg rfl (k H locs ls hn hl hP hS)
theorem q_iushr (hC : Ok K cc own nL d θ sx Fi Fl Fv) {x y : Int32} (dg : decode cc pc = .ok (.iushr, 1))  (k : K (pc + 1) lv (.int (x.toUInt32 >>> (y.toUInt32 &&& Int32.toUInt32 31)).toInt32 :: st) S) : K pc lv (.int y :: .int x :: st) S := by
  obtain ⟨p, l, e, s, m, args, below, meth, c, Q, hx, hb, hml, hown, hts, hK, hJ, hE, ri, rl, rv, rfl⟩ := hC
  intro H locs ls hn hl hP hS
  exact lv_iushr hx hb dg rfl (k H locs ls hn hl hP hS)
theorem q_lshr (hC : Ok K cc own nL d θ sx Fi Fl Fv) {x : Int64} {y : Int32} (dg : decode cc pc = .ok (.lshr, 1))  (k : K (pc + 1) lv (.long (x >>> (y.toInt64 &&& 63)) :: st) S) : K pc lv (.int y :: .long x :: st) S := by
  obtain ⟨p, l, e, s, m, args, below, meth, c, Q, hx, hb, hml, hown, hts, hK, hJ, hE, ri, rl, rv, rfl⟩ := hC
  intro H locs ls hn hl hP hS
  exact lv_lshr hx hb dg rfl (k H locs ls hn hl hP hS)
theorem q_lshl (hC : Ok K cc own nL d θ sx Fi Fl Fv) {x : Int64} {y : Int32} (dg : decode cc pc = .ok (.lshl, 1))  (k : K (pc + 1) lv (.long (x <<< (y.toInt64 &&& 63)) :: st) S) : K pc lv (.int y :: .long x :: st) S := by
  obtain ⟨p, l, e, s, m, args, below, meth, c, Q, hx, hb, hml, hown, hts, hK, hJ, hE, ri, rl, rv, rfl⟩ := hC
  intro H locs ls hn hl hP hS
  exact lv_lshl hx hb dg rfl (k H locs ls hn hl hP hS)
theorem q_dup (hC : Ok K cc own nL d θ sx Fi Fl Fv) {va : Value} (dg : decode cc pc = .ok (.dup, 1)) (h1 : va.category = 1) (k : K (pc + 1) lv (va :: va :: st) S) : K pc lv (va :: st) S := by
  obtain ⟨p, l, e, s, m, args, below, meth, c, Q, hx, hb, hml, hown, hts, hK, hJ, hE, ri, rl, rv, rfl⟩ := hC
  intro H locs ls hn hl hP hS
  exact lv_dup hx hb dg h1 (k H locs ls hn hl hP hS)
theorem q_pop (hC : Ok K cc own nL d θ sx Fi Fl Fv) {va : Value} (dg : decode cc pc = .ok (.pop, 1)) (h1 : va.category = 1) (k : K (pc + 1) lv (st) S) : K pc lv (va :: st) S := by
  obtain ⟨p, l, e, s, m, args, below, meth, c, Q, hx, hb, hml, hown, hts, hK, hJ, hE, ri, rl, rv, rfl⟩ := hC
  intro H locs ls hn hl hP hS
  exact lv_pop hx hb dg h1 (k H locs ls hn hl hP hS)
theorem q_dup_x1 (hC : Ok K cc own nL d θ sx Fi Fl Fv) {va vb : Value} (dg : decode cc pc = .ok (.dup_x1, 1)) (h1 : va.category = 1) (h2 : vb.category = 1) (k : K (pc + 1) lv (va :: vb :: va :: st) S) : K pc lv (va :: vb :: st) S := by
  obtain ⟨p, l, e, s, m, args, below, meth, c, Q, hx, hb, hml, hown, hts, hK, hJ, hE, ri, rl, rv, rfl⟩ := hC
  intro H locs ls hn hl hP hS
  exact lv_dup_x1 hx hb dg h1 h2 (k H locs ls hn hl hP hS)
theorem q_dup_x2 (hC : Ok K cc own nL d θ sx Fi Fl Fv) {va vb vd : Value} (dg : decode cc pc = .ok (.dup_x2, 1)) (h1 : va.category = 1) (h2 : vb.category = 1) (h3 : vd.category = 1) (k : K (pc + 1) lv (va :: vb :: vd :: va :: st) S) : K pc lv (va :: vb :: vd :: st) S := by
  obtain ⟨p, l, e, s, m, args, below, meth, c, Q, hx, hb, hml, hown, hts, hK, hJ, hE, ri, rl, rv, rfl⟩ := hC
  intro H locs ls hn hl hP hS
  exact lv_dup_x2 hx hb dg h1 h2 h3 (k H locs ls hn hl hP hS)
theorem q_dup2 (hC : Ok K cc own nL d θ sx Fi Fl Fv) {va vb : Value} (dg : decode cc pc = .ok (.dup2, 1)) (h1 : va.category = 1) (h2 : vb.category = 1) (k : K (pc + 1) lv (va :: vb :: va :: vb :: st) S) : K pc lv (va :: vb :: st) S := by
  obtain ⟨p, l, e, s, m, args, below, meth, c, Q, hx, hb, hml, hown, hts, hK, hJ, hE, ri, rl, rv, rfl⟩ := hC
  intro H locs ls hn hl hP hS
  exact lv_dup2_11 hx hb dg h1 h2 (k H locs ls hn hl hP hS)
theorem q_dup2l (hC : Ok K cc own nL d θ sx Fi Fl Fv) {va : Value} (dg : decode cc pc = .ok (.dup2, 1)) (h1 : va.category = 2) (k : K (pc + 1) lv (va :: va :: st) S) : K pc lv (va :: st) S := by
  obtain ⟨p, l, e, s, m, args, below, meth, c, Q, hx, hb, hml, hown, hts, hK, hJ, hE, ri, rl, rv, rfl⟩ := hC
  intro H locs ls hn hl hP hS
  exact lv_dup2_2 hx hb dg h1 (k H locs ls hn hl hP hS)
theorem q_iload_n (hC : Ok K cc own nL d θ sx Fi Fl Fv) {n : Fin 4} {x : Int32} (dg : decode cc pc = .ok (.iload_n n, 1)) (k : K (pc + 1) lv (.int x :: st) S) (hi : lv[(n : Nat)]? = some (some (.int x)) := by rfl) : K pc lv st S := by
  obtain ⟨p, l, e, s, m, args, below, meth, c, Q, hx, hb, hml, hown, hts, hK, hJ, hE, ri, rl, rv, rfl⟩ := hC
  intro H locs ls hn hl hP hS
  exact lv_iload_n hx hb dg rfl (lv_rd hl hi) (k H locs ls hn hl hP hS)
theorem q_iload (hC : Ok K cc own nL d θ sx Fi Fl Fv) {n : Nat} {x : Int32} (dg : decode cc pc = .ok (.iload n, 2)) (k : K (pc + 2) lv (.int x :: st) S) (hi : lv[n]? = some (some (.int x)) := by rfl) : K pc lv st S := by
  obtain ⟨p, l, e, s, m, args, below, meth, c, Q, hx, hb, hml, hown, hts, hK, hJ, hE, ri, rl, rv, rfl⟩ := hC
  intro H locs ls hn hl hP hS
  exact lv_iload hx hb dg (lv_rd hl hi) (k H locs ls hn hl hP hS)
theorem q_lload_n (hC : Ok K cc own nL d θ sx Fi Fl Fv) {n : Fin 4} {x : Int64} (dg : decode cc pc = .ok (.lload_n n, 1)) (k : K (pc + 1) lv (.long x :: st) S) (hi : lv[(n : Nat)]? = some (some (.long x)) := by rfl) : K pc lv st S := by
  obtain ⟨p, l, e, s, m, args, below, meth, c, Q, hx, hb, hml, hown, hts, hK, hJ, hE, ri, rl, rv, rfl⟩ := hC
  intro H locs ls hn hl hP hS
  exact lv_lload_n hx hb dg rfl (lv_rd hl hi) (k H locs ls hn hl hP hS)
theorem q_lload (hC : Ok K cc own nL d θ sx Fi Fl Fv) {n : Nat} {x : Int64} (dg : decode cc pc = .ok (.lload n, 2)) (k : K (pc + 2) lv (.long x :: st) S) (hi : lv[n]? = some (some (.long x)) := by rfl) : K pc lv st S := by
  obtain ⟨p, l, e, s, m, args, below, meth, c, Q, hx, hb, hml, hown, hts, hK, hJ, hE, ri, rl, rv, rfl⟩ := hC
  intro H locs ls hn hl hP hS
  exact lv_lload hx hb dg (lv_rd hl hi) (k H locs ls hn hl hP hS)
theorem q_aload_n (hC : Ok K cc own nL d θ sx Fi Fl Fv) {n : Fin 4} {x : Nat} (dg : decode cc pc = .ok (.aload_n n, 1)) (k : K (pc + 1) lv (.ref x :: st) S) (hi : lv[(n : Nat)]? = some (some (.ref x)) := by rfl) : K pc lv st S := by
  obtain ⟨p, l, e, s, m, args, below, meth, c, Q, hx, hb, hml, hown, hts, hK, hJ, hE, ri, rl, rv, rfl⟩ := hC
  intro H locs ls hn hl hP hS
  exact lv_aload_n hx hb dg rfl (lv_rd hl hi) (k H locs ls hn hl hP hS)
theorem q_aload (hC : Ok K cc own nL d θ sx Fi Fl Fv) {n : Nat} {x : Nat} (dg : decode cc pc = .ok (.aload n, 2)) (k : K (pc + 2) lv (.ref x :: st) S) (hi : lv[n]? = some (some (.ref x)) := by rfl) : K pc lv st S := by
  obtain ⟨p, l, e, s, m, args, below, meth, c, Q, hx, hb, hml, hown, hts, hK, hJ, hE, ri, rl, rv, rfl⟩ := hC
  intro H locs ls hn hl hP hS
  exact lv_aload hx hb dg (lv_rd hl hi) (k H locs ls hn hl hP hS)
theorem q_istore_g (hC : Ok K cc own nL d θ sx Fi Fl Fv) {i : Nat} {n : Fin 4} {x : Int32} (dg : decode cc pc = .ok (.istore_n n, 1)) (hi : (n : Nat) = i) (h1 : i < lv.length) (h2 : nlg lv i) (k : K (pc + 1) (lv.set i (some (.int x))) st S) : K pc lv (.int x :: st) S := by
  obtain ⟨p, l, e, s, m, args, below, meth, c, Q, hx, hb, hml, hown, hts, hK, hJ, hE, ri, rl, rv, rfl⟩ := hC
  intro H locs ls hn hl hP hS
  exact lv_istore_n hx hb dg hi hl (by omega) rfl (fun ls' hl' => k H locs ls' (by simpa using hn) (lv_st1 hl' h1 h2) hP hS)
theorem q_istoreg (hC : Ok K cc own nL d θ sx Fi Fl Fv) {i : Nat} {x : Int32} (dg : decode cc pc = .ok (.istore i, 2)) (h1 : i < lv.length) (h2 : nlg lv i) (k : K (pc + 2) (lv.set i (some (.int x))) st S) : K pc lv (.int x :: st) S := by
  obtain ⟨p, l, e, s, m, args, below, meth, c, Q, hx, hb, hml, hown, hts, hK, hJ, hE, ri, rl, rv, rfl⟩ := hC
  intro H locs ls hn hl hP hS
  exact lv_istore hx hb dg hl (by omega) rfl (fun ls' hl' => k H locs ls' (by simpa using hn) (lv_st1 hl' h1 h2) hP hS)
theorem q_astore_g (hC : Ok K cc own nL d θ sx Fi Fl Fv) {i : Nat} {n : Fin 4} {x : Nat} (dg : decode cc pc = .ok (.astore_n n, 1)) (hi : (n : Nat) = i) (h1 : i < lv.length) (h2 : nlg lv i) (k : K (pc + 1) (lv.set i (some (.ref x))) st S) : K pc lv (.ref x :: st) S := by
  obtain ⟨p, l, e, s, m, args, below, meth, c, Q, hx, hb, hml, hown, hts, hK, hJ, hE, ri, rl, rv, rfl⟩ := hC
  intro H locs ls hn hl hP hS
  exact lv_astore_n hx hb dg hi hl (by omega) rfl (fun ls' hl' => k H locs ls' (by simpa using hn) (lv_st1 hl' h1 h2) hP hS)
theorem q_astoreg (hC : Ok K cc own nL d θ sx Fi Fl Fv) {i : Nat} {x : Nat} (dg : decode cc pc = .ok (.astore i, 2)) (h1 : i < lv.length) (h2 : nlg lv i) (k : K (pc + 2) (lv.set i (some (.ref x))) st S) : K pc lv (.ref x :: st) S := by
  obtain ⟨p, l, e, s, m, args, below, meth, c, Q, hx, hb, hml, hown, hts, hK, hJ, hE, ri, rl, rv, rfl⟩ := hC
  intro H locs ls hn hl hP hS
  exact lv_astore hx hb dg hl (by omega) rfl (fun ls' hl' => k H locs ls' (by simpa using hn) (lv_st1 hl' h1 h2) hP hS)
theorem q_lstore_g (hC : Ok K cc own nL d θ sx Fi Fl Fv) {i : Nat} {n : Fin 4} {x : Int64} (dg : decode cc pc = .ok (.lstore_n n, 1)) (hi : (n : Nat) = i) (h1 : i + 1 < lv.length) (h2 : nlg lv i) (k : K (pc + 1) ((lv.set i (some (.long x))).set (i + 1) none) st S) : K pc lv (.long x :: st) S := by
  obtain ⟨p, l, e, s, m, args, below, meth, c, Q, hx, hb, hml, hown, hts, hK, hJ, hE, ri, rl, rv, rfl⟩ := hC
  intro H locs ls hn hl hP hS
  exact lv_lstore_n hx hb dg hi hl (by omega) rfl (fun ls' hl' => k H locs ls' (by simpa using hn) (lv_st2 hl' h1 h2) hP hS)
theorem q_lstoreg (hC : Ok K cc own nL d θ sx Fi Fl Fv) {i : Nat} {x : Int64} (dg : decode cc pc = .ok (.lstore i, 2)) (h1 : i + 1 < lv.length) (h2 : nlg lv i) (k : K (pc + 2) ((lv.set i (some (.long x))).set (i + 1) none) st S) : K pc lv (.long x :: st) S := by
  obtain ⟨p, l, e, s, m, args, below, meth, c, Q, hx, hb, hml, hown, hts, hK, hJ, hE, ri, rl, rv, rfl⟩ := hC
  intro H locs ls hn hl hP hS
  exact lv_lstore hx hb dg hl (by omega) rfl (fun ls' hl' => k H locs ls' (by simpa using hn) (lv_st2 hl' h1 h2) hP hS)
theorem q_iincg (hC : Ok K cc own nL d θ sx Fi Fl Fv) {i : Nat} {n : Int} {x v : Int32} (dg : decode cc pc = .ok (.iinc i n, 3)) (h0 : lv[i]? = some (some (.int x))) (hv : x + Int32.ofInt n = v) (h1 : i < lv.length) (h2 : nlg lv i) (k : K (pc + 3) (lv.set i (some (.int v))) st S) : K pc lv st S := by
  obtain ⟨p, l, e, s, m, args, below, meth, c, Q, hx, hb, hml, hown, hts, hK, hJ, hE, ri, rl, rv, rfl⟩ := hC
  intro H locs ls hn hl hP hS
  obtain ⟨q, hq⟩ := List.getElem?_of_mem ((lvA_mem lv 0 i (.int x)).mpr ⟨i, by omega, h0⟩)
  exact lv_iinc hx hb dg hl hq hv (by omega) rfl (fun ls' hl' => k H locs ls' (by simpa using hn) (lv_st1 hl' h1 h2) hP hS)
theorem nlg_i {lv : LV} {i : Nat} {o : Option Value} (h : lv[i]? = some o) (h2 : ∀ v, o = some v → v.category = 1) : nlg lv (i + 1) := fun v hv => h2 v (by rw [h] at hv; exact Option.some.inj hv)
def nl1 : Option Value → Bool
  | some (.long _) => false
  | some (.double _) => false
  | _ => true
theorem nl1_ok {o : Option Value} (h : nl1 o = true) : ∀ v, o = some v → v.category = 1 := by
  intro v hv
  subst hv
  cases v <;> first | rfl | (simp [nl1] at h)
theorem q_istore_0 (hC : Ok K cc own nL d θ sx Fi Fl Fv) {x : Int32} {o : Option Value} {tl : LV} (dg : decode cc pc = .ok (.istore_n 0, 1)) (k : K (pc + 1) (some (.int x) :: tl) st S)  : K pc (o :: tl) (.int x :: st) S :=
  q_istore_g (i := 0) hC dg rfl (by simp) trivial k
theorem q_astore_0 (hC : Ok K cc own nL d θ sx Fi Fl Fv) {x : Nat} {o : Option Value} {tl : LV} (dg : decode cc pc = .ok (.astore_n 0, 1)) (k : K (pc + 1) (some (.ref x) :: tl) st S)  : K pc (o :: tl) (.ref x :: st) S :=
  q_astore_g (i := 0) hC dg rfl (by simp) trivial k
theorem q_lstore_0 (hC : Ok K cc own nL d θ sx Fi Fl Fv) {x : Int64} {o o2 : Option Value} {tl : LV} (dg : decode cc pc = .ok (.lstore_n 0, 1)) (k : K (pc + 1) (some (.long x) :: none :: tl) st S)  : K pc (o :: o2 :: tl) (.long x :: st) S :=
  q_lstore_g (i := 0) hC dg rfl (by simp) trivial k
theorem q_iinc_0 (hC : Ok K cc own nL d θ sx Fi Fl Fv) {n : Int} {x v : Int32} {tl : LV} (dg : decode cc pc = .ok (.iinc 0 n, 3)) (hv : x + Int32.ofInt n = v) (k : K (pc + 3) (some (.int v) :: tl) st S)  : K pc (some (.int x) :: tl) st S :=
  q_iincg (i := 0) hC dg rfl hv (by simp) trivial k
theorem q_istore_1 (hC : Ok K cc own nL d θ sx Fi Fl Fv) {x : Int32} {a0 o : Option Value} {tl : LV} (dg : decode cc pc = .ok (.istore_n 1, 1)) (k : K (pc + 1) (a0 :: some (.int x) :: tl) st S) (hh : nl1 a0 = true := by rfl) : K pc (a0 :: o :: tl) (.int x :: st) S :=
  q_istore_g (i := 1) hC dg rfl (by simp) (nlg_i (i := 0) rfl (nl1_ok hh)) k
theorem q_astore_1 (hC : Ok K cc own nL d θ sx Fi Fl Fv) {x : Nat} {a0 o : Option Value} {tl : LV} (dg : decode cc pc = .ok (.astore_n 1, 1)) (k : K (pc + 1) (a0 :: some (.ref x) :: tl) st S) (hh : nl1 a0 = true := by rfl) : K pc (a0 :: o :: tl) (.ref x :: st) S :=
  q_astore_g (i := 1) hC dg rfl (by simp) (nlg_i (i := 0) rfl (nl1_ok hh)) k
theorem q_lstore_1 (hC : Ok K cc own nL d θ sx Fi Fl Fv) {x : Int64} {a0 o o2 : Option Value} {tl : LV} (dg : decode cc pc = .ok (.lstore_n 1, 1)) (k : K (pc + 1) (a0 :: some (.long x) :: none :: tl) st S) (hh : nl1 a0 = true := by rfl) : K pc (a0 :: o :: o2 :: tl) (.long x :: st) S :=
  q_lstore_g (i := 1) hC dg rfl (by simp) (nlg_i (i := 0) rfl (nl1_ok hh)) k
theorem q_iinc_1 (hC : Ok K cc own nL d θ sx Fi Fl Fv) {n : Int} {x v : Int32} {a0 : Option Value} {tl : LV} (dg : decode cc pc = .ok (.iinc 1 n, 3)) (hv : x + Int32.ofInt n = v) (k : K (pc + 3) (a0 :: some (.int v) :: tl) st S) (hh : nl1 a0 = true := by rfl) : K pc (a0 :: some (.int x) :: tl) st S :=
  q_iincg (i := 1) hC dg rfl hv (by simp) (nlg_i (i := 0) rfl (nl1_ok hh)) k
theorem q_istore_2 (hC : Ok K cc own nL d θ sx Fi Fl Fv) {x : Int32} {a0 a1 o : Option Value} {tl : LV} (dg : decode cc pc = .ok (.istore_n 2, 1)) (k : K (pc + 1) (a0 :: a1 :: some (.int x) :: tl) st S) (hh : nl1 a1 = true := by rfl) : K pc (a0 :: a1 :: o :: tl) (.int x :: st) S :=
  q_istore_g (i := 2) hC dg rfl (by simp) (nlg_i (i := 1) rfl (nl1_ok hh)) k
theorem q_astore_2 (hC : Ok K cc own nL d θ sx Fi Fl Fv) {x : Nat} {a0 a1 o : Option Value} {tl : LV} (dg : decode cc pc = .ok (.astore_n 2, 1)) (k : K (pc + 1) (a0 :: a1 :: some (.ref x) :: tl) st S) (hh : nl1 a1 = true := by rfl) : K pc (a0 :: a1 :: o :: tl) (.ref x :: st) S :=
  q_astore_g (i := 2) hC dg rfl (by simp) (nlg_i (i := 1) rfl (nl1_ok hh)) k
theorem q_lstore_2 (hC : Ok K cc own nL d θ sx Fi Fl Fv) {x : Int64} {a0 a1 o o2 : Option Value} {tl : LV} (dg : decode cc pc = .ok (.lstore_n 2, 1)) (k : K (pc + 1) (a0 :: a1 :: some (.long x) :: none :: tl) st S) (hh : nl1 a1 = true := by rfl) : K pc (a0 :: a1 :: o :: o2 :: tl) (.long x :: st) S :=
  q_lstore_g (i := 2) hC dg rfl (by simp) (nlg_i (i := 1) rfl (nl1_ok hh)) k
theorem q_iinc_2 (hC : Ok K cc own nL d θ sx Fi Fl Fv) {n : Int} {x v : Int32} {a0 a1 : Option Value} {tl : LV} (dg : decode cc pc = .ok (.iinc 2 n, 3)) (hv : x + Int32.ofInt n = v) (k : K (pc + 3) (a0 :: a1 :: some (.int v) :: tl) st S) (hh : nl1 a1 = true := by rfl) : K pc (a0 :: a1 :: some (.int x) :: tl) st S :=
  q_iincg (i := 2) hC dg rfl hv (by simp) (nlg_i (i := 1) rfl (nl1_ok hh)) k
theorem q_istore_3 (hC : Ok K cc own nL d θ sx Fi Fl Fv) {x : Int32} {a0 a1 a2 o : Option Value} {tl : LV} (dg : decode cc pc = .ok (.istore_n 3, 1)) (k : K (pc + 1) (a0 :: a1 :: a2 :: some (.int x) :: tl) st S) (hh : nl1 a2 = true := by rfl) : K pc (a0 :: a1 :: a2 :: o :: tl) (.int x :: st) S :=
  q_istore_g (i := 3) hC dg rfl (by simp) (nlg_i (i := 2) rfl (nl1_ok hh)) k
theorem q_astore_3 (hC : Ok K cc own nL d θ sx Fi Fl Fv) {x : Nat} {a0 a1 a2 o : Option Value} {tl : LV} (dg : decode cc pc = .ok (.astore_n 3, 1)) (k : K (pc + 1) (a0 :: a1 :: a2 :: some (.ref x) :: tl) st S) (hh : nl1 a2 = true := by rfl) : K pc (a0 :: a1 :: a2 :: o :: tl) (.ref x :: st) S :=
  q_astore_g (i := 3) hC dg rfl (by simp) (nlg_i (i := 2) rfl (nl1_ok hh)) k
theorem q_lstore_3 (hC : Ok K cc own nL d θ sx Fi Fl Fv) {x : Int64} {a0 a1 a2 o o2 : Option Value} {tl : LV} (dg : decode cc pc = .ok (.lstore_n 3, 1)) (k : K (pc + 1) (a0 :: a1 :: a2 :: some (.long x) :: none :: tl) st S) (hh : nl1 a2 = true := by rfl) : K pc (a0 :: a1 :: a2 :: o :: o2 :: tl) (.long x :: st) S :=
  q_lstore_g (i := 3) hC dg rfl (by simp) (nlg_i (i := 2) rfl (nl1_ok hh)) k
theorem q_iinc_3 (hC : Ok K cc own nL d θ sx Fi Fl Fv) {n : Int} {x v : Int32} {a0 a1 a2 : Option Value} {tl : LV} (dg : decode cc pc = .ok (.iinc 3 n, 3)) (hv : x + Int32.ofInt n = v) (k : K (pc + 3) (a0 :: a1 :: a2 :: some (.int v) :: tl) st S) (hh : nl1 a2 = true := by rfl) : K pc (a0 :: a1 :: a2 :: some (.int x) :: tl) st S :=
  q_iincg (i := 3) hC dg rfl hv (by simp) (nlg_i (i := 2) rfl (nl1_ok hh)) k
theorem q_istore_4 (hC : Ok K cc own nL d θ sx Fi Fl Fv) {x : Int32} {a0 a1 a2 a3 o : Option Value} {tl : LV} (dg : decode cc pc = .ok (.istore 4, 2)) (k : K (pc + 2) (a0 :: a1 :: a2 :: a3 :: some (.int x) :: tl) st S) (hh : nl1 a3 = true := by rfl) : K pc (a0 :: a1 :: a2 :: a3 :: o :: tl) (.int x :: st) S :=
  q_istoreg (i := 4) hC dg (by simp) (nlg_i (i := 3) rfl (nl1_ok hh)) k
theorem q_astore_4 (hC : Ok K cc own nL d θ sx Fi Fl Fv) {x : Nat} {a0 a1 a2 a3 o : Option Value} {tl : LV} (dg : decode cc pc = .ok (.astore 4, 2)) (k : K (pc + 2) (a0 :: a1 :: a2 :: a3 :: some (.ref x) :: tl) st S) (hh : nl1 a3 = true := by rfl) : K pc (a0 :: a1 :: a2 :: a3 :: o :: tl) (.ref x :: st) S :=
  q_astoreg (i := 4) hC dg (by simp) (nlg_i (i := 3) rfl (nl1_ok hh)) k
theorem q_lstore_4 (hC : Ok K cc own nL d θ sx Fi Fl Fv) {x : Int64} {a0 a1 a2 a3 o o2 : Option Value} {tl : LV} (dg : decode cc pc = .ok (.lstore 4, 2)) (k : K (pc + 2) (a0 :: a1 :: a2 :: a3 :: some (.long x) :: none :: tl) st S) (hh : nl1 a3 = true := by rfl) : K pc (a0 :: a1 :: a2 :: a3 :: o :: o2 :: tl) (.long x :: st) S :=
  q_lstoreg (i := 4) hC dg (by simp) (nlg_i (i := 3) rfl (nl1_ok hh)) k
theorem q_iinc_4 (hC : Ok K cc own nL d θ sx Fi Fl Fv) {n : Int} {x v : Int32} {a0 a1 a2 a3 : Option Value} {tl : LV} (dg : decode cc pc = .ok (.iinc 4 n, 3)) (hv : x + Int32.ofInt n = v) (k : K (pc + 3) (a0 :: a1 :: a2 :: a3 :: some (.int v) :: tl) st S) (hh : nl1 a3 = true := by rfl) : K pc (a0 :: a1 :: a2 :: a3 :: some (.int x) :: tl) st S :=
  q_iincg (i := 4) hC dg rfl hv (by simp) (nlg_i (i := 3) rfl (nl1_ok hh)) k
theorem q_istore_5 (hC : Ok K cc own nL d θ sx Fi Fl Fv) {x : Int32} {a0 a1 a2 a3 a4 o : Option Value} {tl : LV} (dg : decode cc pc = .ok (.istore 5, 2)) (k : K (pc + 2) (a0 :: a1 :: a2 :: a3 :: a4 :: some (.int x) :: tl) st S) (hh : nl1 a4 = true := by rfl) : K pc (a0 :: a1 :: a2 :: a3 :: a4 :: o :: tl) (.int x :: st) S :=
  q_istoreg (i := 5) hC dg (by simp) (nlg_i (i := 4) rfl (nl1_ok hh)) k
theorem q_astore_5 (hC : Ok K cc own nL d θ sx Fi Fl Fv) {x : Nat} {a0 a1 a2 a3 a4 o : Option Value} {tl : LV} (dg : decode cc pc = .ok (.astore 5, 2)) (k : K (pc + 2) (a0 :: a1 :: a2 :: a3 :: a4 :: some (.ref x) :: tl) st S) (hh : nl1 a4 = true := by rfl) : K pc (a0 :: a1 :: a2 :: a3 :: a4 :: o :: tl) (.ref x :: st) S :=
  q_astoreg (i := 5) hC dg (by simp) (nlg_i (i := 4) rfl (nl1_ok hh)) k
theorem q_lstore_5 (hC : Ok K cc own nL d θ sx Fi Fl Fv) {x : Int64} {a0 a1 a2 a3 a4 o o2 : Option Value} {tl : LV} (dg : decode cc pc = .ok (.lstore 5, 2)) (k : K (pc + 2) (a0 :: a1 :: a2 :: a3 :: a4 :: some (.long x) :: none :: tl) st S) (hh : nl1 a4 = true := by rfl) : K pc (a0 :: a1 :: a2 :: a3 :: a4 :: o :: o2 :: tl) (.long x :: st) S :=
  q_lstoreg (i := 5) hC dg (by simp) (nlg_i (i := 4) rfl (nl1_ok hh)) k
theorem q_iinc_5 (hC : Ok K cc own nL d θ sx Fi Fl Fv) {n : Int} {x v : Int32} {a0 a1 a2 a3 a4 : Option Value} {tl : LV} (dg : decode cc pc = .ok (.iinc 5 n, 3)) (hv : x + Int32.ofInt n = v) (k : K (pc + 3) (a0 :: a1 :: a2 :: a3 :: a4 :: some (.int v) :: tl) st S) (hh : nl1 a4 = true := by rfl) : K pc (a0 :: a1 :: a2 :: a3 :: a4 :: some (.int x) :: tl) st S :=
  q_iincg (i := 5) hC dg rfl hv (by simp) (nlg_i (i := 4) rfl (nl1_ok hh)) k
theorem q_istore_6 (hC : Ok K cc own nL d θ sx Fi Fl Fv) {x : Int32} {a0 a1 a2 a3 a4 a5 o : Option Value} {tl : LV} (dg : decode cc pc = .ok (.istore 6, 2)) (k : K (pc + 2) (a0 :: a1 :: a2 :: a3 :: a4 :: a5 :: some (.int x) :: tl) st S) (hh : nl1 a5 = true := by rfl) : K pc (a0 :: a1 :: a2 :: a3 :: a4 :: a5 :: o :: tl) (.int x :: st) S :=
  q_istoreg (i := 6) hC dg (by simp) (nlg_i (i := 5) rfl (nl1_ok hh)) k
theorem q_astore_6 (hC : Ok K cc own nL d θ sx Fi Fl Fv) {x : Nat} {a0 a1 a2 a3 a4 a5 o : Option Value} {tl : LV} (dg : decode cc pc = .ok (.astore 6, 2)) (k : K (pc + 2) (a0 :: a1 :: a2 :: a3 :: a4 :: a5 :: some (.ref x) :: tl) st S) (hh : nl1 a5 = true := by rfl) : K pc (a0 :: a1 :: a2 :: a3 :: a4 :: a5 :: o :: tl) (.ref x :: st) S :=
  q_astoreg (i := 6) hC dg (by simp) (nlg_i (i := 5) rfl (nl1_ok hh)) k
theorem q_lstore_6 (hC : Ok K cc own nL d θ sx Fi Fl Fv) {x : Int64} {a0 a1 a2 a3 a4 a5 o o2 : Option Value} {tl : LV} (dg : decode cc pc = .ok (.lstore 6, 2)) (k : K (pc + 2) (a0 :: a1 :: a2 :: a3 :: a4 :: a5 :: some (.long x) :: none :: tl) st S) (hh : nl1 a5 = true := by rfl) : K pc (a0 :: a1 :: a2 :: a3 :: a4 :: a5 :: o :: o2 :: tl) (.long x :: st) S :=
  q_lstoreg (i := 6) hC dg (by simp) (nlg_i (i := 5) rfl (nl1_ok hh)) k
theorem q_iinc_6 (hC : Ok K cc own nL d θ sx Fi Fl Fv) {n : Int} {x v : Int32} {a0 a1 a2 a3 a4 a5 : Option Value} {tl : LV} (dg : decode cc pc = .ok (.iinc 6 n, 3)) (hv : x + Int32.ofInt n = v) (k : K (pc + 3) (a0 :: a1 :: a2 :: a3 :: a4 :: a5 :: some (.int v) :: tl) st S) (hh : nl1 a5 = true := by rfl) : K pc (a0 :: a1 :: a2 :: a3 :: a4 :: a5 :: some (.int x) :: tl) st S :=
  q_iincg (i := 6) hC dg rfl hv (by simp) (nlg_i (i := 5) rfl (nl1_ok hh)) k
theorem q_istore_7 (hC : Ok K cc own nL d θ sx Fi Fl Fv) {x : Int32} {a0 a1 a2 a3 a4 a5 a6 o : Option Value} {tl : LV} (dg : decode cc pc = .ok (.istore 7, 2)) (k : K (pc + 2) (a0 :: a1 :: a2 :: a3 :: a4 :: a5 :: a6 :: some (.int x) :: tl) st S) (hh : nl1 a6 = true := by rfl) : K pc (a0 :: a1 :: a2 :: a3 :: a4 :: a5 :: a6 :: o :: tl) (.int x :: st) S :=
  q_istoreg (i := 7) hC dg (by simp) (nlg_i (i := 6) rfl (nl1_ok hh)) k
theorem q_astore_7 (hC : Ok K cc own nL d θ sx Fi Fl Fv) {x : Nat} {a0 a1 a2 a3 a4 a5 a6 o : Option Value} {tl : LV} (dg : decode cc pc = .ok (.astore 7, 2)) (k : K (pc + 2) (a0 :: a1 :: a2 :: a3 :: a4 :: a5 :: a6 :: some (.ref x) :: tl) st S) (hh : nl1 a6 = true := by rfl) : K pc (a0 :: a1 :: a2 :: a3 :: a4 :: a5 :: a6 :: o :: tl) (.ref x :: st) S :=
  q_astoreg (i := 7) hC dg (by simp) (nlg_i (i := 6) rfl (nl1_ok hh)) k
theorem q_lstore_7 (hC : Ok K cc own nL d θ sx Fi Fl Fv) {x : Int64} {a0 a1 a2 a3 a4 a5 a6 o o2 : Option Value} {tl : LV} (dg : decode cc pc = .ok (.lstore 7, 2)) (k : K (pc + 2) (a0 :: a1 :: a2 :: a3 :: a4 :: a5 :: a6 :: some (.long x) :: none :: tl) st S) (hh : nl1 a6 = true := by rfl) : K pc (a0 :: a1 :: a2 :: a3 :: a4 :: a5 :: a6 :: o :: o2 :: tl) (.long x :: st) S :=
  q_lstoreg (i := 7) hC dg (by simp) (nlg_i (i := 6) rfl (nl1_ok hh)) k
theorem q_iinc_7 (hC : Ok K cc own nL d θ sx Fi Fl Fv) {n : Int} {x v : Int32} {a0 a1 a2 a3 a4 a5 a6 : Option Value} {tl : LV} (dg : decode cc pc = .ok (.iinc 7 n, 3)) (hv : x + Int32.ofInt n = v) (k : K (pc + 3) (a0 :: a1 :: a2 :: a3 :: a4 :: a5 :: a6 :: some (.int v) :: tl) st S) (hh : nl1 a6 = true := by rfl) : K pc (a0 :: a1 :: a2 :: a3 :: a4 :: a5 :: a6 :: some (.int x) :: tl) st S :=
  q_iincg (i := 7) hC dg rfl hv (by simp) (nlg_i (i := 6) rfl (nl1_ok hh)) k
theorem q_istore_8 (hC : Ok K cc own nL d θ sx Fi Fl Fv) {x : Int32} {a0 a1 a2 a3 a4 a5 a6 a7 o : Option Value} {tl : LV} (dg : decode cc pc = .ok (.istore 8, 2)) (k : K (pc + 2) (a0 :: a1 :: a2 :: a3 :: a4 :: a5 :: a6 :: a7 :: some (.int x) :: tl) st S) (hh : nl1 a7 = true := by rfl) : K pc (a0 :: a1 :: a2 :: a3 :: a4 :: a5 :: a6 :: a7 :: o :: tl) (.int x :: st) S :=
  q_istoreg (i := 8) hC dg (by simp) (nlg_i (i := 7) rfl (nl1_ok hh)) k
theorem q_astore_8 (hC : Ok K cc own nL d θ sx Fi Fl Fv) {x : Nat} {a0 a1 a2 a3 a4 a5 a6 a7 o : Option Value} {tl : LV} (dg : decode cc pc = .ok (.astore 8, 2)) (k : K (pc + 2) (a0 :: a1 :: a2 :: a3 :: a4 :: a5 :: a6 :: a7 :: some (.ref x) :: tl) st S) (hh : nl1 a7 = true := by rfl) : K pc (a0 :: a1 :: a2 :: a3 :: a4 :: a5 :: a6 :: a7 :: o :: tl) (.ref x :: st) S :=
  q_astoreg (i := 8) hC dg (by simp) (nlg_i (i := 7) rfl (nl1_ok hh)) k
theorem q_lstore_8 (hC : Ok K cc own nL d θ sx Fi Fl Fv) {x : Int64} {a0 a1 a2 a3 a4 a5 a6 a7 o o2 : Option Value} {tl : LV} (dg : decode cc pc = .ok (.lstore 8, 2)) (k : K (pc + 2) (a0 :: a1 :: a2 :: a3 :: a4 :: a5 :: a6 :: a7 :: some (.long x) :: none :: tl) st S) (hh : nl1 a7 = true := by rfl) : K pc (a0 :: a1 :: a2 :: a3 :: a4 :: a5 :: a6 :: a7 :: o :: o2 :: tl) (.long x :: st) S :=
  q_lstoreg (i := 8) hC dg (by simp) (nlg_i (i := 7) rfl (nl1_ok hh)) k
theorem q_iinc_8 (hC : Ok K cc own nL d θ sx Fi Fl Fv) {n : Int} {x v : Int32} {a0 a1 a2 a3 a4 a5 a6 a7 : Option Value} {tl : LV} (dg : decode cc pc = .ok (.iinc 8 n, 3)) (hv : x + Int32.ofInt n = v) (k : K (pc + 3) (a0 :: a1 :: a2 :: a3 :: a4 :: a5 :: a6 :: a7 :: some (.int v) :: tl) st S) (hh : nl1 a7 = true := by rfl) : K pc (a0 :: a1 :: a2 :: a3 :: a4 :: a5 :: a6 :: a7 :: some (.int x) :: tl) st S :=
  q_iincg (i := 8) hC dg rfl hv (by simp) (nlg_i (i := 7) rfl (nl1_ok hh)) k
theorem q_istore_9 (hC : Ok K cc own nL d θ sx Fi Fl Fv) {x : Int32} {a0 a1 a2 a3 a4 a5 a6 a7 a8 o : Option Value} {tl : LV} (dg : decode cc pc = .ok (.istore 9, 2)) (k : K (pc + 2) (a0 :: a1 :: a2 :: a3 :: a4 :: a5 :: a6 :: a7 :: a8 :: some (.int x) :: tl) st S) (hh : nl1 a8 = true := by rfl) : K pc (a0 :: a1 :: a2 :: a3 :: a4 :: a5 :: a6 :: a7 :: a8 :: o :: tl) (.int x :: st) S :=
  q_istoreg (i := 9) hC dg (by simp) (nlg_i (i := 8) rfl (nl1_ok hh)) k
theorem q_astore_9 (hC : Ok K cc own nL d θ sx Fi Fl Fv) {x : Nat} {a0 a1 a2 a3 a4 a5 a6 a7 a8 o : Option Value} {tl : LV} (dg : decode cc pc = .ok (.astore 9, 2)) (k : K (pc + 2) (a0 :: a1 :: a2 :: a3 :: a4 :: a5 :: a6 :: a7 :: a8 :: some (.ref x) :: tl) st S) (hh : nl1 a8 = true := by rfl) : K pc (a0 :: a1 :: a2 :: a3 :: a4 :: a5 :: a6 :: a7 :: a8 :: o :: tl) (.ref x :: st) S :=
  q_astoreg (i := 9) hC dg (by simp) (nlg_i (i := 8) rfl (nl1_ok hh)) k
theorem q_lstore_9 (hC : Ok K cc own nL d θ sx Fi Fl Fv) {x : Int64} {a0 a1 a2 a3 a4 a5 a6 a7 a8 o o2 : Option Value} {tl : LV} (dg : decode cc pc = .ok (.lstore 9, 2)) (k : K (pc + 2) (a0 :: a1 :: a2 :: a3 :: a4 :: a5 :: a6 :: a7 :: a8 :: some (.long x) :: none :: tl) st S) (hh : nl1 a8 = true := by rfl) : K pc (a0 :: a1 :: a2 :: a3 :: a4 :: a5 :: a6 :: a7 :: a8 :: o :: o2 :: tl) (.long x :: st) S :=
  q_lstoreg (i := 9) hC dg (by simp) (nlg_i (i := 8) rfl (nl1_ok hh)) k
theorem q_iinc_9 (hC : Ok K cc own nL d θ sx Fi Fl Fv) {n : Int} {x v : Int32} {a0 a1 a2 a3 a4 a5 a6 a7 a8 : Option Value} {tl : LV} (dg : decode cc pc = .ok (.iinc 9 n, 3)) (hv : x + Int32.ofInt n = v) (k : K (pc + 3) (a0 :: a1 :: a2 :: a3 :: a4 :: a5 :: a6 :: a7 :: a8 :: some (.int v) :: tl) st S) (hh : nl1 a8 = true := by rfl) : K pc (a0 :: a1 :: a2 :: a3 :: a4 :: a5 :: a6 :: a7 :: a8 :: some (.int x) :: tl) st S :=
  q_iincg (i := 9) hC dg rfl hv (by simp) (nlg_i (i := 8) rfl (nl1_ok hh)) k
theorem q_istore_10 (hC : Ok K cc own nL d θ sx Fi Fl Fv) {x : Int32} {a0 a1 a2 a3 a4 a5 a6 a7 a8 a9 o : Option Value} {tl : LV} (dg : decode cc pc = .ok (.istore 10, 2)) (k : K (pc + 2) (a0 :: a1 :: a2 :: a3 :: a4 :: a5 :: a6 :: a7 :: a8 :: a9 :: some (.int x) :: tl) st S) (hh : nl1 a9 = true := by rfl) : K pc (a0 :: a1 :: a2 :: a3 :: a4 :: a5 :: a6 :: a7 :: a8 :: a9 :: o :: tl) (.int x :: st) S :=
  q_istoreg (i := 10) hC dg (by simp) (nlg_i (i := 9) rfl (nl1_ok hh)) k
theorem q_astore_10 (hC : Ok K cc own nL d θ sx Fi Fl Fv) {x : Nat} {a0 a1 a2 a3 a4 a5 a6 a7 a8 a9 o : Option Value} {tl : LV} (dg : decode cc pc = .ok (.astore 10, 2)) (k : K (pc + 2) (a0 :: a1 :: a2 :: a3 :: a4 :: a5 :: a6 :: a7 :: a8 :: a9 :: some (.ref x) :: tl) st S) (hh : nl1 a9 = true := by rfl) : K pc (a0 :: a1 :: a2 :: a3 :: a4 :: a5 :: a6 :: a7 :: a8 :: a9 :: o :: tl) (.ref x :: st) S :=
  q_astoreg (i := 10) hC dg (by simp) (nlg_i (i := 9) rfl (nl1_ok hh)) k
theorem q_lstore_10 (hC : Ok K cc own nL d θ sx Fi Fl Fv) {x : Int64} {a0 a1 a2 a3 a4 a5 a6 a7 a8 a9 o o2 : Option Value} {tl : LV} (dg : decode cc pc = .ok (.lstore 10, 2)) (k : K (pc + 2) (a0 :: a1 :: a2 :: a3 :: a4 :: a5 :: a6 :: a7 :: a8 :: a9 :: some (.long x) :: none :: tl) st S) (hh : nl1 a9 = true := by rfl) : K pc (a0 :: a1 :: a2 :: a3 :: a4 :: a5 :: a6 :: a7 :: a8 :: a9 :: o :: o2 :: tl) (.long x :: st) S :=
  q_lstoreg (i := 10) hC dg (by simp) (nlg_i (i := 9) rfl (nl1_ok hh)) k
theorem q_iinc_10 (hC : Ok K cc own nL d θ sx Fi Fl Fv) {n : Int} {x v : Int32} {a0 a1 a2 a3 a4 a5 a6 a7 a8 a9 : Option Value} {tl : LV} (dg : decode cc pc = .ok (.iinc 10 n, 3)) (hv : x + Int32.ofInt n = v) (k : K (pc + 3) (a0 :: a1 :: a2 :: a3 :: a4 :: a5 :: a6 :: a7 :: a8 :: a9 :: some (.int v) :: tl) st S) (hh : nl1 a9 = true := by rfl) : K pc (a0 :: a1 :: a2 :: a3 :: a4 :: a5 :: a6 :: a7 :: a8 :: a9 :: some (.int x) :: tl) st S :=
  q_iincg (i := 10) hC dg rfl hv (by simp) (nlg_i (i := 9) rfl (nl1_ok hh)) k
theorem q_istore_11 (hC : Ok K cc own nL d θ sx Fi Fl Fv) {x : Int32} {a0 a1 a2 a3 a4 a5 a6 a7 a8 a9 a10 o : Option Value} {tl : LV} (dg : decode cc pc = .ok (.istore 11, 2)) (k : K (pc + 2) (a0 :: a1 :: a2 :: a3 :: a4 :: a5 :: a6 :: a7 :: a8 :: a9 :: a10 :: some (.int x) :: tl) st S) (hh : nl1 a10 = true := by rfl) : K pc (a0 :: a1 :: a2 :: a3 :: a4 :: a5 :: a6 :: a7 :: a8 :: a9 :: a10 :: o :: tl) (.int x :: st) S :=
  q_istoreg (i := 11) hC dg (by simp) (nlg_i (i := 10) rfl (nl1_ok hh)) k
theorem q_astore_11 (hC : Ok K cc own nL d θ sx Fi Fl Fv) {x : Nat} {a0 a1 a2 a3 a4 a5 a6 a7 a8 a9 a10 o : Option Value} {tl : LV} (dg : decode cc pc = .ok (.astore 11, 2)) (k : K (pc + 2) (a0 :: a1 :: a2 :: a3 :: a4 :: a5 :: a6 :: a7 :: a8 :: a9 :: a10 :: some (.ref x) :: tl) st S) (hh : nl1 a10 = true := by rfl) : K pc (a0 :: a1 :: a2 :: a3 :: a4 :: a5 :: a6 :: a7 :: a8 :: a9 :: a10 :: o :: tl) (.ref x :: st) S :=
  q_astoreg (i := 11) hC dg (by simp) (nlg_i (i := 10) rfl (nl1_ok hh)) k
theorem q_lstore_11 (hC : Ok K cc own nL d θ sx Fi Fl Fv) {x : Int64} {a0 a1 a2 a3 a4 a5 a6 a7 a8 a9 a10 o o2 : Option Value} {tl : LV} (dg : decode cc pc = .ok (.lstore 11, 2)) (k : K (pc + 2) (a0 :: a1 :: a2 :: a3 :: a4 :: a5 :: a6 :: a7 :: a8 :: a9 :: a10 :: some (.long x) :: none :: tl) st S) (hh : nl1 a10 = true := by rfl) : K pc (a0 :: a1 :: a2 :: a3 :: a4 :: a5 :: a6 :: a7 :: a8 :: a9 :: a10 :: o :: o2 :: tl) (.long x :: st) S :=
  q_lstoreg (i := 11) hC dg (by simp) (nlg_i (i := 10) rfl (nl1_ok hh)) k
theorem q_iinc_11 (hC : Ok K cc own nL d θ sx Fi Fl Fv) {n : Int} {x v : Int32} {a0 a1 a2 a3 a4 a5 a6 a7 a8 a9 a10 : Option Value} {tl : LV} (dg : decode cc pc = .ok (.iinc 11 n, 3)) (hv : x + Int32.ofInt n = v) (k : K (pc + 3) (a0 :: a1 :: a2 :: a3 :: a4 :: a5 :: a6 :: a7 :: a8 :: a9 :: a10 :: some (.int v) :: tl) st S) (hh : nl1 a10 = true := by rfl) : K pc (a0 :: a1 :: a2 :: a3 :: a4 :: a5 :: a6 :: a7 :: a8 :: a9 :: a10 :: some (.int x) :: tl) st S :=
  q_iincg (i := 11) hC dg rfl hv (by simp) (nlg_i (i := 10) rfl (nl1_ok hh)) k
theorem q_istore_12 (hC : Ok K cc own nL d θ sx Fi Fl Fv) {x : Int32} {a0 a1 a2 a3 a4 a5 a6 a7 a8 a9 a10 a11 o : Option Value} {tl : LV} (dg : decode cc pc = .ok (.istore 12, 2)) (k : K (pc + 2) (a0 :: a1 :: a2 :: a3 :: a4 :: a5 :: a6 :: a7 :: a8 :: a9 :: a10 :: a11 :: some (.int x) :: tl) st S) (hh : nl1 a11 = true := by rfl) : K pc (a0 :: a1 :: a2 :: a3 :: a4 :: a5 :: a6 :: a7 :: a8 :: a9 :: a10 :: a11 :: o :: tl) (.int x :: st) S :=
  q_istoreg (i := 12) hC dg (by simp) (nlg_i (i := 11) rfl (nl1_ok hh)) k
theorem q_astore_12 (hC : Ok K cc own nL d θ sx Fi Fl Fv) {x : Nat} {a0 a1 a2 a3 a4 a5 a6 a7 a8 a9 a10 a11 o : Option Value} {tl : LV} (dg : decode cc pc = .ok (.astore 12, 2)) (k : K (pc + 2) (a0 :: a1 :: a2 :: a3 :: a4 :: a5 :: a6 :: a7 :: a8 :: a9 :: a10 :: a11 :: some (.ref x) :: tl) st S) (hh : nl1 a11 = true := by rfl) : K pc (a0 :: a1 :: a2 :: a3 :: a4 :: a5 :: a6 :: a7 :: a8 :: a9 :: a10 :: a11 :: o :: tl) (.ref x :: st) S :=
  q_astoreg (i := 12) hC dg (by simp) (nlg_i (i := 11) rfl (nl1_ok hh)) k
theorem q_lstore_12 (hC : Ok K cc own nL d θ sx Fi Fl Fv) {x : Int64} {a0 a1 a2 a3 a4 a5 a6 a7 a8 a9 a10 a11 o o2 : Option Value} {tl : LV} (dg : decode cc pc = .ok (.lstore 12, 2)) (k : K (pc + 2) (a0 :: a1 :: a2 :: a3 :: a4 :: a5 :: a6 :: a7 :: a8 :: a9 :: a10 :: a11 :: some (.long x) :: none :: tl) st S) (hh : nl1 a11 = true := by rfl) : K pc (a0 :: a1 :: a2 :: a3 :: a4 :: a5 :: a6 :: a7 :: a8 :: a9 :: a10 :: a11 :: o :: o2 :: tl) (.long x :: st) S :=
  q_lstoreg (i := 12) hC dg (by simp) (nlg_i (i := 11) rfl (nl1_ok hh)) k
theorem q_iinc_12 (hC : Ok K cc own nL d θ sx Fi Fl Fv) {n : Int} {x v : Int32} {a0 a1 a2 a3 a4 a5 a6 a7 a8 a9 a10 a11 : Option Value} {tl : LV} (dg : decode cc pc = .ok (.iinc 12 n, 3)) (hv : x + Int32.ofInt n = v) (k : K (pc + 3) (a0 :: a1 :: a2 :: a3 :: a4 :: a5 :: a6 :: a7 :: a8 :: a9 :: a10 :: a11 :: some (.int v) :: tl) st S) (hh : nl1 a11 = true := by rfl) : K pc (a0 :: a1 :: a2 :: a3 :: a4 :: a5 :: a6 :: a7 :: a8 :: a9 :: a10 :: a11 :: some (.int x) :: tl) st S :=
  q_iincg (i := 12) hC dg rfl hv (by simp) (nlg_i (i := 11) rfl (nl1_ok hh)) k
theorem q_istore_13 (hC : Ok K cc own nL d θ sx Fi Fl Fv) {x : Int32} {a0 a1 a2 a3 a4 a5 a6 a7 a8 a9 a10 a11 a12 o : Option Value} {tl : LV} (dg : decode cc pc = .ok (.istore 13, 2)) (k : K (pc + 2) (a0 :: a1 :: a2 :: a3 :: a4 :: a5 :: a6 :: a7 :: a8 :: a9 :: a10 :: a11 :: a12 :: some (.int x) :: tl) st S) (hh : nl1 a12 = true := by rfl) : K pc (a0 :: a1 :: a2 :: a3 :: a4 :: a5 :: a6 :: a7 :: a8 :: a9 :: a10 :: a11 :: a12 :: o :: tl) (.int x :: st) S :=
  q_istoreg (i := 13) hC dg (by simp) (nlg_i (i := 12) rfl (nl1_ok hh)) k
theorem q_astore_13 (hC : Ok K cc own nL d θ sx Fi Fl Fv) {x : Nat} {a0 a1 a2 a3 a4 a5 a6 a7 a8 a9 a10 a11 a12 o : Option Value} {tl : LV} (dg : decode cc pc = .ok (.astore 13, 2)) (k : K (pc + 2) (a0 :: a1 :: a2 :: a3 :: a4 :: a5 :: a6 :: a7 :: a8 :: a9 :: a10 :: a11 :: a12 :: some (.ref x) :: tl) st S) (hh : nl1 a12 = true := by rfl) : K pc (a0 :: a1 :: a2 :: a3 :: a4 :: a5 :: a6 :: a7 :: a8 :: a9 :: a10 :: a11 :: a12 :: o :: tl) (.ref x :: st) S :=
  q_astoreg (i := 13) hC dg (by simp) (nlg_i (i := 12) rfl (nl1_ok hh)) k
theorem q_lstore_13 (hC : Ok K cc own nL d θ sx Fi Fl Fv) {x : Int64} {a0 a1 a2 a3 a4 a5 a6 a7 a8 a9 a10 a11 a12 o o2 : Option Value} {tl : LV} (dg : decode cc pc = .ok (.lstore 13, 2)) (k : K (pc + 2) (a0 :: a1 :: a2 :: a3 :: a4 :: a5 :: a6 :: a7 :: a8 :: a9 :: a10 :: a11 :: a12 :: some (.long x) :: none :: tl) st S) (hh : nl1 a12 = true := by rfl) : K pc (a0 :: a1 :: a2 :: a3 :: a4 :: a5 :: a6 :: a7 :: a8 :: a9 :: a10 :: a11 :: a12 :: o :: o2 :: tl) (.long x :: st) S :=
  q_lstoreg (i := 13) hC dg (by simp) (nlg_i (i := 12) rfl (nl1_ok hh)) k
theorem q_iinc_13 (hC : Ok K cc own nL d θ sx Fi Fl Fv) {n : Int} {x v : Int32} {a0 a1 a2 a3 a4 a5 a6 a7 a8 a9 a10 a11 a12 : Option Value} {tl : LV} (dg : decode cc pc = .ok (.iinc 13 n, 3)) (hv : x + Int32.ofInt n = v) (k : K (pc + 3) (a0 :: a1 :: a2 :: a3 :: a4 :: a5 :: a6 :: a7 :: a8 :: a9 :: a10 :: a11 :: a12 :: some (.int v) :: tl) st S) (hh : nl1 a12 = true := by rfl) : K pc (a0 :: a1 :: a2 :: a3 :: a4 :: a5 :: a6 :: a7 :: a8 :: a9 :: a10 :: a11 :: a12 :: some (.int x) :: tl) st S :=
  q_iincg (i := 13) hC dg rfl hv (by simp) (nlg_i (i := 12) rfl (nl1_ok hh)) k
theorem q_istore_14 (hC : Ok K cc own nL d θ sx Fi Fl Fv) {x : Int32} {a0 a1 a2 a3 a4 a5 a6 a7 a8 a9 a10 a11 a12 a13 o : Option Value} {tl : LV} (dg : decode cc pc = .ok (.istore 14, 2)) (k : K (pc + 2) (a0 :: a1 :: a2 :: a3 :: a4 :: a5 :: a6 :: a7 :: a8 :: a9 :: a10 :: a11 :: a12 :: a13 :: some (.int x) :: tl) st S) (hh : nl1 a13 = true := by rfl) : K pc (a0 :: a1 :: a2 :: a3 :: a4 :: a5 :: a6 :: a7 :: a8 :: a9 :: a10 :: a11 :: a12 :: a13 :: o :: tl) (.int x :: st) S :=
  q_istoreg (i := 14) hC dg (by simp) (nlg_i (i := 13) rfl (nl1_ok hh)) k
theorem q_astore_14 (hC : Ok K cc own nL d θ sx Fi Fl Fv) {x : Nat} {a0 a1 a2 a3 a4 a5 a6 a7 a8 a9 a10 a11 a12 a13 o : Option Value} {tl : LV} (dg : decode cc pc = .ok (.astore 14, 2)) (k : K (pc + 2) (a0 :: a1 :: a2 :: a3 :: a4 :: a5 :: a6 :: a7 :: a8 :: a9 :: a10 :: a11 :: a12 :: a13 :: some (.ref x) :: tl) st S) (hh : nl1 a13 = true := by rfl) : K pc (a0 :: a1 :: a2 :: a3 :: a4 :: a5 :: a6 :: a7 :: a8 :: a9 :: a10 :: a11 :: a12 :: a13 :: o :: tl) (.ref x :: st) S :=
  q_astoreg (i := 14) hC dg (by simp) (nlg_i (i := 13) rfl (nl1_ok hh)) k
theorem q_lstore_14 (hC : Ok K cc own nL d θ sx Fi Fl Fv) {x : Int64} {a0 a1 a2 a3 a4 a5 a6 a7 a8 a9 a10 a11 a12 a13 o o2 : Option Value} {tl : LV} (dg : decode cc pc = .ok (.lstore 14, 2)) (k : K (pc + 2) (a0 :: a1 :: a2 :: a3 :: a4 :: a5 :: a6 :: a7 :: a8 :: a9 :: a10 :: a11 :: a12 :: a13 :: some (.long x) :: none :: tl) st S) (hh : nl1 a13 = true := by rfl) : K pc (a0 :: a1 :: a2 :: a3 :: a4 :: a5 :: a6 :: a7 :: a8 :: a9 :: a10 :: a11 :: a12 :: a13 :: o :: o2 :: tl) (.long x :: st) S :=
  q_lstoreg (i := 14) hC dg (by simp) (nlg_i (i := 13) rfl (nl1_ok hh)) k
theorem q_iinc_14 (hC : Ok K cc own nL d θ sx Fi Fl Fv) {n : Int} {x v : Int32} {a0 a1 a2 a3 a4 a5 a6 a7 a8 a9 a10 a11 a12 a13 : Option Value} {tl : LV} (dg : decode cc pc = .ok (.iinc 14 n, 3)) (hv : x + Int32.ofInt n = v) (k : K (pc + 3) (a0 :: a1 :: a2 :: a3 :: a4 :: a5 :: a6 :: a7 :: a8 :: a9 :: a10 :: a11 :: a12 :: a13 :: some (.int v) :: tl) st S) (hh : nl1 a13 = true := by rfl) : K pc (a0 :: a1 :: a2 :: a3 :: a4 :: a5 :: a6 :: a7 :: a8 :: a9 :: a10 :: a11 :: a12 :: a13 :: some (.int x) :: tl) st S :=
  q_iincg (i := 14) hC dg rfl hv (by simp) (nlg_i (i := 13) rfl (nl1_ok hh)) k
theorem q_istore_15 (hC : Ok K cc own nL d θ sx Fi Fl Fv) {x : Int32} {a0 a1 a2 a3 a4 a5 a6 a7 a8 a9 a10 a11 a12 a13 a14 o : Option Value} {tl : LV} (dg : decode cc pc = .ok (.istore 15, 2)) (k : K (pc + 2) (a0 :: a1 :: a2 :: a3 :: a4 :: a5 :: a6 :: a7 :: a8 :: a9 :: a10 :: a11 :: a12 :: a13 :: a14 :: some (.int x) :: tl) st S) (hh : nl1 a14 = true := by rfl) : K pc (a0 :: a1 :: a2 :: a3 :: a4 :: a5 :: a6 :: a7 :: a8 :: a9 :: a10 :: a11 :: a12 :: a13 :: a14 :: o :: tl) (.int x :: st) S :=
  q_istoreg (i := 15) hC dg (by simp) (nlg_i (i := 14) rfl (nl1_ok hh)) k
theorem q_astore_15 (hC : Ok K cc own nL d θ sx Fi Fl Fv) {x : Nat} {a0 a1 a2 a3 a4 a5 a6 a7 a8 a9 a10 a11 a12 a13 a14 o : Option Value} {tl : LV} (dg : decode cc pc = .ok (.astore 15, 2)) (k : K (pc + 2) (a0 :: a1 :: a2 :: a3 :: a4 :: a5 :: a6 :: a7 :: a8 :: a9 :: a10 :: a11 :: a12 :: a13 :: a14 :: some (.ref x) :: tl) st S) (hh : nl1 a14 = true := by rfl) : K pc (a0 :: a1 :: a2 :: a3 :: a4 :: a5 :: a6 :: a7 :: a8 :: a9 :: a10 :: a11 :: a12 :: a13 :: a14 :: o :: tl) (.ref x :: st) S :=
  q_astoreg (i := 15) hC dg (by simp) (nlg_i (i := 14) rfl (nl1_ok hh)) k
theorem q_lstore_15 (hC : Ok K cc own nL d θ sx Fi Fl Fv) {x : Int64} {a0 a1 a2 a3 a4 a5 a6 a7 a8 a9 a10 a11 a12 a13 a14 o o2 : Option Value} {tl : LV} (dg : decode cc pc = .ok (.lstore 15, 2)) (k : K (pc + 2) (a0 :: a1 :: a2 :: a3 :: a4 :: a5 :: a6 :: a7 :: a8 :: a9 :: a10 :: a11 :: a12 :: a13 :: a14 :: some (.long x) :: none :: tl) st S) (hh : nl1 a14 = true := by rfl) : K pc (a0 :: a1 :: a2 :: a3 :: a4 :: a5 :: a6 :: a7 :: a8 :: a9 :: a10 :: a11 :: a12 :: a13 :: a14 :: o :: o2 :: tl) (.long x :: st) S :=
  q_lstoreg (i := 15) hC dg (by simp) (nlg_i (i := 14) rfl (nl1_ok hh)) k
theorem q_iinc_15 (hC : Ok K cc own nL d θ sx Fi Fl Fv) {n : Int} {x v : Int32} {a0 a1 a2 a3 a4 a5 a6 a7 a8 a9 a10 a11 a12 a13 a14 : Option Value} {tl : LV} (dg : decode cc pc = .ok (.iinc 15 n, 3)) (hv : x + Int32.ofInt n = v) (k : K (pc + 3) (a0 :: a1 :: a2 :: a3 :: a4 :: a5 :: a6 :: a7 :: a8 :: a9 :: a10 :: a11 :: a12 :: a13 :: a14 :: some (.int v) :: tl) st S) (hh : nl1 a14 = true := by rfl) : K pc (a0 :: a1 :: a2 :: a3 :: a4 :: a5 :: a6 :: a7 :: a8 :: a9 :: a10 :: a11 :: a12 :: a13 :: a14 :: some (.int x) :: tl) st S :=
  q_iincg (i := 15) hC dg rfl hv (by simp) (nlg_i (i := 14) rfl (nl1_ok hh)) k
theorem q_istore_16 (hC : Ok K cc own nL d θ sx Fi Fl Fv) {x : Int32} {a0 a1 a2 a3 a4 a5 a6 a7 a8 a9 a10 a11 a12 a13 a14 a15 o : Option Value} {tl : LV} (dg : decode cc pc = .ok (.istore 16, 2)) (k : K (pc + 2) (a0 :: a1 :: a2 :: a3 :: a4 :: a5 :: a6 :: a7 :: a8 :: a9 :: a10 :: a11 :: a12 :: a13 :: a14 :: a15 :: some (.int x) :: tl) st S) (hh : nl1 a15 = true := by rfl) : K pc (a0 :: a1 :: a2 :: a3 :: a4 :: a5 :: a6 :: a7 :: a8 :: a9 :: a10 :: a11 :: a12 :: a13 :: a14 :: a15 :: o :: tl) (.int x :: st) S :=
  q_istoreg (i := 16) hC dg (by simp) (nlg_i (i := 15) rfl (nl1_ok hh)) k
theorem q_astore_16 (hC : Ok K cc own nL d θ sx Fi Fl Fv) {x : Nat} {a0 a1 a2 a3 a4 a5 a6 a7 a8 a9 a10 a11 a12 a13 a14 a15 o : Option Value} {tl : LV} (dg : decode cc pc = .ok (.astore 16, 2)) (k : K (pc + 2) (a0 :: a1 :: a2 :: a3 :: a4 :: a5 :: a6 :: a7 :: a8 :: a9 :: a10 :: a11 :: a12 :: a13 :: a14 :: a15 :: some (.ref x) :: tl) st S) (hh : nl1 a15 = true := by rfl) : K pc (a0 :: a1 :: a2 :: a3 :: a4 :: a5 :: a6 :: a7 :: a8 :: a9 :: a10 :: a11 :: a12 :: a13 :: a14 :: a15 :: o :: tl) (.ref x :: st) S :=
  q_astoreg (i := 16) hC dg (by simp) (nlg_i (i := 15) rfl (nl1_ok hh)) k
theorem q_lstore_16 (hC : Ok K cc own nL d θ sx Fi Fl Fv) {x : Int64} {a0 a1 a2 a3 a4 a5 a6 a7 a8 a9 a10 a11 a12 a13 a14 a15 o o2 : Option Value} {tl : LV} (dg : decode cc pc = .ok (.lstore 16, 2)) (k : K (pc + 2) (a0 :: a1 :: a2 :: a3 :: a4 :: a5 :: a6 :: a7 :: a8 :: a9 :: a10 :: a11 :: a12 :: a13 :: a14 :: a15 :: some (.long x) :: none :: tl) st S) (hh : nl1 a15 = true := by rfl) : K pc (a0 :: a1 :: a2 :: a3 :: a4 :: a5 :: a6 :: a7 :: a8 :: a9 :: a10 :: a11 :: a12 :: a13 :: a14 :: a15 :: o :: o2 :: tl) (.long x :: st) S :=
  q_lstoreg (i := 16) hC dg (by simp) (nlg_i (i := 15) rfl (nl1_ok hh)) k
theorem q_iinc_16 (hC : Ok K cc own nL d θ sx Fi Fl Fv) {n : Int} {x v : Int32} {a0 a1 a2 a3 a4 a5 a6 a7 a8 a9 a10 a11 a12 a13 a14 a15 : Option Value} {tl : LV} (dg : decode cc pc = .ok (.iinc 16 n, 3)) (hv : x + Int32.ofInt n = v) (k : K (pc + 3) (a0 :: a1 :: a2 :: a3 :: a4 :: a5 :: a6 :: a7 :: a8 :: a9 :: a10 :: a11 :: a12 :: a13 :: a14 :: a15 :: some (.int v) :: tl) st S) (hh : nl1 a15 = true := by rfl) : K pc (a0 :: a1 :: a2 :: a3 :: a4 :: a5 :: a6 :: a7 :: a8 :: a9 :: a10 :: a11 :: a12 :: a13 :: a14 :: a15 :: some (.int x) :: tl) st S :=
  q_iincg (i := 16) hC dg rfl hv (by simp) (nlg_i (i := 15) rfl (nl1_ok hh)) k
theorem q_istore_17 (hC : Ok K cc own nL d θ sx Fi Fl Fv) {x : Int32} {a0 a1 a2 a3 a4 a5 a6 a7 a8 a9 a10 a11 a12 a13 a14 a15 a16 o : Option Value} {tl : LV} (dg : decode cc pc = .ok (.istore 17, 2)) (k : K (pc + 2) (a0 :: a1 :: a2 :: a3 :: a4 :: a5 :: a6 :: a7 :: a8 :: a9 :: a10 :: a11 :: a12 :: a13 :: a14 :: a15 :: a16 :: some (.int x) :: tl) st S) (hh : nl1 a16 = true := by rfl) : K pc (a0 :: a1 :: a2 :: a3 :: a4 :: a5 :: a6 :: a7 :: a8 :: a9 :: a10 :: a11 :: a12 :: a13 :: a14 :: a15 :: a16 :: o :: tl) (.int x :: st) S :=
  q_istoreg (i := 17) hC dg (by simp) (nlg_i (i := 16) rfl (nl1_ok hh)) k
theorem q_astore_17 (hC : Ok K cc own nL d θ sx Fi Fl Fv) {x : Nat} {a0 a1 a2 a3 a4 a5 a6 a7 a8 a9 a10 a11 a12 a13 a14 a15 a16 o : Option Value} {tl : LV} (dg : decode cc pc = .ok (.astore 17, 2)) (k : K (pc + 2) (a0 :: a1 :: a2 :: a3 :: a4 :: a5 :: a6 :: a7 :: a8 :: a9 :: a10 :: a11 :: a12 :: a13 :: a14 :: a15 :: a16 :: some (.ref x) :: tl) st S) (hh : nl1 a16 = true := by rfl) : K pc (a0 :: a1 :: a2 :: a3 :: a4 :: a5 :: a6 :: a7 :: a8 :: a9 :: a10 :: a11 :: a12 :: a13 :: a14 :: a15 :: a16 :: o :: tl) (.ref x :: st) S :=
  q_astoreg (i := 17) hC dg (by simp) (nlg_i (i := 16) rfl (nl1_ok hh)) k
theorem q_lstore_17 (hC : Ok K cc own nL d θ sx Fi Fl Fv) {x : Int64} {a0 a1 a2 a3 a4 a5 a6 a7 a8 a9 a10 a11 a12 a13 a14 a15 a16 o o2 : Option Value} {tl : LV} (dg : decode cc pc = .ok (.lstore 17, 2)) (k : K (pc + 2) (a0 :: a1 :: a2 :: a3 :: a4 :: a5 :: a6 :: a7 :: a8 :: a9 :: a10 :: a11 :: a12 :: a13 :: a14 :: a15 :: a16 :: some (.long x) :: none :: tl) st S) (hh : nl1 a16 = true := by rfl) : K pc (a0 :: a1 :: a2 :: a3 :: a4 :: a5 :: a6 :: a7 :: a8 :: a9 :: a10 :: a11 :: a12 :: a13 :: a14 :: a15 :: a16 :: o :: o2 :: tl) (.long x :: st) S :=
  q_lstoreg (i := 17) hC dg (by simp) (nlg_i (i := 16) rfl (nl1_ok hh)) k
theorem q_iinc_17 (hC : Ok K cc own nL d θ sx Fi Fl Fv) {n : Int} {x v : Int32} {a0 a1 a2 a3 a4 a5 a6 a7 a8 a9 a10 a11 a12 a13 a14 a15 a16 : Option Value} {tl : LV} (dg : decode cc pc = .ok (.iinc 17 n, 3)) (hv : x + Int32.ofInt n = v) (k : K (pc + 3) (a0 :: a1 :: a2 :: a3 :: a4 :: a5 :: a6 :: a7 :: a8 :: a9 :: a10 :: a11 :: a12 :: a13 :: a14 :: a15 :: a16 :: some (.int v) :: tl) st S) (hh : nl1 a16 = true := by rfl) : K pc (a0 :: a1 :: a2 :: a3 :: a4 :: a5 :: a6 :: a7 :: a8 :: a9 :: a10 :: a11 :: a12 :: a13 :: a14 :: a15 :: a16 :: some (.int x) :: tl) st S :=
  q_iincg (i := 17) hC dg rfl hv (by simp) (nlg_i (i := 16) rfl (nl1_ok hh)) k
theorem q_istore_18 (hC : Ok K cc own nL d θ sx Fi Fl Fv) {x : Int32} {a0 a1 a2 a3 a4 a5 a6 a7 a8 a9 a10 a11 a12 a13 a14 a15 a16 a17 o : Option Value} {tl : LV} (dg : decode cc pc = .ok (.istore 18, 2)) (k : K (pc + 2) (a0 :: a1 :: a2 :: a3 :: a4 :: a5 :: a6 :: a7 :: a8 :: a9 :: a10 :: a11 :: a12 :: a13 :: a14 :: a15 :: a16 :: a17 :: some (.int x) :: tl) st S) (hh : nl1 a17 = true := by rfl) : K pc (a0 :: a1 :: a2 :: a3 :: a4 :: a5 :: a6 :: a7 :: a8 :: a9 :: a10 :: a11 :: a12 :: a13 :: a14 :: a15 :: a16 :: a17 :: o :: tl) (.int x :: st) S :=
  q_istoreg (i := 18) hC dg (by simp) (nlg_i (i := 17) rfl (nl1_ok hh)) k
theorem q_astore_18 (hC : Ok K cc own nL d θ sx Fi Fl Fv) {x : Nat} {a0 a1 a2 a3 a4 a5 a6 a7 a8 a9 a10 a11 a12 a13 a14 a15 a16 a17 o : Option Value} {tl : LV} (dg : decode cc pc = .ok (.astore 18, 2)) (k : K (pc + 2) (a0 :: a1 :: a2 :: a3 :: a4 :: a5 :: a6 :: a7 :: a8 :: a9 :: a10 :: a11 :: a12 :: a13 :: a14 :: a15 :: a16 :: a17 :: some (.ref x) :: tl) st S) (hh : nl1 a17 = true := by rfl) : K pc (a0 :: a1 :: a2 :: a3 :: a4 :: a5 :: a6 :: a7 :: a8 :: a9 :: a10 :: a11 :: a12 :: a13 :: a14 :: a15 :: a16 :: a17 :: o :: tl) (.ref x :: st) S :=
  q_astoreg (i := 18) hC dg (by simp) (nlg_i (i := 17) rfl (nl1_ok hh)) k
theorem q_lstore_18 (hC : Ok K cc own nL d θ sx Fi Fl Fv) {x : Int64} {a0 a1 a2 a3 a4 a5 a6 a7 a8 a9 a10 a11 a12 a13 a14 a15 a16 a17 o o2 : Option Value} {tl : LV} (dg : decode cc pc = .ok (.lstore 18, 2)) (k : K (pc + 2) (a0 :: a1 :: a2 :: a3 :: a4 :: a5 :: a6 :: a7 :: a8 :: a9 :: a10 :: a11 :: a12 :: a13 :: a14 :: a15 :: a16 :: a17 :: some (.long x) :: none :: tl) st S) (hh : nl1 a17 = true := by rfl) : K pc (a0 :: a1 :: a2 :: a3 :: a4 :: a5 :: a6 :: a7 :: a8 :: a9 :: a10 :: a11 :: a12 :: a13 :: a14 :: a15 :: a16 :: a17 :: o :: o2 :: tl) (.long x :: st) S :=
  q_lstoreg (i := 18) hC dg (by simp) (nlg_i (i := 17) rfl (nl1_ok hh)) k
theorem q_iinc_18 (hC : Ok K cc own nL d θ sx Fi Fl Fv) {n : Int} {x v : Int32} {a0 a1 a2 a3 a4 a5 a6 a7 a8 a9 a10 a11 a12 a13 a14 a15 a16 a17 : Option Value} {tl : LV} (dg : decode cc pc = .ok (.iinc 18 n, 3)) (hv : x + Int32.ofInt n = v) (k : K (pc + 3) (a0 :: a1 :: a2 :: a3 :: a4 :: a5 :: a6 :: a7 :: a8 :: a9 :: a10 :: a11 :: a12 :: a13 :: a14 :: a15 :: a16 :: a17 :: some (.int v) :: tl) st S) (hh : nl1 a17 = true := by rfl) : K pc (a0 :: a1 :: a2 :: a3 :: a4 :: a5 :: a6 :: a7 :: a8 :: a9 :: a10 :: a11 :: a12 :: a13 :: a14 :: a15 :: a16 :: a17 :: some (.int x) :: tl) st S :=
  q_iincg (i := 18) hC dg rfl hv (by simp) (nlg_i (i := 17) rfl (nl1_ok hh)) k
theorem q_istore_19 (hC : Ok K cc own nL d θ sx Fi Fl Fv) {x : Int32} {a0 a1 a2 a3 a4 a5 a6 a7 a8 a9 a10 a11 a12 a13 a14 a15 a16 a17 a18 o : Option Value} {tl : LV} (dg : decode cc pc = .ok (.istore 19, 2)) (k : K (pc + 2) (a0 :: a1 :: a2 :: a3 :: a4 :: a5 :: a6 :: a7 :: a8 :: a9 :: a10 :: a11 :: a12 :: a13 :: a14 :: a15 :: a16 :: a17 :: a18 :: some (.int x) :: tl) st S) (hh : nl1 a18 = true := by rfl) : K pc (a0 :: a1 :: a2 :: a3 :: a4 :: a5 :: a6 :: a7 :: a8 :: a9 :: a10 :: a11 :: a12 :: a13 :: a14 :: a15 :: a16 :: a17 :: a18 :: o :: tl) (.int x :: st) S :=
  q_istoreg (i := 19) hC dg (by simp) (nlg_i (i := 18) rfl (nl1_ok hh)) k
theorem q_astore_19 (hC : Ok K cc own nL d θ sx Fi Fl Fv) {x : Nat} {a0 a1 a2 a3 a4 a5 a6 a7 a8 a9 a10 a11 a12 a13 a14 a15 a16 a17 a18 o : Option Value} {tl : LV} (dg : decode cc pc = .ok (.astore 19, 2)) (k : K (pc + 2) (a0 :: a1 :: a2 :: a3 :: a4 :: a5 :: a6 :: a7 :: a8 :: a9 :: a10 :: a11 :: a12 :: a13 :: a14 :: a15 :: a16 :: a17 :: a18 :: some (.ref x) :: tl) st S) (hh : nl1 a18 = true := by rfl) : K pc (a0 :: a1 :: a2 :: a3 :: a4 :: a5 :: a6 :: a7 :: a8 :: a9 :: a10 :: a11 :: a12 :: a13 :: a14 :: a15 :: a16 :: a17 :: a18 :: o :: tl) (.ref x :: st) S :=
  q_astoreg (i := 19) hC dg (by simp) (nlg_i (i := 18) rfl (nl1_ok hh)) k
theorem q_lstore_19 (hC : Ok K cc own nL d θ sx Fi Fl Fv) {x : Int64} {a0 a1 a2 a3 a4 a5 a6 a7 a8 a9 a10 a11 a12 a13 a14 a15 a16 a17 a18 o o2 : Option Value} {tl : LV} (dg : decode cc pc = .ok (.lstore 19, 2)) (k : K (pc + 2) (a0 :: a1 :: a2 :: a3 :: a4 :: a5 :: a6 :: a7 :: a8 :: a9 :: a10 :: a11 :: a12 :: a13 :: a14 :: a15 :: a16 :: a17 :: a18 :: some (.long x) :: none :: tl) st S) (hh : nl1 a18 = true := by rfl) : K pc (a0 :: a1 :: a2 :: a3 :: a4 :: a5 :: a6 :: a7 :: a8 :: a9 :: a10 :: a11 :: a12 :: a13 :: a14 :: a15 :: a16 :: a17 :: a18 :: o :: o2 :: tl) (.long x :: st) S :=
  q_lstoreg (i := 19) hC dg (by simp) (nlg_i (i := 18) rfl (nl1_ok hh)) k
theorem q_iinc_19 (hC : Ok K cc own nL d θ sx Fi Fl Fv) {n : Int} {x v : Int32} {a0 a1 a2 a3 a4 a5 a6 a7 a8 a9 a10 a11 a12 a13 a14 a15 a16 a17 a18 : Option Value} {tl : LV} (dg : decode cc pc = .ok (.iinc 19 n, 3)) (hv : x + Int32.ofInt n = v) (k : K (pc + 3) (a0 :: a1 :: a2 :: a3 :: a4 :: a5 :: a6 :: a7 :: a8 :: a9 :: a10 :: a11 :: a12 :: a13 :: a14 :: a15 :: a16 :: a17 :: a18 :: some (.int v) :: tl) st S) (hh : nl1 a18 = true := by rfl) : K pc (a0 :: a1 :: a2 :: a3 :: a4 :: a5 :: a6 :: a7 :: a8 :: a9 :: a10 :: a11 :: a12 :: a13 :: a14 :: a15 :: a16 :: a17 :: a18 :: some (.int x) :: tl) st S :=
  q_iincg (i := 19) hC dg rfl hv (by simp) (nlg_i (i := 18) rfl (nl1_ok hh)) k
theorem q_istore_20 (hC : Ok K cc own nL d θ sx Fi Fl Fv) {x : Int32} {a0 a1 a2 a3 a4 a5 a6 a7 a8 a9 a10 a11 a12 a13 a14 a15 a16 a17 a18 a19 o : Option Value} {tl : LV} (dg : decode cc pc = .ok (.istore 20, 2)) (k : K (pc + 2) (a0 :: a1 :: a2 :: a3 :: a4 :: a5 :: a6 :: a7 :: a8 :: a9 :: a10 :: a11 :: a12 :: a13 :: a14 :: a15 :: a16 :: a17 :: a18 :: a19 :: some (.int x) :: tl) st S) (hh : nl1 a19 = true := by rfl) : K pc (a0 :: a1 :: a2 :: a3 :: a4 :: a5 :: a6 :: a7 :: a8 :: a9 :: a10 :: a11 :: a12 :: a13 :: a14 :: a15 :: a16 :: a17 :: a18 :: a19 :: o :: tl) (.int x :: st) S :=
  q_istoreg (i := 20) hC dg (by simp) (nlg_i (i := 19) rfl (nl1_ok hh)) k
theorem q_astore_20 (hC : Ok K cc own nL d θ sx Fi Fl Fv) {x : Nat} {a0 a1 a2 a3 a4 a5 a6 a7 a8 a9 a10 a11 a12 a13 a14 a15 a16 a17 a18 a19 o : Option Value} {tl : LV} (dg : decode cc pc = .ok (.astore 20, 2)) (k : K (pc + 2) (a0 :: a1 :: a2 :: a3 :: a4 :: a5 :: a6 :: a7 :: a8 :: a9 :: a10 :: a11 :: a12 :: a13 :: a14 :: a15 :: a16 :: a17 :: a18 :: a19 :: some (.ref x) :: tl) st S) (hh : nl1 a19 = true := by rfl) : K pc (a0 :: a1 :: a2 :: a3 :: a4 :: a5 :: a6 :: a7 :: a8 :: a9 :: a10 :: a11 :: a12 :: a13 :: a14 :: a15 :: a16 :: a17 :: a18 :: a19 :: o :: tl) (.ref x :: st) S :=
  q_astoreg (i := 20) hC dg (by simp) (nlg_i (i := 19) rfl (nl1_ok hh)) k
theorem q_lstore_20 (hC : Ok K cc own nL d θ sx Fi Fl Fv) {x : Int64} {a0 a1 a2 a3 a4 a5 a6 a7 a8 a9 a10 a11 a12 a13 a14 a15 a16 a17 a18 a19 o o2 : Option Value} {tl : LV} (dg : decode cc pc = .ok (.lstore 20, 2)) (k : K (pc + 2) (a0 :: a1 :: a2 :: a3 :: a4 :: a5 :: a6 :: a7 :: a8 :: a9 :: a10 :: a11 :: a12 :: a13 :: a14 :: a15 :: a16 :: a17 :: a18 :: a19 :: some (.long x) :: none :: tl) st S) (hh : nl1 a19 = true := by rfl) : K pc (a0 :: a1 :: a2 :: a3 :: a4 :: a5 :: a6 :: a7 :: a8 :: a9 :: a10 :: a11 :: a12 :: a13 :: a14 :: a15 :: a16 :: a17 :: a18 :: a19 :: o :: o2 :: tl) (.long x :: st) S :=
  q_lstoreg (i := 20) hC dg (by simp) (nlg_i (i := 19) rfl (nl1_ok hh)) k
theorem q_iinc_20 (hC : Ok K cc own nL d θ sx Fi Fl Fv) {n : Int} {x v : Int32} {a0 a1 a2 a3 a4 a5 a6 a7 a8 a9 a10 a11 a12 a13 a14 a15 a16 a17 a18 a19 : Option Value} {tl : LV} (dg : decode cc pc = .ok (.iinc 20 n, 3)) (hv : x + Int32.ofInt n = v) (k : K (pc + 3) (a0 :: a1 :: a2 :: a3 :: a4 :: a5 :: a6 :: a7 :: a8 :: a9 :: a10 :: a11 :: a12 :: a13 :: a14 :: a15 :: a16 :: a17 :: a18 :: a19 :: some (.int v) :: tl) st S) (hh : nl1 a19 = true := by rfl) : K pc (a0 :: a1 :: a2 :: a3 :: a4 :: a5 :: a6 :: a7 :: a8 :: a9 :: a10 :: a11 :: a12 :: a13 :: a14 :: a15 :: a16 :: a17 :: a18 :: a19 :: some (.int x) :: tl) st S :=
  q_iincg (i := 20) hC dg rfl hv (by simp) (nlg_i (i := 19) rfl (nl1_ok hh)) k
theorem q_istore_21 (hC : Ok K cc own nL d θ sx Fi Fl Fv) {x : Int32} {a0 a1 a2 a3 a4 a5 a6 a7 a8 a9 a10 a11 a12 a13 a14 a15 a16 a17 a18 a19 a20 o : Option Value} {tl : LV} (dg : decode cc pc = .ok (.istore 21, 2)) (k : K (pc + 2) (a0 :: a1 :: a2 :: a3 :: a4 :: a5 :: a6 :: a7 :: a8 :: a9 :: a10 :: a11 :: a12 :: a13 :: a14 :: a15 :: a16 :: a17 :: a18 :: a19 :: a20 :: some (.int x) :: tl) st S) (hh : nl1 a20 = true := by rfl) : K pc (a0 :: a1 :: a2 :: a3 :: a4 :: a5 :: a6 :: a7 :: a8 :: a9 :: a10 :: a11 :: a12 :: a13 :: a14 :: a15 :: a16 :: a17 :: a18 :: a19 :: a20 :: o :: tl) (.int x :: st) S :=
  q_istoreg (i := 21) hC dg (by simp) (nlg_i (i := 20) rfl (nl1_ok hh)) k
theorem q_astore_21 (hC : Ok K cc own nL d θ sx Fi Fl Fv) {x : Nat} {a0 a1 a2 a3 a4 a5 a6 a7 a8 a9 a10 a11 a12 a13 a14 a15 a16 a17 a18 a19 a20 o : Option Value} {tl : LV} (dg : decode cc pc = .ok (.astore 21, 2)) (k : K (pc + 2) (a0 :: a1 :: a2 :: a3 :: a4 :: a5 :: a6 :: a7 :: a8 :: a9 :: a10 :: a11 :: a12 :: a13 :: a14 :: a15 :: a16 :: a17 :: a18 :: a19 :: a20 :: some (.ref x) :: tl) st S) (hh : nl1 a20 = true := by rfl) : K pc (a0 :: a1 :: a2 :: a3 :: a4 :: a5 :: a6 :: a7 :: a8 :: a9 :: a10 :: a11 :: a12 :: a13 :: a14 :: a15 :: a16 :: a17 :: a18 :: a19 :: a20 :: o :: tl) (.ref x :: st) S :=
  q_astoreg (i := 21) hC dg (by simp) (nlg_i (i := 20) rfl (nl1_ok hh)) k
theorem q_lstore_21 (hC : Ok K cc own nL d θ sx Fi Fl Fv) {x : Int64} {a0 a1 a2 a3 a4 a5 a6 a7 a8 a9 a10 a11 a12 a13 a14 a15 a16 a17 a18 a19 a20 o o2 : Option Value} {tl : LV} (dg : decode cc pc = .ok (.lstore 21, 2)) (k : K (pc + 2) (a0 :: a1 :: a2 :: a3 :: a4 :: a5 :: a6 :: a7 :: a8 :: a9 :: a10 :: a11 :: a12 :: a13 :: a14 :: a15 :: a16 :: a17 :: a18 :: a19 :: a20 :: some (.long x) :: none :: tl) st S) (hh : nl1 a20 = true := by rfl) : K pc (a0 :: a1 :: a2 :: a3 :: a4 :: a5 :: a6 :: a7 :: a8 :: a9 :: a10 :: a11 :: a12 :: a13 :: a14 :: a15 :: a16 :: a17 :: a18 :: a19 :: a20 :: o :: o2 :: tl) (.long x :: st) S :=
  q_lstoreg (i := 21) hC dg (by simp) (nlg_i (i := 20) rfl (nl1_ok hh)) k
theorem q_iinc_21 (hC : Ok K cc own nL d θ sx Fi Fl Fv) {n : Int} {x v : Int32} {a0 a1 a2 a3 a4 a5 a6 a7 a8 a9 a10 a11 a12 a13 a14 a15 a16 a17 a18 a19 a20 : Option Value} {tl : LV} (dg : decode cc pc = .ok (.iinc 21 n, 3)) (hv : x + Int32.ofInt n = v) (k : K (pc + 3) (a0 :: a1 :: a2 :: a3 :: a4 :: a5 :: a6 :: a7 :: a8 :: a9 :: a10 :: a11 :: a12 :: a13 :: a14 :: a15 :: a16 :: a17 :: a18 :: a19 :: a20 :: some (.int v) :: tl) st S) (hh : nl1 a20 = true := by rfl) : K pc (a0 :: a1 :: a2 :: a3 :: a4 :: a5 :: a6 :: a7 :: a8 :: a9 :: a10 :: a11 :: a12 :: a13 :: a14 :: a15 :: a16 :: a17 :: a18 :: a19 :: a20 :: some (.int x) :: tl) st S :=
  q_iincg (i := 21) hC dg rfl hv (by simp) (nlg_i (i := 20) rfl (nl1_ok hh)) k
theorem q_if_eq (hC : Ok K cc own nL d θ sx Fi Fl Fv) {x : Int32} {off : Int} (tgt : Nat) (dg : decode cc pc = .ok (.ifCond .eq off, 3)) (ht : (pc : Int) + off = (tgt : Int)) (kt : x = 0 → K tgt lv st S) (kf : ¬ x = 0 → K (pc + 3) lv st S) : K pc lv (.int x :: st) S := by
  obtain ⟨p, l, e, s, m, args, below, meth, c, Q, hx, hb, hml, hown, hts, hK, hJ, hE, ri, rl, rv, rfl⟩ := hC
  intro H locs ls hn hl hP hS
  exact lv_if_eq hx hb dg ht (fun h => kt h H locs ls hn hl hP hS) (fun h => kf h H locs ls hn hl hP hS)
theorem q_if_ne (hC : Ok K cc own nL d θ sx Fi Fl Fv) {x : Int32} {off : Int} (tgt : Nat) (dg : decode cc pc = .ok (.ifCond .ne off, 3)) (ht : (pc : Int) + off = (tgt : Int)) (kt : ¬ x = 0 → K tgt lv st S) (kf : x = 0 → K (pc + 3) lv st S) : K pc lv (.int x :: st) S := by
  obtain ⟨p, l, e, s, m, args, below, meth, c, Q, hx, hb, hml, hown, hts, hK, hJ, hE, ri, rl, rv, rfl⟩ := hC
  intro H locs ls hn hl hP hS
  exact lv_if_ne hx hb dg ht (fun h => kt h H locs ls hn hl hP hS) (fun h => kf h H locs ls hn hl hP hS)
theorem q_if_lt (hC : Ok K cc own nL d θ sx Fi Fl Fv) {x : Int32} {off : Int} (tgt : Nat) (dg : decode cc pc = .ok (.ifCond .lt off, 3)) (ht : (pc : Int) + off = (tgt : Int)) (kt : x < 0 → K tgt lv st S) (kf : ¬ x < 0 → K (pc + 3) lv st S) : K pc lv (.int x :: st) S := by
  obtain ⟨p, l, e, s, m, args, below, meth, c, Q, hx, hb, hml, hown, hts, hK, hJ, hE, ri, rl, rv, rfl⟩ := hC
  intro H locs ls hn hl hP hS
  exact lv_if_lt hx hb dg ht (fun h => kt h H locs ls hn hl hP hS) (fun h => kf h H locs ls hn hl hP hS)
theorem q_if_ge (hC : Ok K cc own nL d θ sx Fi Fl Fv) {x : Int32} {off : Int} (tgt : Nat) (dg : decode cc pc = .ok (.ifCond .ge off, 3)) (ht : (pc : Int) + off = (tgt : Int)) (kt : 0 ≤ x → K tgt lv st S) (kf : ¬ 0 ≤ x → K (pc + 3) lv st S) : K pc lv (.int x :: st) S := by
  obtain ⟨p, l, e, s, m, args, below, meth, c, Q, hx, hb, hml, hown, hts, hK, hJ, hE, ri, rl, rv, rfl⟩ := hC
  intro H locs ls hn hl hP hS
  exact lv_if_ge hx hb dg ht (fun h => kt h H locs ls hn hl hP hS) (fun h => kf h H locs ls hn hl hP hS)
theorem q_if_gt (hC : Ok K cc own nL d θ sx Fi Fl Fv) {x : Int32} {off : Int} (tgt : Nat) (dg : decode cc pc = .ok (.ifCond .gt off, 3)) (ht : (pc : Int) + off = (tgt : Int)) (kt : 0 < x → K tgt lv st S) (kf : ¬ 0 < x → K (pc + 3) lv st S) : K pc lv (.int x :: st) S := by
  obtain ⟨p, l, e, s, m, args, below, meth, c, Q, hx, hb, hml, hown, hts, hK, hJ, hE, ri, rl, rv, rfl⟩ := hC
  intro H locs ls hn hl hP hS
  exact lv_if_gt hx hb dg ht (fun h => kt h H locs ls hn hl hP hS) (fun h => kf h H locs ls hn hl hP hS)
theorem q_if_le (hC : Ok K cc own nL d θ sx Fi Fl Fv) {x : Int32} {off : Int} (tgt : Nat) (dg : decode cc pc = .ok (.ifCond .le off, 3)) (ht : (pc : Int) + off = (tgt : Int)) (kt : x ≤ 0 → K tgt lv st S) (kf : ¬ x ≤ 0 → K (pc + 3) lv st S) : K pc lv (.int x :: st) S := by
  obtain ⟨p, l, e, s, m, args, below, meth, c, Q, hx, hb, hml, hown, hts, hK, hJ, hE, ri, rl, rv, rfl⟩ := hC
  intro H locs ls hn hl hP hS
  exact lv_if_le hx hb dg ht (fun h => kt h H locs ls hn hl hP hS) (fun h => kf h H locs ls hn hl hP hS)
theorem q_icmp_eq (hC : Ok K cc own nL d θ sx Fi Fl Fv) {x y : Int32} {off : Int} (tgt : Nat) (dg : decode cc pc = .ok (.if_icmp .eq off, 3)) (ht : (pc : Int) + off = (tgt : Int)) (kt : x = y → K tgt lv st S) (kf : ¬ x = y → K (pc + 3) lv st S) : K pc lv (.int y :: .int x :: st) S := by
  obtain ⟨p, l, e, s, m, args, below, meth, c, Q, hx, hb, hml, hown, hts, hK, hJ, hE, ri, rl, rv, rfl⟩ := hC
  intro H locs ls hn hl hP hS
  exact lv_icmp_eq hx hb dg ht (fun h => kt h H locs ls hn hl hP hS) (fun h => kf h H locs ls hn hl hP hS)
theorem q_icmp_ne (hC : Ok K cc own nL d θ sx Fi Fl Fv) {x y : Int32} {off : Int} (tgt : Nat) (dg : decode cc pc = .ok (.if_icmp .ne off, 3)) (ht : (pc : Int) + off = (tgt : Int)) (kt : ¬ x = y → K tgt lv st S) (kf : x = y → K (pc + 3) lv st S) : K pc lv (.int y :: .int x :: st) S := by
  obtain ⟨p, l, e, s, m, args, below, meth, c, Q, hx, hb, hml, hown, hts, hK, hJ, hE, ri, rl, rv, rfl⟩ := hC
  intro H locs ls hn hl hP hS
  exact lv_icmp_ne hx hb dg ht (fun h => kt h H locs ls hn hl hP hS) (fun h => kf h H locs ls hn hl hP hS)
theorem q_icmp_lt (hC : Ok K cc own nL d θ sx Fi Fl Fv) {x y : Int32} {off : Int} (tgt : Nat) (dg : decode cc pc = .ok (.if_icmp .lt off, 3)) (ht : (pc : Int) + off = (tgt : Int)) (kt : x < y → K tgt lv st S) (kf : ¬ x < y → K (pc + 3) lv st S) : K pc lv (.int y :: .int x :: st) S := by
  obtain ⟨p, l, e, s, m, args, below, meth, c, Q, hx, hb, hml, hown, hts, hK, hJ, hE, ri, rl, rv, rfl⟩ := hC
  intro H locs ls hn hl hP hS
  exact lv_icmp_lt hx hb dg ht (fun h => kt h H locs ls hn hl hP hS) (fun h => kf h H locs ls hn hl hP hS)
theorem q_icmp_ge (hC : Ok K cc own nL d θ sx Fi Fl Fv) {x y : Int32} {off : Int} (tgt : Nat) (dg : decode cc pc = .ok (.if_icmp .ge off, 3)) (ht : (pc : Int) + off = (tgt : Int)) (kt : y ≤ x → K tgt lv st S) (kf : ¬ y ≤ x → K (pc + 3) lv st S) : K pc lv (.int y :: .int x :: st) S := by
  obtain ⟨p, l, e, s, m, args, below, meth, c, Q, hx, hb, hml, hown, hts, hK, hJ, hE, ri, rl, rv, rfl⟩ := hC
  intro H locs ls hn hl hP hS
  exact lv_icmp_ge hx hb dg ht (fun h => kt h H locs ls hn hl hP hS) (fun h => kf h H locs ls hn hl hP hS)
theorem q_icmp_gt (hC : Ok K cc own nL d θ sx Fi Fl Fv) {x y : Int32} {off : Int} (tgt : Nat) (dg : decode cc pc = .ok (.if_icmp .gt off, 3)) (ht : (pc : Int) + off = (tgt : Int)) (kt : y < x → K tgt lv st S) (kf : ¬ y < x → K (pc + 3) lv st S) : K pc lv (.int y :: .int x :: st) S := by
  obtain ⟨p, l, e, s, m, args, below, meth, c, Q, hx, hb, hml, hown, hts, hK, hJ, hE, ri, rl, rv, rfl⟩ := hC
  intro H locs ls hn hl hP hS
  exact lv_icmp_gt hx hb dg ht (fun h => kt h H locs ls hn hl hP hS) (fun h => kf h H locs ls hn hl hP hS)
theorem q_icmp_le (hC : Ok K cc own nL d θ sx Fi Fl Fv) {x y : Int32} {off : Int} (tgt : Nat) (dg : decode cc pc = .ok (.if_icmp .le off, 3)) (ht : (pc : Int) + off = (tgt : Int)) (kt : x ≤ y → K tgt lv st S) (kf : ¬ x ≤ y → K (pc + 3) lv st S) : K pc lv (.int y :: .int x :: st) S := by
  obtain ⟨p, l, e, s, m, args, below, meth, c, Q, hx, hb, hml, hown, hts, hK, hJ, hE, ri, rl, rv, rfl⟩ := hC
  intro H locs ls hn hl hP hS
  exact lv_icmp_le hx hb dg ht (fun h => kt h H locs ls hn hl hP hS) (fun h => kf h H locs ls hn hl hP hS)
theorem q_goto (hC : Ok K cc own nL d θ sx Fi Fl Fv) {off : Int} (tgt : Nat) (dg : decode cc pc = .ok (.goto off, 3)) (ht : (pc : Int) + off = (tgt : Int)) (k : K tgt lv st S) : K pc lv st S := by
  obtain ⟨p, l, e, s, m, args, below, meth, c, Q, hx, hb, hml, hown, hts, hK, hJ, hE, ri, rl, rv, rfl⟩ := hC
  intro H locs ls hn hl hP hS
  exact lv_goto hx hb dg ht (k H locs ls hn hl hP hS)
theorem q_tabIn (hC : Ok K cc own nL d θ sx Fi Fl Fv) {dflt lo hi : Int} {offs : Array Int} {len : Nat} {x : Int32} {off : Int} (tgt : Nat) (dg : decode cc pc = .ok (.tableswitch dflt lo hi offs, len)) (h1 : ¬ x.toInt < lo) (h2 : ¬ hi < x.toInt) (ho : offs[(x.toInt - lo).toNat]? = some off) (ht : (pc : Int) + off = (tgt : Int)) (k : K tgt lv st S) : K pc lv (.int x :: st) S := by
  obtain ⟨p, l, e, s, m, args, below, meth, c, Q, hx, hb, hml, hown, hts, hK, hJ, hE, ri, rl, rv, rfl⟩ := hC
  intro H locs ls hn hl hP hS
  exact lv_tableIn hx hb dg h1 h2 ho ht (k H locs ls hn hl hP hS)
theorem q_tabOut (hC : Ok K cc own nL d θ sx Fi Fl Fv) {dflt lo hi : Int} {offs : Array Int} {len : Nat} {x : Int32} (tgt : Nat) (dg : decode cc pc = .ok (.tableswitch dflt lo hi offs, len)) (h : x.toInt < lo ∨ hi < x.toInt) (ht : (pc : Int) + dflt = (tgt : Int)) (k : K tgt lv st S) : K pc lv (.int x :: st) S := by
  obtain ⟨p, l, e, s, m, args, below, meth, c, Q, hx, hb, hml, hown, hts, hK, hJ, hE, ri, rl, rv, rfl⟩ := hC
  intro H locs ls hn hl hP hS
  exact lv_tableOut hx hb dg h ht (k H locs ls hn hl hP hS)
theorem q_lcmp (hC : Ok K cc own nL d θ sx Fi Fl Fv) {x y : Int64} (dg : decode cc pc = .ok (.lcmp, 1)) (k : K (pc + 1) lv (.int (lg_cmp x y) :: st) S) : K pc lv (.long y :: .long x :: st) S := by
  obtain ⟨p, l, e, s, m, args, below, meth, c, Q, hx, hb, hml, hown, hts, hK, hJ, hE, ri, rl, rv, rfl⟩ := hC
  intro H locs ls hn hl hP hS
  exact W.lcmp hx hb dg (k H locs ls hn hl hP hS)
theorem q_iret (hC : Ok K cc own nL d θ sx Fi Fl Fv) {v : Int32} (dg : decode cc pc = .ok (.ireturn, 1)) (h : Fi v S) : K pc lv [.int v] S := by
  obtain ⟨p, l, e, s, m, args, below, meth, c, Q, hx, hb, hml, hown, hts, hK, hJ, hE, ri, rl, rv, rfl⟩ := hC
  intro H locs ls hn hl hP hS
  exact ri pc ls v S H locs dg h hP hS
theorem q_lret (hC : Ok K cc own nL d θ sx Fi Fl Fv) {v : Int64} (dg : decode cc pc = .ok (.lreturn, 1)) (h : Fl v S) : K pc lv [.long v] S := by
  obtain ⟨p, l, e, s, m, args, below, meth, c, Q, hx, hb, hml, hown, hts, hK, hJ, hE, ri, rl, rv, rfl⟩ := hC
  intro H locs ls hn hl hP hS
  exact rl pc ls v S H locs dg h hP hS
theorem q_vret (hC : Ok K cc own nL d θ sx Fi Fl Fv) (dg : decode cc pc = .ok (.return_, 1)) (h : Fv S) : K pc lv [] S := by
  obtain ⟨p, l, e, s, m, args, below, meth, c, Q, hx, hb, hml, hown, hts, hK, hJ, hE, ri, rl, rv, rfl⟩ := hC
  intro H locs ls hn hl hP hS
  exact rv pc ls S H locs dg h hP hS
theorem q_ldc (hC : Ok K cc own nL d θ sx Fi Fl Fv) {index : Nat} {v : Int32} (hc : Cond.constant own index v ∈ lwT) (dg : decode cc pc = .ok (.ldc index, 2)) (k : K (pc + 2) lv (.int v :: st) S) : K pc lv st S := by
  obtain ⟨p, l, e, s, m, args, below, meth, c, Q, hx, hb, hml, hown, hts, hK, hJ, hE, ri, rl, rv, rfl⟩ := hC
  intro H locs ls hn hl hP hS
  exact lv_ldc hx hb hown (hts _ hc) dg (k H locs ls hn hl hP hS)
theorem q_ldcw (hC : Ok K cc own nL d θ sx Fi Fl Fv) {index : Nat} {v : Int32} (hc : Cond.constant own index v ∈ lwT) (dg : decode cc pc = .ok (.ldc_w index, 3)) (k : K (pc + 3) lv (.int v :: st) S) : K pc lv st S := by
  obtain ⟨p, l, e, s, m, args, below, meth, c, Q, hx, hb, hml, hown, hts, hK, hJ, hE, ri, rl, rv, rfl⟩ := hC
  intro H locs ls hn hl hP hS
  exact lv_ldcw hx hb hown (hts _ hc) dg (k H locs ls hn hl hP hS)
theorem q_ldc2 (hC : Ok K cc own nL d θ sx Fi Fl Fv) {index : Nat} {v : Int64} (hc : Cond.constantLong own index v ∈ lwT) (dg : decode cc pc = .ok (.ldc2_w index, 3)) (k : K (pc + 3) lv (.long v :: st) S) : K pc lv st S := by
  obtain ⟨p, l, e, s, m, args, below, meth, c, Q, hx, hb, hml, hown, hts, hK, hJ, hE, ri, rl, rv, rfl⟩ := hC
  intro H locs ls hn hl hP hS
  exact lv_ldc2 hx hb hown (hts _ hc) dg (k H locs ls hn hl hP hS)
theorem q_getI (hC : Ok K cc own nL d θ sx Fi Fl Fv) {q ci j idx : Nat} {ks : List (Option (Option Nat))} (hs : sx[q]? = some (.inr (.inl (ci, ks)))) (fl : FL own idx ci j) (dg : decode cc pc = .ok (.getfield idx, 3)) (k : K (pc + 3) lv (.int (S.1 q j) :: st) S) (hj : ks[j]? = some (none) := by rfl) : K pc lv (.ref (sA θ q) :: st) S := by
  obtain ⟨p, l, e, s, m, args, below, meth, c, Q, hx, hb, hml, hown, hts, hK, hJ, hE, ri, rl, rv, rfl⟩ := hC
  intro H locs ls hn hl hP hS
  obtain ⟨C, T, N, f1, f2, f3, f4⟩ := fl
  refine va_get (D := sD θ) (cl := vwCl) (ws := GW θ sx S) (tys := tyC θ) (C := C) (T := T) (N := N) hx hb hts (clW f1) hown hK hP q (GW_get hs) f1 j f2 (hts _ f3) (fun x h => by rw [f4] at h; exact h) (v := .int (S.1 q j)) ?_ dg (k H locs ls hn hl hP hS)
  rw [List.getElem?_mapIdx, hj]; rfl
theorem q_getL (hC : Ok K cc own nL d θ sx Fi Fl Fv) {q ci j idx : Nat} {ks : List (Option (Option Nat))} (hs : sx[q]? = some (.inr (.inl (ci, ks)))) (fl : FL own idx ci j) (dg : decode cc pc = .ok (.getfield idx, 3)) (k : K (pc + 3) lv (.long (S.2 q j) :: st) S) (hj : ks[j]? = some (some none) := by rfl) : K pc lv (.ref (sA θ q) :: st) S := by
  obtain ⟨p, l, e, s, m, args, below, meth, c, Q, hx, hb, hml, hown, hts, hK, hJ, hE, ri, rl, rv, rfl⟩ := hC
  intro H locs ls hn hl hP hS
  obtain ⟨C, T, N, f1, f2, f3, f4⟩ := fl
  refine va_get (D := sD θ) (cl := vwCl) (ws := GW θ sx S) (tys := tyC θ) (C := C) (T := T) (N := N) hx hb hts (clW f1) hown hK hP q (GW_get hs) f1 j f2 (hts _ f3) (fun x h => by rw [f4] at h; exact h) (v := .long (S.2 q j)) ?_ dg (k H locs ls hn hl hP hS)
  rw [List.getElem?_mapIdx, hj]; rfl
theorem q_getR (hC : Ok K cc own nL d θ sx Fi Fl Fv) {q ci j idx : Nat} {ks : List (Option (Option Nat))} {r : Nat} (hs : sx[q]? = some (.inr (.inl (ci, ks)))) (fl : FL own idx ci j) (dg : decode cc pc = .ok (.getfield idx, 3)) (k : K (pc + 3) lv (.ref (sA θ r) :: st) S) (hj : ks[j]? = some (some (some r)) := by rfl) : K pc lv (.ref (sA θ q) :: st) S := by
  obtain ⟨p, l, e, s, m, args, below, meth, c, Q, hx, hb, hml, hown, hts, hK, hJ, hE, ri, rl, rv, rfl⟩ := hC
  intro H locs ls hn hl hP hS
  obtain ⟨C, T, N, f1, f2, f3, f4⟩ := fl
  refine va_get (D := sD θ) (cl := vwCl) (ws := GW θ sx S) (tys := tyC θ) (C := C) (T := T) (N := N) hx hb hts (clW f1) hown hK hP q (GW_get hs) f1 j f2 (hts _ f3) (fun x h => by rw [f4] at h; exact h) (v := .ref (sA θ r)) ?_ dg (k H locs ls hn hl hP hS)
  rw [List.getElem?_mapIdx, hj]; rfl
theorem q_putI (hC : Ok K cc own nL d θ sx Fi Fl Fv) {q ci j idx : Nat} {ks : List (Option (Option Nat))} {v : Int32} (hs : sx[q]? = some (.inr (.inl (ci, ks)))) (fl : FP own idx ci j .int) (dg : decode cc pc = .ok (.putfield idx, 3)) (k : K (pc + 3) lv st (up S q j v)) (hj : ks[j]? = some (none) := by rfl) : K pc lv (.int v :: .ref (sA θ q) :: st) S := by
  obtain ⟨p, l, e, s, m, args, below, meth, c, Q, hx, hb, hml, hown, hts, hK, hJ, hE, ri, rl, rv, rfl⟩ := hC
  intro H locs ls hn hl hP hS
  obtain ⟨⟨C, T, N, f1, f2, f3, f4⟩, f5⟩ := fl
  obtain ⟨f6, f7⟩ := f5 C T N f1
  obtain ⟨ty0, g1, g2⟩ := clT f1
  refine va_put (D := sD θ) (cl := vwCl) (ws := GW θ sx S) (tys := tyC θ) (A := AA θ sx s.heap.size) (C := C) (T := T) (N := N) hx hb hts (clW f1) ty0 g1 g2 hown hK hP (GW_D hJ) hS q (GW_get hs) f1 j f2 (hts _ f3) (fun x h => by rw [f4] at h; exact h) f6 (ty := .int) (v := .int v) f7 rfl rfl (by rw [List.length_mapIdx]; exact (List.getElem?_eq_some_iff.mp hj).1) dg (fun H1 locs1 hP1 hD1 hS1 => ?_)
  rw [GW_up hs hj] at hP1
  exact k H1 locs1 ls hn hl hP1 hS1
theorem q_putL (hC : Ok K cc own nL d θ sx Fi Fl Fv) {q ci j idx : Nat} {ks : List (Option (Option Nat))} {v : Int64} (hs : sx[q]? = some (.inr (.inl (ci, ks)))) (fl : FP own idx ci j .long) (dg : decode cc pc = .ok (.putfield idx, 3)) (k : K (pc + 3) lv st (upL S q j v)) (hj : ks[j]? = some (some none) := by rfl) : K pc lv (.long v :: .ref (sA θ q) :: st) S := by
  obtain ⟨p, l, e, s, m, args, below, meth, c, Q, hx, hb, hml, hown, hts, hK, hJ, hE, ri, rl, rv, rfl⟩ := hC
  intro H locs ls hn hl hP hS
  obtain ⟨⟨C, T, N, f1, f2, f3, f4⟩, f5⟩ := fl
  obtain ⟨f6, f7⟩ := f5 C T N f1
  obtain ⟨ty0, g1, g2⟩ := clT f1
  refine va_put (D := sD θ) (cl := vwCl) (ws := GW θ sx S) (tys := tyC θ) (A := AA θ sx s.heap.size) (C := C) (T := T) (N := N) hx hb hts (clW f1) ty0 g1 g2 hown hK hP (GW_D hJ) hS q (GW_get hs) f1 j f2 (hts _ f3) (fun x h => by rw [f4] at h; exact h) f6 (ty := .long) (v := .long v) f7 rfl rfl (by rw [List.length_mapIdx]; exact (List.getElem?_eq_some_iff.mp hj).1) dg (fun H1 locs1 hP1 hD1 hS1 => ?_)
  rw [GW_upL hs hj] at hP1
  exact k H1 locs1 ls hn hl hP1 hS1
theorem q_iald (hC : Ok K cc own nL d θ sx Fi Fl Fv) {q n : Nat} {i : Int32} (hs : sx[q]? = some (.inl (0, n))) (hi : vp_in i n) (dg : decode cc pc = .ok (.iaload, 1)) (k : K (pc + 1) lv (.int (S.1 q i.toNatClampNeg) :: st) S) : K pc lv (.int i :: .ref (sA θ q) :: st) S := by
  obtain ⟨p, l, e, s, m, args, below, meth, c, Q, hx, hb, hml, hown, hts, hK, hJ, hE, ri, rl, rv, rfl⟩ := hC
  intro H locs ls hn hl hP hS
  exact va_iald (D := sD θ) (cl := vwCl) (ws := GW θ sx S) (tys := tyC θ) hx hb hK hP q 0 (GW_get hs) rfl hi dg (k H locs ls hn hl hP hS)
theorem q_bald (hC : Ok K cc own nL d θ sx Fi Fl Fv) {q n : Nat} {i : Int32} (hs : sx[q]? = some (.inl (1, n))) (hi : vp_in i n) (dg : decode cc pc = .ok (.baload, 1)) (k : K (pc + 1) lv (.int (S.1 q i.toNatClampNeg) :: st) S) : K pc lv (.int i :: .ref (sA θ q) :: st) S := by
  obtain ⟨p, l, e, s, m, args, below, meth, c, Q, hx, hb, hml, hown, hts, hK, hJ, hE, ri, rl, rv, rfl⟩ := hC
  intro H locs ls hn hl hP hS
  exact va_bald (D := sD θ) (cl := vwCl) (ws := GW θ sx S) (tys := tyC θ) hx hb hK hP q 1 (GW_get hs) rfl hi dg (k H locs ls hn hl hP hS)
theorem q_zald (hC : Ok K cc own nL d θ sx Fi Fl Fv) {q n : Nat} {i : Int32} (hs : sx[q]? = some (.inl (2, n))) (hi : vp_in i n) (dg : decode cc pc = .ok (.baload, 1)) (k : K (pc + 1) lv (.int (S.1 q i.toNatClampNeg) :: st) S) : K pc lv (.int i :: .ref (sA θ q) :: st) S := by
  obtain ⟨p, l, e, s, m, args, below, meth, c, Q, hx, hb, hml, hown, hts, hK, hJ, hE, ri, rl, rv, rfl⟩ := hC
  intro H locs ls hn hl hP hS
  exact va_zald (D := sD θ) (cl := vwCl) (ws := GW θ sx S) (tys := tyC θ) hx hb hK hP q 2 (GW_get hs) rfl hi dg (k H locs ls hn hl hP hS)
theorem q_iast (hC : Ok K cc own nL d θ sx Fi Fl Fv) {q n : Nat} {i v : Int32} (hs : sx[q]? = some (.inl (0, n))) (hi : vp_in i n) (dg : decode cc pc = .ok (.iastore, 1)) (k : K (pc + 1) lv st (up S q i.toNatClampNeg v)) : K pc lv (.int v :: .int i :: .ref (sA θ q) :: st) S := by
  obtain ⟨p, l, e, s, m, args, below, meth, c, Q, hx, hb, hml, hown, hts, hK, hJ, hE, ri, rl, rv, rfl⟩ := hC
  intro H locs ls hn hl hP hS
  refine va_iast (D := sD θ) (cl := vwCl) (ws := GW θ sx S) (tys := tyC θ) (A := AA θ sx s.heap.size) hx hb hK hP (GW_D hJ) hS q 0 (GW_get hs) rfl hi dg (fun H1 locs1 hP1 hD1 hS1 => ?_)
  rw [GW_upA hs, upA_upd] at hP1
  exact k H1 locs1 ls hn hl hP1 hS1
theorem q_bast (hC : Ok K cc own nL d θ sx Fi Fl Fv) {q n : Nat} {i v : Int32} (hs : sx[q]? = some (.inl (1, n))) (hi : vp_in i n) (dg : decode cc pc = .ok (.bastore, 1)) (k : K (pc + 1) lv st (up S q i.toNatClampNeg (vp_nar .byte v))) : K pc lv (.int v :: .int i :: .ref (sA θ q) :: st) S := by
  obtain ⟨p, l, e, s, m, args, below, meth, c, Q, hx, hb, hml, hown, hts, hK, hJ, hE, ri, rl, rv, rfl⟩ := hC
  intro H locs ls hn hl hP hS
  refine va_bast (D := sD θ) (cl := vwCl) (ws := GW θ sx S) (tys := tyC θ) (A := AA θ sx s.heap.size) hx hb hK hP (GW_D hJ) hS q 1 (GW_get hs) rfl hi dg (fun H1 locs1 hP1 hD1 hS1 => ?_)
  rw [GW_upA hs, upA_upd] at hP1
  exact k H1 locs1 ls hn hl hP1 hS1
theorem q_zast (hC : Ok K cc own nL d θ sx Fi Fl Fv) {q n : Nat} {i v : Int32} (hs : sx[q]? = some (.inl (2, n))) (hi : vp_in i n) (dg : decode cc pc = .ok (.bastore, 1)) (k : K (pc + 1) lv st (up S q i.toNatClampNeg (vp_nar .boolean v))) : K pc lv (.int v :: .int i :: .ref (sA θ q) :: st) S := by
  obtain ⟨p, l, e, s, m, args, below, meth, c, Q, hx, hb, hml, hown, hts, hK, hJ, hE, ri, rl, rv, rfl⟩ := hC
  intro H locs ls hn hl hP hS
  refine va_zast (D := sD θ) (cl := vwCl) (ws := GW θ sx S) (tys := tyC θ) (A := AA θ sx s.heap.size) hx hb hK hP (GW_D hJ) hS q 2 (GW_get hs) rfl hi dg (fun H1 locs1 hP1 hD1 hS1 => ?_)
  rw [GW_upA hs, upA_upd] at hP1
  exact k H1 locs1 ls hn hl hP1 hS1
theorem q_alen (hC : Ok K cc own nL d θ sx Fi Fl Fv) {q t n : Nat} {v : Int32} (hs : sx[q]? = some (.inl (t, n))) (ht : t < 3) (hv : nI n = v) (dg : decode cc pc = .ok (.arraylength, 1)) (k : K (pc + 1) lv (.int v :: st) S) : K pc lv (.ref (sA θ q) :: st) S := by
  obtain ⟨p, l, e, s, m, args, below, meth, c, Q, hx, hb, hml, hown, hts, hK, hJ, hE, ri, rl, rv, rfl⟩ := hC
  intro H locs ls hn hl hP hS
  rcases (show t = 0 ∨ t = 1 ∨ t = 2 by omega) with rfl | rfl | rfl
  · exact va_alen (D := sD θ) (cl := vwCl) (ws := GW θ sx S) (tys := tyC θ) hx hb hK hP q 0 (GW_get hs) (ty := .int) rfl hv dg (k H locs ls hn hl hP hS)
  · exact va_alen (D := sD θ) (cl := vwCl) (ws := GW θ sx S) (tys := tyC θ) hx hb hK hP q 1 (GW_get hs) (ty := .byte) rfl hv dg (k H locs ls hn hl hP hS)
  · exact va_alen (D := sD θ) (cl := vwCl) (ws := GW θ sx S) (tys := tyC θ) hx hb hK hP q 2 (GW_get hs) (ty := .boolean) rfl hv dg (k H locs ls hn hl hP hS)
theorem q_aald (hC : Ok K cc own nL d θ sx Fi Fl Fv) {q r : Nat} {rs : List Nat} {i : Int32} (hs : sx[q]? = some (.inr (.inr rs))) (hi : vp_in i rs.length) (hr : rs[i.toNatClampNeg]? = some r) (dg : decode cc pc = .ok (.aaload, 1)) (k : K (pc + 1) lv (.ref (sA θ r) :: st) S) : K pc lv (.int i :: .ref (sA θ q) :: st) S := by
  obtain ⟨p, l, e, s, m, args, below, meth, c, Q, hx, hb, hml, hown, hts, hK, hJ, hE, ri, rl, rv, rfl⟩ := hC
  intro H locs ls hn hl hP hS
  refine va_aldq (D := sD θ) (cl := vwCl) (ws := GW θ sx S) (tys := tyC θ) hx hb hK hP q 3 (GW_get hs) (C := "PavedBan$Now") rfl hi dg ?_
  have h9 : (rs[i.toNatClampNeg]?).map (sA θ) = some (sA θ r) := by rw [hr]; rfl
  show W _ _ _ _ _ _ _ _ _ _ _ _ _ _ _ (F0 m (pc + 1) ls (va_rf ((rs[i.toNatClampNeg]?).map (sA θ)) :: st))
  rw [h9]
  exact k H locs ls hn hl hP hS
theorem q_copy (hC : Ok K cc own nL d θ sx Fi Fl Fv) {q r n0 n1 idx : Nat} {sp dp n : Int32} (hq : sx[q]? = some (.inl (0, n0))) (hr : sx[r]? = some (.inl (0, n1))) (hln : Cond.methodLink own idx arraycopyName ∈ lwT) (hd : 1 ≤ d) (h1 : ¬ sp < 0) (h2 : ¬ dp < 0) (h3 : ¬ n < 0) (h4 : sp.toNatClampNeg + n.toNatClampNeg ≤ n0) (h5 : dp.toNatClampNeg + n.toNatClampNeg ≤ n1) (dg : decode cc pc = .ok (.invokestatic idx, 3)) (k : K (pc + 3) lv st (upA S r (va_cpy (S.1 q) (S.1 r) sp.toNatClampNeg dp.toNatClampNeg n.toNatClampNeg))) (hst : (st.map fun v => v.category).sum ≤ 8 := by (first | exact Nat.le_of_ble_eq_true rfl | decide)) : K pc lv (.int n :: .int dp :: .ref (sA θ r) :: .int sp :: .ref (sA θ q) :: st) S := by
  obtain ⟨p, l, e, s, m, args, below, meth, c, Q, hx, hb, hml, hown, hts, hK, hJ, hE, ri, rl, rv, rfl⟩ := hC
  intro H locs ls hn hl hP hS
  refine va_copyi (D := sD θ) (cl := vwCl) (ws := GW θ sx S) (tys := tyC θ) (A := AA θ sx s.heap.size) hx hb (hml.trans hl.1.symm) hown (hts _ hln) (hts _ acN) (hts _ acS) (hts _ acI) hK hP (GW_D hJ) hS q r 0 0 (GW_get hq) (GW_get hr) (ty := .int) rfl rfl rfl h1 h2 h3 h4 h5 (fun _ _ => rfl) hd (by show _ ≤ 80 * d; have := acW; omega) dg (fun H1 locs1 hP1 hD1 hS1 => ?_)
  rw [GW_upA hr] at hP1
  exact k H1 locs1 ls hn hl hP1 hS1
theorem q_max (hC : Ok K cc own nL d θ sx Fi Fl Fv) {idx : Nat} {x y : Int32} (hln : Cond.methodLink own idx Lib.Math.max.name ∈ lwT) (hd : 1 ≤ d) (dg : decode cc pc = .ok (.invokestatic idx, 3)) (k : K (pc + 3) lv (.int (if x < y then y else x) :: st) S) (hst : (st.map fun v => v.category).sum ≤ 8 := by (first | exact Nat.le_of_ble_eq_true rfl | decide)) : K pc lv (.int y :: .int x :: st) S := by
  obtain ⟨p, l, e, s, m, args, below, meth, c, Q, hx, hb, hml, hown, hts, hK, hJ, hE, ri, rl, rv, rfl⟩ := hC
  intro H locs ls hn hl hP hS
  exact va_mmax hx hb (hml.trans hl.1.symm) hown (hts _ hln) (hts _ mmaxS) (hts _ mI) (hts _ mmaxC) hd (by show _ ≤ 80 * d; omega) (Nat.zero_le _) (Nat.zero_le _) dg (k H locs ls hn hl hP hS)
theorem q_min (hC : Ok K cc own nL d θ sx Fi Fl Fv) {idx : Nat} {x y : Int32} (hln : Cond.methodLink own idx Lib.Math.min.name ∈ lwT) (hd : 1 ≤ d) (dg : decode cc pc = .ok (.invokestatic idx, 3)) (k : K (pc + 3) lv (.int (if y < x then y else x) :: st) S) (hst : (st.map fun v => v.category).sum ≤ 8 := by (first | exact Nat.le_of_ble_eq_true rfl | decide)) : K pc lv (.int y :: .int x :: st) S := by
  obtain ⟨p, l, e, s, m, args, below, meth, c, Q, hx, hb, hml, hown, hts, hK, hJ, hE, ri, rl, rv, rfl⟩ := hC
  intro H locs ls hn hl hP hS
  exact va_mmin hx hb (hml.trans hl.1.symm) hown (hts _ hln) (hts _ mminS) (hts _ mI) (hts _ mminC) hd (by show _ ≤ 80 * d; omega) (Nat.zero_le _) (Nat.zero_le _) dg (k H locs ls hn hl hP hS)
theorem q_calliV0 (hC : Ok K cc own nL d θ sx Fi Fl Fv) {q ci idx ml d2 : Nat} {ks : List (Option (Option Nat))} {y : MethodName} {bs : ByteArray} {rt : Option FieldType} {P : Int32 → St → Prop} (hs : sx[q]? = some (.inr (.inl (ci, ks)))) (cv : CV own idx y bs ml rt 0 ci) (dg : decode cc pc = .ok (.invokevirtual idx, 3)) (hM : Cti y bs ml rt d2 θ sx (.ref (sA θ q) :: []) S P) (hd : d2 + 1 ≤ d) (kk : ∀ r S', P r S' → K (pc + 3) lv (.int r :: st) S') (hst : (st.map fun v => v.category).sum ≤ 8 := by (first | exact Nat.le_of_ble_eq_true rfl | decide)) : K pc lv (.ref (sA θ q) :: st) S := by
  obtain ⟨p, l, e, s, m, args, below, meth, c, Q, hx, hb, hml, hown, hts, hK, hJ, hE, ri, rl, rv, rfl⟩ := hC
  intro H locs ls hn hl hP hS
  obtain ⟨c1, c2, c3, c4, c5, c6, c7, c8, c9, T, N, c10⟩ := cv
  exact va_calli (va_runV (As := []) (rest := st) ⟨hx, hb, hml, hown, hts⟩ (hM l H.size) ⟨callB_of 0 hts (gTb c1) rfl rfl rfl (hts _ c5) (hts _ c2) ⟨c6, c7, c8⟩ (by constructor <;> (show _ ≤ _; simp only [rmD]; omega)), hts _ c3, hts _ c4⟩ ⟨PcW_blind, va_recv (D := sD θ) (cl := vwCl) hK hP c10 (GW_get hs), fun U hU hW => ⟨rfl, by rw [hU], by rw [hU]; exact hP, va_K.moved hW.alike hK, hJ, by rw [hU]; exact hE.go hS.2.1 (fun q h => h.elim Or.inl (fun z => Or.inr (Nat.le_trans hS.1 z))) hW⟩⟩ rfl rfl hl.1 rfl (lv_room hst) dg ⟨Nat.zero_le _, Nat.zero_le _⟩) hS (fun q h1 h2 => h2.elim Or.inl (fun z => absurd h1 (Nat.not_lt.mpr z))) (fun q h => h.elim Or.inl (fun z => Or.inr (Nat.le_trans hS.1 z))) (fun r u t H1 locs1 ht hvm hw hB hz1 hk1 hS1 => kk r u hw H1 locs1 ls hn hl (by rw [← ht]; exact hB) hS1)
theorem q_calliS0 (hC : Ok K cc own nL d θ sx Fi Fl Fv) {idx ml d2 : Nat} {y : MethodName} {bs : ByteArray} {rt : Option FieldType} {P : Int32 → St → Prop} (cv : CSt own idx y bs ml rt 0) (dg : decode cc pc = .ok (.invokestatic idx, 3)) (hM : Cti y bs ml rt d2 θ sx [] S P) (hd : d2 + 1 ≤ d) (kk : ∀ r S', P r S' → K (pc + 3) lv (.int r :: st) S') (hst : (st.map fun v => v.category).sum ≤ 8 := by (first | exact Nat.le_of_ble_eq_true rfl | decide)) : K pc lv (st) S := by
  obtain ⟨p, l, e, s, m, args, below, meth, c, Q, hx, hb, hml, hown, hts, hK, hJ, hE, ri, rl, rv, rfl⟩ := hC
  intro H locs ls hn hl hP hS
  obtain ⟨c1, c2, c3, c5, c6, c7, c8, c9⟩ := cv
  exact va_calli (va_runS (As := []) (rest := st) ⟨hx, hb, hml, hown, hts⟩ (hM l H.size) ⟨callB_of 0 hts (gTb c1) rfl rfl rfl (hts _ c5) (hts _ c2) ⟨c6, c7, c8⟩ (by constructor <;> (show _ ≤ _; simp only [rmD]; omega)), hts _ c3⟩ ⟨PcW_blind, fun U hU hW => ⟨rfl, by rw [hU], by rw [hU]; exact hP, va_K.moved hW.alike hK, hJ, by rw [hU]; exact hE.go hS.2.1 (fun q h => h.elim Or.inl (fun z => Or.inr (Nat.le_trans hS.1 z))) hW⟩⟩ rfl rfl hl.1 rfl (lv_room hst) dg ⟨Nat.zero_le _, Nat.zero_le _⟩) hS (fun q h1 h2 => h2.elim Or.inl (fun z => absurd h1 (Nat.not_lt.mpr z))) (fun q h => h.elim Or.inl (fun z => Or.inr (Nat.le_trans hS.1 z))) (fun r u t H1 locs1 ht hvm hw hB hz1 hk1 hS1 => kk r u hw H1 locs1 ls hn hl (by rw [← ht]; exact hB) hS1)
theorem q_calliV1 (hC : Ok K cc own nL d θ sx Fi Fl Fv) {q ci idx ml d2 : Nat} {ks : List (Option (Option Nat))} {y : MethodName} {bs : ByteArray} {rt : Option FieldType} {v0 : Value} {P : Int32 → St → Prop} (hs : sx[q]? = some (.inr (.inl (ci, ks)))) (cv : CV own idx y bs ml rt 1 ci) (dg : decode cc pc = .ok (.invokevirtual idx, 3)) (hM : Cti y bs ml rt d2 θ sx (.ref (sA θ q) :: [v0]) S P) (hd : d2 + 1 ≤ d) (kk : ∀ r S', P r S' → K (pc + 3) lv (.int r :: st) S') (hst : (st.map fun v => v.category).sum ≤ 8 := by (first | exact Nat.le_of_ble_eq_true rfl | decide)) : K pc lv (v0 :: .ref (sA θ q) :: st) S := by
  obtain ⟨p, l, e, s, m, args, below, meth, c, Q, hx, hb, hml, hown, hts, hK, hJ, hE, ri, rl, rv, rfl⟩ := hC
  intro H locs ls hn hl hP hS
  obtain ⟨c1, c2, c3, c4, c5, c6, c7, c8, c9, T, N, c10⟩ := cv
  exact va_calli (va_runV (As := [v0]) (rest := st) ⟨hx, hb, hml, hown, hts⟩ (hM l H.size) ⟨callB_of 1 hts (gTb c1) rfl rfl rfl (hts _ c5) (hts _ c2) ⟨c6, c7, c8⟩ (by constructor <;> (show _ ≤ _; simp only [rmD]; omega)), hts _ c3, hts _ c4⟩ ⟨PcW_blind, va_recv (D := sD θ) (cl := vwCl) hK hP c10 (GW_get hs), fun U hU hW => ⟨rfl, by rw [hU], by rw [hU]; exact hP, va_K.moved hW.alike hK, hJ, by rw [hU]; exact hE.go hS.2.1 (fun q h => h.elim Or.inl (fun z => Or.inr (Nat.le_trans hS.1 z))) hW⟩⟩ rfl rfl hl.1 rfl (lv_room hst) dg ⟨Nat.zero_le _, Nat.zero_le _⟩) hS (fun q h1 h2 => h2.elim Or.inl (fun z => absurd h1 (Nat.not_lt.mpr z))) (fun q h => h.elim Or.inl (fun z => Or.inr (Nat.le_trans hS.1 z))) (fun r u t H1 locs1 ht hvm hw hB hz1 hk1 hS1 => kk r u hw H1 locs1 ls hn hl (by rw [← ht]; exact hB) hS1)
theorem q_calliS1 (hC : Ok K cc own nL d θ sx Fi Fl Fv) {idx ml d2 : Nat} {y : MethodName} {bs : ByteArray} {rt : Option FieldType} {v0 : Value} {P : Int32 → St → Prop} (cv : CSt own idx y bs ml rt 1) (dg : decode cc pc = .ok (.invokestatic idx, 3)) (hM : Cti y bs ml rt d2 θ sx [v0] S P) (hd : d2 + 1 ≤ d) (kk : ∀ r S', P r S' → K (pc + 3) lv (.int r :: st) S') (hst : (st.map fun v => v.category).sum ≤ 8 := by (first | exact Nat.le_of_ble_eq_true rfl | decide)) : K pc lv (v0 :: st) S := by
  obtain ⟨p, l, e, s, m, args, below, meth, c, Q, hx, hb, hml, hown, hts, hK, hJ, hE, ri, rl, rv, rfl⟩ := hC
  intro H locs ls hn hl hP hS
  obtain ⟨c1, c2, c3, c5, c6, c7, c8, c9⟩ := cv
  exact va_calli (va_runS (As := [v0]) (rest := st) ⟨hx, hb, hml, hown, hts⟩ (hM l H.size) ⟨callB_of 1 hts (gTb c1) rfl rfl rfl (hts _ c5) (hts _ c2) ⟨c6, c7, c8⟩ (by constructor <;> (show _ ≤ _; simp only [rmD]; omega)), hts _ c3⟩ ⟨PcW_blind, fun U hU hW => ⟨rfl, by rw [hU], by rw [hU]; exact hP, va_K.moved hW.alike hK, hJ, by rw [hU]; exact hE.go hS.2.1 (fun q h => h.elim Or.inl (fun z => Or.inr (Nat.le_trans hS.1 z))) hW⟩⟩ rfl rfl hl.1 rfl (lv_room hst) dg ⟨Nat.zero_le _, Nat.zero_le _⟩) hS (fun q h1 h2 => h2.elim Or.inl (fun z => absurd h1 (Nat.not_lt.mpr z))) (fun q h => h.elim Or.inl (fun z => Or.inr (Nat.le_trans hS.1 z))) (fun r u t H1 locs1 ht hvm hw hB hz1 hk1 hS1 => kk r u hw H1 locs1 ls hn hl (by rw [← ht]; exact hB) hS1)
theorem q_calliV2 (hC : Ok K cc own nL d θ sx Fi Fl Fv) {q ci idx ml d2 : Nat} {ks : List (Option (Option Nat))} {y : MethodName} {bs : ByteArray} {rt : Option FieldType} {v0 v1 : Value} {P : Int32 → St → Prop} (hs : sx[q]? = some (.inr (.inl (ci, ks)))) (cv : CV own idx y bs ml rt 2 ci) (dg : decode cc pc = .ok (.invokevirtual idx, 3)) (hM : Cti y bs ml rt d2 θ sx (.ref (sA θ q) :: [v0, v1]) S P) (hd : d2 + 1 ≤ d) (kk : ∀ r S', P r S' → K (pc + 3) lv (.int r :: st) S') (hst : (st.map fun v => v.category).sum ≤ 8 := by (first | exact Nat.le_of_ble_eq_true rfl | decide)) : K pc lv (v1 :: v0 :: .ref (sA θ q) :: st) S := by
  obtain ⟨p, l, e, s, m, args, below, meth, c, Q, hx, hb, hml, hown, hts, hK, hJ, hE, ri, rl, rv, rfl⟩ := hC
  intro H locs ls hn hl hP hS
  obtain ⟨c1, c2, c3, c4, c5, c6, c7, c8, c9, T, N, c10⟩ := cv
  exact va_calli (va_runV (As := [v0, v1]) (rest := st) ⟨hx, hb, hml, hown, hts⟩ (hM l H.size) ⟨callB_of 2 hts (gTb c1) rfl rfl rfl (hts _ c5) (hts _ c2) ⟨c6, c7, c8⟩ (by constructor <;> (show _ ≤ _; simp only [rmD]; omega)), hts _ c3, hts _ c4⟩ ⟨PcW_blind, va_recv (D := sD θ) (cl := vwCl) hK hP c10 (GW_get hs), fun U hU hW => ⟨rfl, by rw [hU], by rw [hU]; exact hP, va_K.moved hW.alike hK, hJ, by rw [hU]; exact hE.go hS.2.1 (fun q h => h.elim Or.inl (fun z => Or.inr (Nat.le_trans hS.1 z))) hW⟩⟩ rfl rfl hl.1 rfl (lv_room hst) dg ⟨Nat.zero_le _, Nat.zero_le _⟩) hS (fun q h1 h2 => h2.elim Or.inl (fun z => absurd h1 (Nat.not_lt.mpr z))) (fun q h => h.elim Or.inl (fun z => Or.inr (Nat.le_trans hS.1 z))) (fun r u t H1 locs1 ht hvm hw hB hz1 hk1 hS1 => kk r u hw H1 locs1 ls hn hl (by rw [← ht]; exact hB) hS1)
theorem q_calliS2 (hC : Ok K cc own nL d θ sx Fi Fl Fv) {idx ml d2 : Nat} {y : MethodName} {bs : ByteArray} {rt : Option FieldType} {v0 v1 : Value} {P : Int32 → St → Prop} (cv : CSt own idx y bs ml rt 2) (dg : decode cc pc = .ok (.invokestatic idx, 3)) (hM : Cti y bs ml rt d2 θ sx [v0, v1] S P) (hd : d2 + 1 ≤ d) (kk : ∀ r S', P r S' → K (pc + 3) lv (.int r :: st) S') (hst : (st.map fun v => v.category).sum ≤ 8 := by (first | exact Nat.le_of_ble_eq_true rfl | decide)) : K pc lv (v1 :: v0 :: st) S := by
  obtain ⟨p, l, e, s, m, args, below, meth, c, Q, hx, hb, hml, hown, hts, hK, hJ, hE, ri, rl, rv, rfl⟩ := hC
  intro H locs ls hn hl hP hS
  obtain ⟨c1, c2, c3, c5, c6, c7, c8, c9⟩ := cv
  exact va_calli (va_runS (As := [v0, v1]) (rest := st) ⟨hx, hb, hml, hown, hts⟩ (hM l H.size) ⟨callB_of 2 hts (gTb c1) rfl rfl rfl (hts _ c5) (hts _ c2) ⟨c6, c7, c8⟩ (by constructor <;> (show _ ≤ _; simp only [rmD]; omega)), hts _ c3⟩ ⟨PcW_blind, fun U hU hW => ⟨rfl, by rw [hU], by rw [hU]; exact hP, va_K.moved hW.alike hK, hJ, by rw [hU]; exact hE.go hS.2.1 (fun q h => h.elim Or.inl (fun z => Or.inr (Nat.le_trans hS.1 z))) hW⟩⟩ rfl rfl hl.1 rfl (lv_room hst) dg ⟨Nat.zero_le _, Nat.zero_le _⟩) hS (fun q h1 h2 => h2.elim Or.inl (fun z => absurd h1 (Nat.not_lt.mpr z))) (fun q h => h.elim Or.inl (fun z => Or.inr (Nat.le_trans hS.1 z))) (fun r u t H1 locs1 ht hvm hw hB hz1 hk1 hS1 => kk r u hw H1 locs1 ls hn hl (by rw [← ht]; exact hB) hS1)
theorem q_calliV3 (hC : Ok K cc own nL d θ sx Fi Fl Fv) {q ci idx ml d2 : Nat} {ks : List (Option (Option Nat))} {y : MethodName} {bs : ByteArray} {rt : Option FieldType} {v0 v1 v2 : Value} {P : Int32 → St → Prop} (hs : sx[q]? = some (.inr (.inl (ci, ks)))) (cv : CV own idx y bs ml rt 3 ci) (dg : decode cc pc = .ok (.invokevirtual idx, 3)) (hM : Cti y bs ml rt d2 θ sx (.ref (sA θ q) :: [v0, v1, v2]) S P) (hd : d2 + 1 ≤ d) (kk : ∀ r S', P r S' → K (pc + 3) lv (.int r :: st) S') (hst : (st.map fun v => v.category).sum ≤ 8 := by (first | exact Nat.le_of_ble_eq_true rfl | decide)) : K pc lv (v2 :: v1 :: v0 :: .ref (sA θ q) :: st) S := by
  obtain ⟨p, l, e, s, m, args, below, meth, c, Q, hx, hb, hml, hown, hts, hK, hJ, hE, ri, rl, rv, rfl⟩ := hC
  intro H locs ls hn hl hP hS
  obtain ⟨c1, c2, c3, c4, c5, c6, c7, c8, c9, T, N, c10⟩ := cv
  exact va_calli (va_runV (As := [v0, v1, v2]) (rest := st) ⟨hx, hb, hml, hown, hts⟩ (hM l H.size) ⟨callB_of 3 hts (gTb c1) rfl rfl rfl (hts _ c5) (hts _ c2) ⟨c6, c7, c8⟩ (by constructor <;> (show _ ≤ _; simp only [rmD]; omega)), hts _ c3, hts _ c4⟩ ⟨PcW_blind, va_recv (D := sD θ) (cl := vwCl) hK hP c10 (GW_get hs), fun U hU hW => ⟨rfl, by rw [hU], by rw [hU]; exact hP, va_K.moved hW.alike hK, hJ, by rw [hU]; exact hE.go hS.2.1 (fun q h => h.elim Or.inl (fun z => Or.inr (Nat.le_trans hS.1 z))) hW⟩⟩ rfl rfl hl.1 rfl (lv_room hst) dg ⟨Nat.zero_le _, Nat.zero_le _⟩) hS (fun q h1 h2 => h2.elim Or.inl (fun z => absurd h1 (Nat.not_lt.mpr z))) (fun q h => h.elim Or.inl (fun z => Or.inr (Nat.le_trans hS.1 z))) (fun r u t H1 locs1 ht hvm hw hB hz1 hk1 hS1 => kk r u hw H1 locs1 ls hn hl (by rw [← ht]; exact hB) hS1)
theorem q_calliS3 (hC : Ok K cc own nL d θ sx Fi Fl Fv) {idx ml d2 : Nat} {y : MethodName} {bs : ByteArray} {rt : Option FieldType} {v0 v1 v2 : Value} {P : Int32 → St → Prop} (cv : CSt own idx y bs ml rt 3) (dg : decode cc pc = .ok (.invokestatic idx, 3)) (hM : Cti y bs ml rt d2 θ sx [v0, v1, v2] S P) (hd : d2 + 1 ≤ d) (kk : ∀ r S', P r S' → K (pc + 3) lv (.int r :: st) S') (hst : (st.map fun v => v.category).sum ≤ 8 := by (first | exact Nat.le_of_ble_eq_true rfl | decide)) : K pc lv (v2 :: v1 :: v0 :: st) S := by
  obtain ⟨p, l, e, s, m, args, below, meth, c, Q, hx, hb, hml, hown, hts, hK, hJ, hE, ri, rl, rv, rfl⟩ := hC
  intro H locs ls hn hl hP hS
  obtain ⟨c1, c2, c3, c5, c6, c7, c8, c9⟩ := cv
  exact va_calli (va_runS (As := [v0, v1, v2]) (rest := st) ⟨hx, hb, hml, hown, hts⟩ (hM l H.size) ⟨callB_of 3 hts (gTb c1) rfl rfl rfl (hts _ c5) (hts _ c2) ⟨c6, c7, c8⟩ (by constructor <;> (show _ ≤ _; simp only [rmD]; omega)), hts _ c3⟩ ⟨PcW_blind, fun U hU hW => ⟨rfl, by rw [hU], by rw [hU]; exact hP, va_K.moved hW.alike hK, hJ, by rw [hU]; exact hE.go hS.2.1 (fun q h => h.elim Or.inl (fun z => Or.inr (Nat.le_trans hS.1 z))) hW⟩⟩ rfl rfl hl.1 rfl (lv_room hst) dg ⟨Nat.zero_le _, Nat.zero_le _⟩) hS (fun q h1 h2 => h2.elim Or.inl (fun z => absurd h1 (Nat.not_lt.mpr z))) (fun q h => h.elim Or.inl (fun z => Or.inr (Nat.le_trans hS.1 z))) (fun r u t H1 locs1 ht hvm hw hB hz1 hk1 hS1 => kk r u hw H1 locs1 ls hn hl (by rw [← ht]; exact hB) hS1)
theorem q_calliV4 (hC : Ok K cc own nL d θ sx Fi Fl Fv) {q ci idx ml d2 : Nat} {ks : List (Option (Option Nat))} {y : MethodName} {bs : ByteArray} {rt : Option FieldType} {v0 v1 v2 v3 : Value} {P : Int32 → St → Prop} (hs : sx[q]? = some (.inr (.inl (ci, ks)))) (cv : CV own idx y bs ml rt 4 ci) (dg : decode cc pc = .ok (.invokevirtual idx, 3)) (hM : Cti y bs ml rt d2 θ sx (.ref (sA θ q) :: [v0, v1, v2, v3]) S P) (hd : d2 + 1 ≤ d) (kk : ∀ r S', P r S' → K (pc + 3) lv (.int r :: st) S') (hst : (st.map fun v => v.category).sum ≤ 8 := by (first | exact Nat.le_of_ble_eq_true rfl | decide)) : K pc lv (v3 :: v2 :: v1 :: v0 :: .ref (sA θ q) :: st) S := by
  obtain ⟨p, l, e, s, m, args, below, meth, c, Q, hx, hb, hml, hown, hts, hK, hJ, hE, ri, rl, rv, rfl⟩ := hC
  intro H locs ls hn hl hP hS
  obtain ⟨c1, c2, c3, c4, c5, c6, c7, c8, c9, T, N, c10⟩ := cv
  exact va_calli (va_runV (As := [v0, v1, v2, v3]) (rest := st) ⟨hx, hb, hml, hown, hts⟩ (hM l H.size) ⟨callB_of 4 hts (gTb c1) rfl rfl rfl (hts _ c5) (hts _ c2) ⟨c6, c7, c8⟩ (by constructor <;> (show _ ≤ _; simp only [rmD]; omega)), hts _ c3, hts _ c4⟩ ⟨PcW_blind, va_recv (D := sD θ) (cl := vwCl) hK hP c10 (GW_get hs), fun U hU hW => ⟨rfl, by rw [hU], by rw [hU]; exact hP, va_K.moved hW.alike hK, hJ, by rw [hU]; exact hE.go hS.2.1 (fun q h => h.elim Or.inl (fun z => Or.inr (Nat.le_trans hS.1 z))) hW⟩⟩ rfl rfl hl.1 rfl (lv_room hst) dg ⟨Nat.zero_le _, Nat.zero_le _⟩) hS (fun q h1 h2 => h2.elim Or.inl (fun z => absurd h1 (Nat.not_lt.mpr z))) (fun q h => h.elim Or.inl (fun z => Or.inr (Nat.le_trans hS.1 z))) (fun r u t H1 locs1 ht hvm hw hB hz1 hk1 hS1 => kk r u hw H1 locs1 ls hn hl (by rw [← ht]; exact hB) hS1)
theorem q_calliS4 (hC : Ok K cc own nL d θ sx Fi Fl Fv) {idx ml d2 : Nat} {y : MethodName} {bs : ByteArray} {rt : Option FieldType} {v0 v1 v2 v3 : Value} {P : Int32 → St → Prop} (cv : CSt own idx y bs ml rt 4) (dg : decode cc pc = .ok (.invokestatic idx, 3)) (hM : Cti y bs ml rt d2 θ sx [v0, v1, v2, v3] S P) (hd : d2 + 1 ≤ d) (kk : ∀ r S', P r S' → K (pc + 3) lv (.int r :: st) S') (hst : (st.map fun v => v.category).sum ≤ 8 := by (first | exact Nat.le_of_ble_eq_true rfl | decide)) : K pc lv (v3 :: v2 :: v1 :: v0 :: st) S := by
  obtain ⟨p, l, e, s, m, args, below, meth, c, Q, hx, hb, hml, hown, hts, hK, hJ, hE, ri, rl, rv, rfl⟩ := hC
  intro H locs ls hn hl hP hS
  obtain ⟨c1, c2, c3, c5, c6, c7, c8, c9⟩ := cv
  exact va_calli (va_runS (As := [v0, v1, v2, v3]) (rest := st) ⟨hx, hb, hml, hown, hts⟩ (hM l H.size) ⟨callB_of 4 hts (gTb c1) rfl rfl rfl (hts _ c5) (hts _ c2) ⟨c6, c7, c8⟩ (by constructor <;> (show _ ≤ _; simp only [rmD]; omega)), hts _ c3⟩ ⟨PcW_blind, fun U hU hW => ⟨rfl, by rw [hU], by rw [hU]; exact hP, va_K.moved hW.alike hK, hJ, by rw [hU]; exact hE.go hS.2.1 (fun q h => h.elim Or.inl (fun z => Or.inr (Nat.le_trans hS.1 z))) hW⟩⟩ rfl rfl hl.1 rfl (lv_room hst) dg ⟨Nat.zero_le _, Nat.zero_le _⟩) hS (fun q h1 h2 => h2.elim Or.inl (fun z => absurd h1 (Nat.not_lt.mpr z))) (fun q h => h.elim Or.inl (fun z => Or.inr (Nat.le_trans hS.1 z))) (fun r u t H1 locs1 ht hvm hw hB hz1 hk1 hS1 => kk r u hw H1 locs1 ls hn hl (by rw [← ht]; exact hB) hS1)
theorem q_calllV0 (hC : Ok K cc own nL d θ sx Fi Fl Fv) {q ci idx ml d2 : Nat} {ks : List (Option (Option Nat))} {y : MethodName} {bs : ByteArray} {rt : Option FieldType} {P : Int64 → St → Prop} (hs : sx[q]? = some (.inr (.inl (ci, ks)))) (cv : CV own idx y bs ml rt 0 ci) (dg : decode cc pc = .ok (.invokevirtual idx, 3)) (hM : Ctl y bs ml rt d2 θ sx (.ref (sA θ q) :: []) S P) (hd : d2 + 1 ≤ d) (kk : ∀ r S', P r S' → K (pc + 3) lv (.long r :: st) S') (hst : (st.map fun v => v.category).sum ≤ 8 := by (first | exact Nat.le_of_ble_eq_true rfl | decide)) : K pc lv (.ref (sA θ q) :: st) S := by
  obtain ⟨p, l, e, s, m, args, below, meth, c, Q, hx, hb, hml, hown, hts, hK, hJ, hE, ri, rl, rv, rfl⟩ := hC
  intro H locs ls hn hl hP hS
  obtain ⟨c1, c2, c3, c4, c5, c6, c7, c8, c9, T, N, c10⟩ := cv
  exact va_calll (va_runV (As := []) (rest := st) ⟨hx, hb, hml, hown, hts⟩ (hM l H.size) ⟨callB_of 0 hts (gTb c1) rfl rfl rfl (hts _ c5) (hts _ c2) ⟨c6, c7, c8⟩ (by constructor <;> (show _ ≤ _; simp only [rmD]; omega)), hts _ c3, hts _ c4⟩ ⟨PcW_blind, va_recv (D := sD θ) (cl := vwCl) hK hP c10 (GW_get hs), fun U hU hW => ⟨rfl, by rw [hU], by rw [hU]; exact hP, va_K.moved hW.alike hK, hJ, by rw [hU]; exact hE.go hS.2.1 (fun q h => h.elim Or.inl (fun z => Or.inr (Nat.le_trans hS.1 z))) hW⟩⟩ rfl rfl hl.1 rfl (lv_room hst) dg ⟨Nat.zero_le _, Nat.zero_le _⟩) hS (fun q h1 h2 => h2.elim Or.inl (fun z => absurd h1 (Nat.not_lt.mpr z))) (fun q h => h.elim Or.inl (fun z => Or.inr (Nat.le_trans hS.1 z))) (fun r u t H1 locs1 ht hvm hw hB hz1 hk1 hS1 => kk r u hw H1 locs1 ls hn hl (by rw [← ht]; exact hB) hS1)
theorem q_calllS0 (hC : Ok K cc own nL d θ sx Fi Fl Fv) {idx ml d2 : Nat} {y : MethodName} {bs : ByteArray} {rt : Option FieldType} {P : Int64 → St → Prop} (cv : CSt own idx y bs ml rt 0) (dg : decode cc pc = .ok (.invokestatic idx, 3)) (hM : Ctl y bs ml rt d2 θ sx [] S P) (hd : d2 + 1 ≤ d) (kk : ∀ r S', P r S' → K (pc + 3) lv (.long r :: st) S') (hst : (st.map fun v => v.category).sum ≤ 8 := by (first | exact Nat.le_of_ble_eq_true rfl | decide)) : K pc lv (st) S := by
  obtain ⟨p, l, e, s, m, args, below, meth, c, Q, hx, hb, hml, hown, hts, hK, hJ, hE, ri, rl, rv, rfl⟩ := hC
  intro H locs ls hn hl hP hS
  obtain ⟨c1, c2, c3, c5, c6, c7, c8, c9⟩ := cv
  exact va_calll (va_runS (As := []) (rest := st) ⟨hx, hb, hml, hown, hts⟩ (hM l H.size) ⟨callB_of 0 hts (gTb c1) rfl rfl rfl (hts _ c5) (hts _ c2) ⟨c6, c7, c8⟩ (by constructor <;> (show _ ≤ _; simp only [rmD]; omega)), hts _ c3⟩ ⟨PcW_blind, fun U hU hW => ⟨rfl, by rw [hU], by rw [hU]; exact hP, va_K.moved hW.alike hK, hJ, by rw [hU]; exact hE.go hS.2.1 (fun q h => h.elim Or.inl (fun z => Or.inr (Nat.le_trans hS.1 z))) hW⟩⟩ rfl rfl hl.1 rfl (lv_room hst) dg ⟨Nat.zero_le _, Nat.zero_le _⟩) hS (fun q h1 h2 => h2.elim Or.inl (fun z => absurd h1 (Nat.not_lt.mpr z))) (fun q h => h.elim Or.inl (fun z => Or.inr (Nat.le_trans hS.1 z))) (fun r u t H1 locs1 ht hvm hw hB hz1 hk1 hS1 => kk r u hw H1 locs1 ls hn hl (by rw [← ht]; exact hB) hS1)
theorem q_calllV1 (hC : Ok K cc own nL d θ sx Fi Fl Fv) {q ci idx ml d2 : Nat} {ks : List (Option (Option Nat))} {y : MethodName} {bs : ByteArray} {rt : Option FieldType} {v0 : Value} {P : Int64 → St → Prop} (hs : sx[q]? = some (.inr (.inl (ci, ks)))) (cv : CV own idx y bs ml rt 1 ci) (dg : decode cc pc = .ok (.invokevirtual idx, 3)) (hM : Ctl y bs ml rt d2 θ sx (.ref (sA θ q) :: [v0]) S P) (hd : d2 + 1 ≤ d) (kk : ∀ r S', P r S' → K (pc + 3) lv (.long r :: st) S') (hst : (st.map fun v => v.category).sum ≤ 8 := by (first | exact Nat.le_of_ble_eq_true rfl | decide)) : K pc lv (v0 :: .ref (sA θ q) :: st) S := by
  obtain ⟨p, l, e, s, m, args, below, meth, c, Q, hx, hb, hml, hown, hts, hK, hJ, hE, ri, rl, rv, rfl⟩ := hC
  intro H locs ls hn hl hP hS
  obtain ⟨c1, c2, c3, c4, c5, c6, c7, c8, c9, T, N, c10⟩ := cv
  exact va_calll (va_runV (As := [v0]) (rest := st) ⟨hx, hb, hml, hown, hts⟩ (hM l H.size) ⟨callB_of 1 hts (gTb c1) rfl rfl rfl (hts _ c5) (hts _ c2) ⟨c6, c7, c8⟩ (by constructor <;> (show _ ≤ _; simp only [rmD]; omega)), hts _ c3, hts _ c4⟩ ⟨PcW_blind, va_recv (D := sD θ) (cl := vwCl) hK hP c10 (GW_get hs), fun U hU hW => ⟨rfl, by rw [hU], by rw [hU]; exact hP, va_K.moved hW.alike hK, hJ, by rw [hU]; exact hE.go hS.2.1 (fun q h => h.elim Or.inl (fun z => Or.inr (Nat.le_trans hS.1 z))) hW⟩⟩ rfl rfl hl.1 rfl (lv_room hst) dg ⟨Nat.zero_le _, Nat.zero_le _⟩) hS (fun q h1 h2 => h2.elim Or.inl (fun z => absurd h1 (Nat.not_lt.mpr z))) (fun q h => h.elim Or.inl (fun z => Or.inr (Nat.le_trans hS.1 z))) (fun r u t H1 locs1 ht hvm hw hB hz1 hk1 hS1 => kk r u hw H1 locs1 ls hn hl (by rw [← ht]; exact hB) hS1)
theorem q_calllS1 (hC : Ok K cc own nL d θ sx Fi Fl Fv) {idx ml d2 : Nat} {y : MethodName} {bs : ByteArray} {rt : Option FieldType} {v0 : Value} {P : Int64 → St → Prop} (cv : CSt own idx y bs ml rt 1) (dg : decode cc pc = .ok (.invokestatic idx, 3)) (hM : Ctl y bs ml rt d2 θ sx [v0] S P) (hd : d2 + 1 ≤ d) (kk : ∀ r S', P r S' → K (pc + 3) lv (.long r :: st) S') (hst : (st.map fun v => v.category).sum ≤ 8 := by (first | exact Nat.le_of_ble_eq_true rfl | decide)) : K pc lv (v0 :: st) S := by
  obtain ⟨p, l, e, s, m, args, below, meth, c, Q, hx, hb, hml, hown, hts, hK, hJ, hE, ri, rl, rv, rfl⟩ := hC
  intro H locs ls hn hl hP hS
  obtain ⟨c1, c2, c3, c5, c6, c7, c8, c9⟩ := cv
  exact va_calll (va_runS (As := [v0]) (rest := st) ⟨hx, hb, hml, hown, hts⟩ (hM l H.size) ⟨callB_of 1 hts (gTb c1) rfl rfl rfl (hts _ c5) (hts _ c2) ⟨c6, c7, c8⟩ (by constructor <;> (show _ ≤ _; simp only [rmD]; omega)), hts _ c3⟩ ⟨PcW_blind, fun U hU hW => ⟨rfl, by rw [hU], by rw [hU]; exact hP, va_K.moved hW.alike hK, hJ, by rw [hU]; exact hE.go hS.2.1 (fun q h => h.elim Or.inl (fun z => Or.inr (Nat.le_trans hS.1 z))) hW⟩⟩ rfl rfl hl.1 rfl (lv_room hst) dg ⟨Nat.zero_le _, Nat.zero_le _⟩) hS (fun q h1 h2 => h2.elim Or.inl (fun z => absurd h1 (Nat.not_lt.mpr z))) (fun q h => h.elim Or.inl (fun z => Or.inr (Nat.le_trans hS.1 z))) (fun r u t H1 locs1 ht hvm hw hB hz1 hk1 hS1 => kk r u hw H1 locs1 ls hn hl (by rw [← ht]; exact hB) hS1)
theorem q_calllV2 (hC : Ok K cc own nL d θ sx Fi Fl Fv) {q ci idx ml d2 : Nat} {ks : List (Option (Option Nat))} {y : MethodName} {bs : ByteArray} {rt : Option FieldType} {v0 v1 : Value} {P : Int64 → St → Prop} (hs : sx[q]? = some (.inr (.inl (ci, ks)))) (cv : CV own idx y bs ml rt 2 ci) (dg : decode cc pc = .ok (.invokevirtual idx, 3)) (hM : Ctl y bs ml rt d2 θ sx (.ref (sA θ q) :: [v0, v1]) S P) (hd : d2 + 1 ≤ d) (kk : ∀ r S', P r S' → K (pc + 3) lv (.long r :: st) S') (hst : (st.map fun v => v.category).sum ≤ 8 := by (first | exact Nat.le_of_ble_eq_true rfl | decide)) : K pc lv (v1 :: v0 :: .ref (sA θ q) :: st) S := by
  obtain ⟨p, l, e, s, m, args, below, meth, c, Q, hx, hb, hml, hown, hts, hK, hJ, hE, ri, rl, rv, rfl⟩ := hC
  intro H locs ls hn hl hP hS
  obtain ⟨c1, c2, c3, c4, c5, c6, c7, c8, c9, T, N, c10⟩ := cv
  exact va_calll (va_runV (As := [v0, v1]) (rest := st) ⟨hx, hb, hml, hown, hts⟩ (hM l H.size) ⟨callB_of 2 hts (gTb c1) rfl rfl rfl (hts _ c5) (hts _ c2) ⟨c6, c7, c8⟩ (by constructor <;> (show _ ≤ _; simp only [rmD]; omega)), hts _ c3, hts _ c4⟩ ⟨PcW_blind, va_recv (D := sD θ) (cl := vwCl) hK hP c10 (GW_get hs), fun U hU hW => ⟨rfl, by rw [hU], by rw [hU]; exact hP, va_K.moved hW.alike hK, hJ, by rw [hU]; exact hE.go hS.2.1 (fun q h => h.elim Or.inl (fun z => Or.inr (Nat.le_trans hS.1 z))) hW⟩⟩ rfl rfl hl.1 rfl (lv_room hst) dg ⟨Nat.zero_le _, Nat.zero_le _⟩) hS (fun q h1 h2 => h2.elim Or.inl (fun z => absurd h1 (Nat.not_lt.mpr z))) (fun q h => h.elim Or.inl (fun z => Or.inr (Nat.le_trans hS.1 z))) (fun r u t H1 locs1 ht hvm hw hB hz1 hk1 hS1 => kk r u hw H1 locs1 ls hn hl (by rw [← ht]; exact hB) hS1)
theorem q_calllS2 (hC : Ok K cc own nL d θ sx Fi Fl Fv) {idx ml d2 : Nat} {y : MethodName} {bs : ByteArray} {rt : Option FieldType} {v0 v1 : Value} {P : Int64 → St → Prop} (cv : CSt own idx y bs ml rt 2) (dg : decode cc pc = .ok (.invokestatic idx, 3)) (hM : Ctl y bs ml rt d2 θ sx [v0, v1] S P) (hd : d2 + 1 ≤ d) (kk : ∀ r S', P r S' → K (pc + 3) lv (.long r :: st) S') (hst : (st.map fun v => v.category).sum ≤ 8 := by (first | exact Nat.le_of_ble_eq_true rfl | decide)) : K pc lv (v1 :: v0 :: st) S := by
  obtain ⟨p, l, e, s, m, args, below, meth, c, Q, hx, hb, hml, hown, hts, hK, hJ, hE, ri, rl, rv, rfl⟩ := hC
  intro H locs ls hn hl hP hS
  obtain ⟨c1, c2, c3, c5, c6, c7, c8, c9⟩ := cv
  exact va_calll (va_runS (As := [v0, v1]) (rest := st) ⟨hx, hb, hml, hown, hts⟩ (hM l H.size) ⟨callB_of 2 hts (gTb c1) rfl rfl rfl (hts _ c5) (hts _ c2) ⟨c6, c7, c8⟩ (by constructor <;> (show _ ≤ _; simp only [rmD]; omega)), hts _ c3⟩ ⟨PcW_blind, fun U hU hW => ⟨rfl, by rw [hU], by rw [hU]; exact hP, va_K.moved hW.alike hK, hJ, by rw [hU]; exact hE.go hS.2.1 (fun q h => h.elim Or.inl (fun z => Or.inr (Nat.le_trans hS.1 z))) hW⟩⟩ rfl rfl hl.1 rfl (lv_room hst) dg ⟨Nat.zero_le _, Nat.zero_le _⟩) hS (fun q h1 h2 => h2.elim Or.inl (fun z => absurd h1 (Nat.not_lt.mpr z))) (fun q h => h.elim Or.inl (fun z => Or.inr (Nat.le_trans hS.1 z))) (fun r u t H1 locs1 ht hvm hw hB hz1 hk1 hS1 => kk r u hw H1 locs1 ls hn hl (by rw [← ht]; exact hB) hS1)
theorem q_calllV3 (hC : Ok K cc own nL d θ sx Fi Fl Fv) {q ci idx ml d2 : Nat} {ks : List (Option (Option Nat))} {y : MethodName} {bs : ByteArray} {rt : Option FieldType} {v0 v1 v2 : Value} {P : Int64 → St → Prop} (hs : sx[q]? = some (.inr (.inl (ci, ks)))) (cv : CV own idx y bs ml rt 3 ci) (dg : decode cc pc = .ok (.invokevirtual idx, 3)) (hM : Ctl y bs ml rt d2 θ sx (.ref (sA θ q) :: [v0, v1, v2]) S P) (hd : d2 + 1 ≤ d) (kk : ∀ r S', P r S' → K (pc + 3) lv (.long r :: st) S') (hst : (st.map fun v => v.category).sum ≤ 8 := by (first | exact Nat.le_of_ble_eq_true rfl | decide)) : K pc lv (v2 :: v1 :: v0 :: .ref (sA θ q) :: st) S := by
  obtain ⟨p, l, e, s, m, args, below, meth, c, Q, hx, hb, hml, hown, hts, hK, hJ, hE, ri, rl, rv, rfl⟩ := hC
  intro H locs ls hn hl hP hS
  obtain ⟨c1, c2, c3, c4, c5, c6, c7, c8, c9, T, N, c10⟩ := cv
  exact va_calll (va_runV (As := [v0, v1, v2]) (rest := st) ⟨hx, hb, hml, hown, hts⟩ (hM l H.size) ⟨callB_of 3 hts (gTb c1) rfl rfl rfl (hts _ c5) (hts _ c2) ⟨c6, c7, c8⟩ (by constructor <;> (show _ ≤ _; simp only [rmD]; omega)), hts _ c3, hts _ c4⟩ ⟨PcW_blind, va_recv (D := sD θ) (cl := vwCl) hK hP c10 (GW_get hs), fun U hU hW => ⟨rfl, by rw [hU], by rw [hU]; exact hP, va_K.moved hW.alike hK, hJ, by rw [hU]; exact hE.go hS.2.1 (fun q h => h.elim Or.inl (fun z => Or.inr (Nat.le_trans hS.1 z))) hW⟩⟩ rfl rfl hl.1 rfl (lv_room hst) dg ⟨Nat.zero_le _, Nat.zero_le _⟩) hS (fun q h1 h2 => h2.elim Or.inl (fun z => absurd h1 (Nat.not_lt.mpr z))) (fun q h => h.elim Or.inl (fun z => Or.inr (Nat.le_trans hS.1 z))) (fun r u t H1 locs1 ht hvm hw hB hz1 hk1 hS1 => kk r u hw H1 locs1 ls hn hl (by rw [← ht]; exact hB) hS1)
theorem q_calllS3 (hC : Ok K cc own nL d θ sx Fi Fl Fv) {idx ml d2 : Nat} {y : MethodName} {bs : ByteArray} {rt : Option FieldType} {v0 v1 v2 : Value} {P : Int64 → St → Prop} (cv : CSt own idx y bs ml rt 3) (dg : decode cc pc = .ok (.invokestatic idx, 3)) (hM : Ctl y bs ml rt d2 θ sx [v0, v1, v2] S P) (hd : d2 + 1 ≤ d) (kk : ∀ r S', P r S' → K (pc + 3) lv (.long r :: st) S') (hst : (st.map fun v => v.category).sum ≤ 8 := by (first | exact Nat.le_of_ble_eq_true rfl | decide)) : K pc lv (v2 :: v1 :: v0 :: st) S := by
  obtain ⟨p, l, e, s, m, args, below, meth, c, Q, hx, hb, hml, hown, hts, hK, hJ, hE, ri, rl, rv, rfl⟩ := hC
  intro H locs ls hn hl hP hS
  obtain ⟨c1, c2, c3, c5, c6, c7, c8, c9⟩ := cv
  exact va_calll (va_runS (As := [v0, v1, v2]) (rest := st) ⟨hx, hb, hml, hown, hts⟩ (hM l H.size) ⟨callB_of 3 hts (gTb c1) rfl rfl rfl (hts _ c5) (hts _ c2) ⟨c6, c7, c8⟩ (by constructor <;> (show _ ≤ _; simp only [rmD]; omega)), hts _ c3⟩ ⟨PcW_blind, fun U hU hW => ⟨rfl, by rw [hU], by rw [hU]; exact hP, va_K.moved hW.alike hK, hJ, by rw [hU]; exact hE.go hS.2.1 (fun q h => h.elim Or.inl (fun z => Or.inr (Nat.le_trans hS.1 z))) hW⟩⟩ rfl rfl hl.1 rfl (lv_room hst) dg ⟨Nat.zero_le _, Nat.zero_le _⟩) hS (fun q h1 h2 => h2.elim Or.inl (fun z => absurd h1 (Nat.not_lt.mpr z))) (fun q h => h.elim Or.inl (fun z => Or.inr (Nat.le_trans hS.1 z))) (fun r u t H1 locs1 ht hvm hw hB hz1 hk1 hS1 => kk r u hw H1 locs1 ls hn hl (by rw [← ht]; exact hB) hS1)
theorem q_calllV4 (hC : Ok K cc own nL d θ sx Fi Fl Fv) {q ci idx ml d2 : Nat} {ks : List (Option (Option Nat))} {y : MethodName} {bs : ByteArray} {rt : Option FieldType} {v0 v1 v2 v3 : Value} {P : Int64 → St → Prop} (hs : sx[q]? = some (.inr (.inl (ci, ks)))) (cv : CV own idx y bs ml rt 4 ci) (dg : decode cc pc = .ok (.invokevirtual idx, 3)) (hM : Ctl y bs ml rt d2 θ sx (.ref (sA θ q) :: [v0, v1, v2, v3]) S P) (hd : d2 + 1 ≤ d) (kk : ∀ r S', P r S' → K (pc + 3) lv (.long r :: st) S') (hst : (st.map fun v => v.category).sum ≤ 8 := by (first | exact Nat.le_of_ble_eq_true rfl | decide)) : K pc lv (v3 :: v2 :: v1 :: v0 :: .ref (sA θ q) :: st) S := by
  obtain ⟨p, l, e, s, m, args, below, meth, c, Q, hx, hb, hml, hown, hts, hK, hJ, hE, ri, rl, rv, rfl⟩ := hC
  intro H locs ls hn hl hP hS
  obtain ⟨c1, c2, c3, c4, c5, c6, c7, c8, c9, T, N, c10⟩ := cv
  exact va_calll (va_runV (As := [v0, v1, v2, v3]) (rest := st) ⟨hx, hb, hml, hown, hts⟩ (hM l H.size) ⟨callB_of 4 hts (gTb c1) rfl rfl rfl (hts _ c5) (hts _ c2) ⟨c6, c7, c8⟩ (by constructor <;> (show _ ≤ _; simp only [rmD]; omega)), hts _ c3, hts _ c4⟩ ⟨PcW_blind, va_recv (D := sD θ) (cl := vwCl) hK hP c10 (GW_get hs), fun U hU hW => ⟨rfl, by rw [hU], by rw [hU]; exact hP, va_K.moved hW.alike hK, hJ, by rw [hU]; exact hE.go hS.2.1 (fun q h => h.elim Or.inl (fun z => Or.inr (Nat.le_trans hS.1 z))) hW⟩⟩ rfl rfl hl.1 rfl (lv_room hst) dg ⟨Nat.zero_le _, Nat.zero_le _⟩) hS (fun q h1 h2 => h2.elim Or.inl (fun z => absurd h1 (Nat.not_lt.mpr z))) (fun q h => h.elim Or.inl (fun z => Or.inr (Nat.le_trans hS.1 z))) (fun r u t H1 locs1 ht hvm hw hB hz1 hk1 hS1 => kk r u hw H1 locs1 ls hn hl (by rw [← ht]; exact hB) hS1)
theorem q_calllS4 (hC : Ok K cc own nL d θ sx Fi Fl Fv) {idx ml d2 : Nat} {y : MethodName} {bs : ByteArray} {rt : Option FieldType} {v0 v1 v2 v3 : Value} {P : Int64 → St → Prop} (cv : CSt own idx y bs ml rt 4) (dg : decode cc pc = .ok (.invokestatic idx, 3)) (hM : Ctl y bs ml rt d2 θ sx [v0, v1, v2, v3] S P) (hd : d2 + 1 ≤ d) (kk : ∀ r S', P r S' → K (pc + 3) lv (.long r :: st) S') (hst : (st.map fun v => v.category).sum ≤ 8 := by (first | exact Nat.le_of_ble_eq_true rfl | decide)) : K pc lv (v3 :: v2 :: v1 :: v0 :: st) S := by
  obtain ⟨p, l, e, s, m, args, below, meth, c, Q, hx, hb, hml, hown, hts, hK, hJ, hE, ri, rl, rv, rfl⟩ := hC
  intro H locs ls hn hl hP hS
  obtain ⟨c1, c2, c3, c5, c6, c7, c8, c9⟩ := cv
  exact va_calll (va_runS (As := [v0, v1, v2, v3]) (rest := st) ⟨hx, hb, hml, hown, hts⟩ (hM l H.size) ⟨callB_of 4 hts (gTb c1) rfl rfl rfl (hts _ c5) (hts _ c2) ⟨c6, c7, c8⟩ (by constructor <;> (show _ ≤ _; simp only [rmD]; omega)), hts _ c3⟩ ⟨PcW_blind, fun U hU hW => ⟨rfl, by rw [hU], by rw [hU]; exact hP, va_K.moved hW.alike hK, hJ, by rw [hU]; exact hE.go hS.2.1 (fun q h => h.elim Or.inl (fun z => Or.inr (Nat.le_trans hS.1 z))) hW⟩⟩ rfl rfl hl.1 rfl (lv_room hst) dg ⟨Nat.zero_le _, Nat.zero_le _⟩) hS (fun q h1 h2 => h2.elim Or.inl (fun z => absurd h1 (Nat.not_lt.mpr z))) (fun q h => h.elim Or.inl (fun z => Or.inr (Nat.le_trans hS.1 z))) (fun r u t H1 locs1 ht hvm hw hB hz1 hk1 hS1 => kk r u hw H1 locs1 ls hn hl (by rw [← ht]; exact hB) hS1)
theorem q_callvV0 (hC : Ok K cc own nL d θ sx Fi Fl Fv) {q ci idx ml d2 : Nat} {ks : List (Option (Option Nat))} {y : MethodName} {bs : ByteArray} {rt : Option FieldType} {P : St → Prop} (hs : sx[q]? = some (.inr (.inl (ci, ks)))) (cv : CV own idx y bs ml rt 0 ci) (dg : decode cc pc = .ok (.invokevirtual idx, 3)) (hM : Ctv y bs ml rt d2 θ sx (.ref (sA θ q) :: []) S P) (hd : d2 + 1 ≤ d) (kk : ∀ S', P S' → K (pc + 3) lv st S') (hst : (st.map fun v => v.category).sum ≤ 8 := by (first | exact Nat.le_of_ble_eq_true rfl | decide)) : K pc lv (.ref (sA θ q) :: st) S := by
  obtain ⟨p, l, e, s, m, args, below, meth, c, Q, hx, hb, hml, hown, hts, hK, hJ, hE, ri, rl, rv, rfl⟩ := hC
  intro H locs ls hn hl hP hS
  obtain ⟨c1, c2, c3, c4, c5, c6, c7, c8, c9, T, N, c10⟩ := cv
  exact va_callv (va_runV (As := []) (rest := st) ⟨hx, hb, hml, hown, hts⟩ (hM l H.size) ⟨callB_of 0 hts (gTb c1) rfl rfl rfl (hts _ c5) (hts _ c2) ⟨c6, c7, c8⟩ (by constructor <;> (show _ ≤ _; simp only [rmD]; omega)), hts _ c3, hts _ c4⟩ ⟨PcW_blind, va_recv (D := sD θ) (cl := vwCl) hK hP c10 (GW_get hs), fun U hU hW => ⟨rfl, by rw [hU], by rw [hU]; exact hP, va_K.moved hW.alike hK, hJ, by rw [hU]; exact hE.go hS.2.1 (fun q h => h.elim Or.inl (fun z => Or.inr (Nat.le_trans hS.1 z))) hW⟩⟩ rfl rfl hl.1 rfl (lv_room hst) dg ⟨Nat.zero_le _, Nat.zero_le _⟩) hS (fun q h1 h2 => h2.elim Or.inl (fun z => absurd h1 (Nat.not_lt.mpr z))) (fun q h => h.elim Or.inl (fun z => Or.inr (Nat.le_trans hS.1 z))) (fun u t H1 locs1 ht hvm hw hB hz1 hk1 hS1 => kk u hw H1 locs1 ls hn hl (by rw [← ht]; exact hB) hS1)
theorem q_callvS0 (hC : Ok K cc own nL d θ sx Fi Fl Fv) {idx ml d2 : Nat} {y : MethodName} {bs : ByteArray} {rt : Option FieldType} {P : St → Prop} (cv : CSt own idx y bs ml rt 0) (dg : decode cc pc = .ok (.invokestatic idx, 3)) (hM : Ctv y bs ml rt d2 θ sx [] S P) (hd : d2 + 1 ≤ d) (kk : ∀ S', P S' → K (pc + 3) lv st S') (hst : (st.map fun v => v.category).sum ≤ 8 := by (first | exact Nat.le_of_ble_eq_true rfl | decide)) : K pc lv (st) S := by
  obtain ⟨p, l, e, s, m, args, below, meth, c, Q, hx, hb, hml, hown, hts, hK, hJ, hE, ri, rl, rv, rfl⟩ := hC
  intro H locs ls hn hl hP hS
  obtain ⟨c1, c2, c3, c5, c6, c7, c8, c9⟩ := cv
  exact va_callv (va_runS (As := []) (rest := st) ⟨hx, hb, hml, hown, hts⟩ (hM l H.size) ⟨callB_of 0 hts (gTb c1) rfl rfl rfl (hts _ c5) (hts _ c2) ⟨c6, c7, c8⟩ (by constructor <;> (show _ ≤ _; simp only [rmD]; omega)), hts _ c3⟩ ⟨PcW_blind, fun U hU hW => ⟨rfl, by rw [hU], by rw [hU]; exact hP, va_K.moved hW.alike hK, hJ, by rw [hU]; exact hE.go hS.2.1 (fun q h => h.elim Or.inl (fun z => Or.inr (Nat.le_trans hS.1 z))) hW⟩⟩ rfl rfl hl.1 rfl (lv_room hst) dg ⟨Nat.zero_le _, Nat.zero_le _⟩) hS (fun q h1 h2 => h2.elim Or.inl (fun z => absurd h1 (Nat.not_lt.mpr z))) (fun q h => h.elim Or.inl (fun z => Or.inr (Nat.le_trans hS.1 z))) (fun u t H1 locs1 ht hvm hw hB hz1 hk1 hS1 => kk u hw H1 locs1 ls hn hl (by rw [← ht]; exact hB) hS1)
theorem q_callvV1 (hC : Ok K cc own nL d θ sx Fi Fl Fv) {q ci idx ml d2 : Nat} {ks : List (Option (Option Nat))} {y : MethodName} {bs : ByteArray} {rt : Option FieldType} {v0 : Value} {P : St → Prop} (hs : sx[q]? = some (.inr (.inl (ci, ks)))) (cv : CV own idx y bs ml rt 1 ci) (dg : decode cc pc = .ok (.invokevirtual idx, 3)) (hM : Ctv y bs ml rt d2 θ sx (.ref (sA θ q) :: [v0]) S P) (hd : d2 + 1 ≤ d) (kk : ∀ S', P S' → K (pc + 3) lv st S') (hst : (st.map fun v => v.category).sum ≤ 8 := by (first | exact Nat.le_of_ble_eq_true rfl | decide)) : K pc lv (v0 :: .ref (sA θ q) :: st) S := by
  obtain ⟨p, l, e, s, m, args, below, meth, c, Q, hx, hb, hml, hown, hts, hK, hJ, hE, ri, rl, rv, rfl⟩ := hC
  intro H locs ls hn hl hP hS
  obtain ⟨c1, c2, c3, c4, c5, c6, c7, c8, c9, T, N, c10⟩ := cv
  exact va_callv (va_runV (As := [v0]) (rest := st) ⟨hx, hb, hml, hown, hts⟩ (hM l H.size) ⟨callB_of 1 hts (gTb c1) rfl rfl rfl (hts _ c5) (hts _ c2) ⟨c6, c7, c8⟩ (by constructor <;> (show _ ≤ _; simp only [rmD]; omega)), hts _ c3, hts _ c4⟩ ⟨PcW_blind, va_recv (D := sD θ) (cl := vwCl) hK hP c10 (GW_get hs), fun U hU hW => ⟨rfl, by rw [hU], by rw [hU]; exact hP, va_K.moved hW.alike hK, hJ, by rw [hU]; exact hE.go hS.2.1 (fun q h => h.elim Or.inl (fun z => Or.inr (Nat.le_trans hS.1 z))) hW⟩⟩ rfl rfl hl.1 rfl (lv_room hst) dg ⟨Nat.zero_le _, Nat.zero_le _⟩) hS (fun q h1 h2 => h2.elim Or.inl (fun z => absurd h1 (Nat.not_lt.mpr z))) (fun q h => h.elim Or.inl (fun z => Or.inr (Nat.le_trans hS.1 z))) (fun u t H1 locs1 ht hvm hw hB hz1 hk1 hS1 => kk u hw H1 locs1 ls hn hl (by rw [← ht]; exact hB) hS1)
theorem q_callvS1 (hC : Ok K cc own nL d θ sx Fi Fl Fv) {idx ml d2 : Nat} {y : MethodName} {bs : ByteArray} {rt : Option FieldType} {v0 : Value} {P : St → Prop} (cv : CSt own idx y bs ml rt 1) (dg : decode cc pc = .ok (.invokestatic idx, 3)) (hM : Ctv y bs ml rt d2 θ sx [v0] S P) (hd : d2 + 1 ≤ d) (kk : ∀ S', P S' → K (pc + 3) lv st S') (hst : (st.map fun v => v.category).sum ≤ 8 := by (first | exact Nat.le_of_ble_eq_true rfl | decide)) : K pc lv (v0 :: st) S := by
  obtain ⟨p, l, e, s, m, args, below, meth, c, Q, hx, hb, hml, hown, hts, hK, hJ, hE, ri, rl, rv, rfl⟩ := hC
  intro H locs ls hn hl hP hS
  obtain ⟨c1, c2, c3, c5, c6, c7, c8, c9⟩ := cv
  exact va_callv (va_runS (As := [v0]) (rest := st) ⟨hx, hb, hml, hown, hts⟩ (hM l H.size) ⟨callB_of 1 hts (gTb c1) rfl rfl rfl (hts _ c5) (hts _ c2) ⟨c6, c7, c8⟩ (by constructor <;> (show _ ≤ _; simp only [rmD]; omega)), hts _ c3⟩ ⟨PcW_blind, fun U hU hW => ⟨rfl, by rw [hU], by rw [hU]; exact hP, va_K.moved hW.alike hK, hJ, by rw [hU]; exact hE.go hS.2.1 (fun q h => h.elim Or.inl (fun z => Or.inr (Nat.le_trans hS.1 z))) hW⟩⟩ rfl rfl hl.1 rfl (lv_room hst) dg ⟨Nat.zero_le _, Nat.zero_le _⟩) hS (fun q h1 h2 => h2.elim Or.inl (fun z => absurd h1 (Nat.not_lt.mpr z))) (fun q h => h.elim Or.inl (fun z => Or.inr (Nat.le_trans hS.1 z))) (fun u t H1 locs1 ht hvm hw hB hz1 hk1 hS1 => kk u hw H1 locs1 ls hn hl (by rw [← ht]; exact hB) hS1)
theorem q_callvV2 (hC : Ok K cc own nL d θ sx Fi Fl Fv) {q ci idx ml d2 : Nat} {ks : List (Option (Option Nat))} {y : MethodName} {bs : ByteArray} {rt : Option FieldType} {v0 v1 : Value} {P : St → Prop} (hs : sx[q]? = some (.inr (.inl (ci, ks)))) (cv : CV own idx y bs ml rt 2 ci) (dg : decode cc pc = .ok (.invokevirtual idx, 3)) (hM : Ctv y bs ml rt d2 θ sx (.ref (sA θ q) :: [v0, v1]) S P) (hd : d2 + 1 ≤ d) (kk : ∀ S', P S' → K (pc + 3) lv st S') (hst : (st.map fun v => v.category).sum ≤ 8 := by (first | exact Nat.le_of_ble_eq_true rfl | decide)) : K pc lv (v1 :: v0 :: .ref (sA θ q) :: st) S := by
  obtain ⟨p, l, e, s, m, args, below, meth, c, Q, hx, hb, hml, hown, hts, hK, hJ, hE, ri, rl, rv, rfl⟩ := hC
  intro H locs ls hn hl hP hS
  obtain ⟨c1, c2, c3, c4, c5, c6, c7, c8, c9, T, N, c10⟩ := cv
  exact va_callv (va_runV (As := [v0, v1]) (rest := st) ⟨hx, hb, hml, hown, hts⟩ (hM l H.size) ⟨callB_of 2 hts (gTb c1) rfl rfl rfl (hts _ c5) (hts _ c2) ⟨c6, c7, c8⟩ (by constructor <;> (show _ ≤ _; simp only [rmD]; omega)), hts _ c3, hts _ c4⟩ ⟨PcW_blind, va_recv (D := sD θ) (cl := vwCl) hK hP c10 (GW_get hs), fun U hU hW => ⟨rfl, by rw [hU], by rw [hU]; exact hP, va_K.moved hW.alike hK, hJ, by rw [hU]; exact hE.go hS.2.1 (fun q h => h.elim Or.inl (fun z => Or.inr (Nat.le_trans hS.1 z))) hW⟩⟩ rfl rfl hl.1 rfl (lv_room hst) dg ⟨Nat.zero_le _, Nat.zero_le _⟩) hS (fun q h1 h2 => h2.elim Or.inl (fun z => absurd h1 (Nat.not_lt.mpr z))) (fun q h => h.elim Or.inl (fun z => Or.inr (Nat.le_trans hS.1 z))) (fun u t H1 locs1 ht hvm hw hB hz1 hk1 hS1 => kk u hw H1 locs1 ls hn hl (by rw [← ht]; exact hB) hS1)
theorem q_callvS2 (hC : Ok K cc own nL d θ sx Fi Fl Fv) {idx ml d2 : Nat} {y : MethodName} {bs : ByteArray} {rt : Option FieldType} {v0 v1 : Value} {P : St → Prop} (cv : CSt own idx y bs ml rt 2) (dg : decode cc pc = .ok (.invokestatic idx, 3)) (hM : Ctv y bs ml rt d2 θ sx [v0, v1] S P) (hd : d2 + 1 ≤ d) (kk : ∀ S', P S' → K (pc + 3) lv st S') (hst : (st.map fun v => v.category).sum ≤ 8 := by (first | exact Nat.le_of_ble_eq_true rfl | decide)) : K pc lv (v1 :: v0 :: st) S := by
  obtain ⟨p, l, e, s, m, args, below, meth, c, Q, hx, hb, hml, hown, hts, hK, hJ, hE, ri, rl, rv, rfl⟩ := hC
  intro H locs ls hn hl hP hS
  obtain ⟨c1, c2, c3, c5, c6, c7, c8, c9⟩ := cv
  exact va_callv (va_runS (As := [v0, v1]) (rest := st) ⟨hx, hb, hml, hown, hts⟩ (hM l H.size) ⟨callB_of 2 hts (gTb c1) rfl rfl rfl (hts _ c5) (hts _ c2) ⟨c6, c7, c8⟩ (by constructor <;> (show _ ≤ _; simp only [rmD]; omega)), hts _ c3⟩ ⟨PcW_blind, fun U hU hW => ⟨rfl, by rw [hU], by rw [hU]; exact hP, va_K.moved hW.alike hK, hJ, by rw [hU]; exact hE.go hS.2.1 (fun q h => h.elim Or.inl (fun z => Or.inr (Nat.le_trans hS.1 z))) hW⟩⟩ rfl rfl hl.1 rfl (lv_room hst) dg ⟨Nat.zero_le _, Nat.zero_le _⟩) hS (fun q h1 h2 => h2.elim Or.inl (fun z => absurd h1 (Nat.not_lt.mpr z))) (fun q h => h.elim Or.inl (fun z => Or.inr (Nat.le_trans hS.1 z))) (fun u t H1 locs1 ht hvm hw hB hz1 hk1 hS1 => kk u hw H1 locs1 ls hn hl (by rw [← ht]; exact hB) hS1)
theorem q_callvV3 (hC : Ok K cc own nL d θ sx Fi Fl Fv) {q ci idx ml d2 : Nat} {ks : List (Option (Option Nat))} {y : MethodName} {bs : ByteArray} {rt : Option FieldType} {v0 v1 v2 : Value} {P : St → Prop} (hs : sx[q]? = some (.inr (.inl (ci, ks)))) (cv : CV own idx y bs ml rt 3 ci) (dg : decode cc pc = .ok (.invokevirtual idx, 3)) (hM : Ctv y bs ml rt d2 θ sx (.ref (sA θ q) :: [v0, v1, v2]) S P) (hd : d2 + 1 ≤ d) (kk : ∀ S', P S' → K (pc + 3) lv st S') (hst : (st.map fun v => v.category).sum ≤ 8 := by (first | exact Nat.le_of_ble_eq_true rfl | decide)) : K pc lv (v2 :: v1 :: v0 :: .ref (sA θ q) :: st) S := by
  obtain ⟨p, l, e, s, m, args, below, meth, c, Q, hx, hb, hml, hown, hts, hK, hJ, hE, ri, rl, rv, rfl⟩ := hC
  intro H locs ls hn hl hP hS
  obtain ⟨c1, c2, c3, c4, c5, c6, c7, c8, c9, T, N, c10⟩ := cv
  exact va_callv (va_runV (As := [v0, v1, v2]) (rest := st) ⟨hx, hb, hml, hown, hts⟩ (hM l H.size) ⟨callB_of 3 hts (gTb c1) rfl rfl rfl (hts _ c5) (hts _ c2) ⟨c6, c7, c8⟩ (by constructor <;> (show _ ≤ _; simp only [rmD]; omega)), hts _ c3, hts _ c4⟩ ⟨PcW_blind, va_recv (D := sD θ) (cl := vwCl) hK hP c10 (GW_get hs), fun U hU hW => ⟨rfl, by rw [hU], by rw [hU]; exact hP, va_K.moved hW.alike hK, hJ, by rw [hU]; exact hE.go hS.2.1 (fun q h => h.elim Or.inl (fun z => Or.inr (Nat.le_trans hS.1 z))) hW⟩⟩ rfl rfl hl.1 rfl (lv_room hst) dg ⟨Nat.zero_le _, Nat.zero_le _⟩) hS (fun q h1 h2 => h2.elim Or.inl (fun z => absurd h1 (Nat.not_lt.mpr z))) (fun q h => h.elim Or.inl (fun z => Or.inr (Nat.le_trans hS.1 z))) (fun u t H1 locs1 ht hvm hw hB hz1 hk1 hS1 => kk u hw H1 locs1 ls hn hl (by rw [← ht]; exact hB) hS1)
theorem q_callvS3 (hC : Ok K cc own nL d θ sx Fi Fl Fv) {idx ml d2 : Nat} {y : MethodName} {bs : ByteArray} {rt : Option FieldType} {v0 v1 v2 : Value} {P : St → Prop} (cv : CSt own idx y bs ml rt 3) (dg : decode cc pc = .ok (.invokestatic idx, 3)) (hM : Ctv y bs ml rt d2 θ sx [v0, v1, v2] S P) (hd : d2 + 1 ≤ d) (kk : ∀ S', P S' → K (pc + 3) lv st S') (hst : (st.map fun v => v.category).sum ≤ 8 := by (first | exact Nat.le_of_ble_eq_true rfl | decide)) : K pc lv (v2 :: v1 :: v0 :: st) S := by
  obtain ⟨p, l, e, s, m, args, below, meth, c, Q, hx, hb, hml, hown, hts, hK, hJ, hE, ri, rl, rv, rfl⟩ := hC
  intro H locs ls hn hl hP hS
  obtain ⟨c1, c2, c3, c5, c6, c7, c8, c9⟩ := cv
  exact va_callv (va_runS (As := [v0, v1, v2]) (rest := st) ⟨hx, hb, hml, hown, hts⟩ (hM l H.size) ⟨callB_of 3 hts (gTb c1) rfl rfl rfl (hts _ c5) (hts _ c2) ⟨c6, c7, c8⟩ (by constructor <;> (show _ ≤ _; simp only [rmD]; omega)), hts _ c3⟩ ⟨PcW_blind, fun U hU hW => ⟨rfl, by rw [hU], by rw [hU]; exact hP, va_K.moved hW.alike hK, hJ, by rw [hU]; exact hE.go hS.2.1 (fun q h => h.elim Or.inl (fun z => Or.inr (Nat.le_trans hS.1 z))) hW⟩⟩ rfl rfl hl.1 rfl (lv_room hst) dg ⟨Nat.zero_le _, Nat.zero_le _⟩) hS (fun q h1 h2 => h2.elim Or.inl (fun z => absurd h1 (Nat.not_lt.mpr z))) (fun q h => h.elim Or.inl (fun z => Or.inr (Nat.le_trans hS.1 z))) (fun u t H1 locs1 ht hvm hw hB hz1 hk1 hS1 => kk u hw H1 locs1 ls hn hl (by rw [← ht]; exact hB) hS1)
theorem q_callvV4 (hC : Ok K cc own nL d θ sx Fi Fl Fv) {q ci idx ml d2 : Nat} {ks : List (Option (Option Nat))} {y : MethodName} {bs : ByteArray} {rt : Option FieldType} {v0 v1 v2 v3 : Value} {P : St → Prop} (hs : sx[q]? = some (.inr (.inl (ci, ks)))) (cv : CV own idx y bs ml rt 4 ci) (dg : decode cc pc = .ok (.invokevirtual idx, 3)) (hM : Ctv y bs ml rt d2 θ sx (.ref (sA θ q) :: [v0, v1, v2, v3]) S P) (hd : d2 + 1 ≤ d) (kk : ∀ S', P S' → K (pc + 3) lv st S') (hst : (st.map fun v => v.category).sum ≤ 8 := by (first | exact Nat.le_of_ble_eq_true rfl | decide)) : K pc lv (v3 :: v2 :: v1 :: v0 :: .ref (sA θ q) :: st) S := by
  obtain ⟨p, l, e, s, m, args, below, meth, c, Q, hx, hb, hml, hown, hts, hK, hJ, hE, ri, rl, rv, rfl⟩ := hC
  intro H locs ls hn hl hP hS
  obtain ⟨c1, c2, c3, c4, c5, c6, c7, c8, c9, T, N, c10⟩ := cv
  exact va_callv (va_runV (As := [v0, v1, v2, v3]) (rest := st) ⟨hx, hb, hml, hown, hts⟩ (hM l H.size) ⟨callB_of 4 hts (gTb c1) rfl rfl rfl (hts _ c5) (hts _ c2) ⟨c6, c7, c8⟩ (by constructor <;> (show _ ≤ _; simp only [rmD]; omega)), hts _ c3, hts _ c4⟩ ⟨PcW_blind, va_recv (D := sD θ) (cl := vwCl) hK hP c10 (GW_get hs), fun U hU hW => ⟨rfl, by rw [hU], by rw [hU]; exact hP, va_K.moved hW.alike hK, hJ, by rw [hU]; exact hE.go hS.2.1 (fun q h => h.elim Or.inl (fun z => Or.inr (Nat.le_trans hS.1 z))) hW⟩⟩ rfl rfl hl.1 rfl (lv_room hst) dg ⟨Nat.zero_le _, Nat.zero_le _⟩) hS (fun q h1 h2 => h2.elim Or.inl (fun z => absurd h1 (Nat.not_lt.mpr z))) (fun q h => h.elim Or.inl (fun z => Or.inr (Nat.le_trans hS.1 z))) (fun u t H1 locs1 ht hvm hw hB hz1 hk1 hS1 => kk u hw H1 locs1 ls hn hl (by rw [← ht]; exact hB) hS1)
theorem q_callvS4 (hC : Ok K cc own nL d θ sx Fi Fl Fv) {idx ml d2 : Nat} {y : MethodName} {bs : ByteArray} {rt : Option FieldType} {v0 v1 v2 v3 : Value} {P : St → Prop} (cv : CSt own idx y bs ml rt 4) (dg : decode cc pc = .ok (.invokestatic idx, 3)) (hM : Ctv y bs ml rt d2 θ sx [v0, v1, v2, v3] S P) (hd : d2 + 1 ≤ d) (kk : ∀ S', P S' → K (pc + 3) lv st S') (hst : (st.map fun v => v.category).sum ≤ 8 := by (first | exact Nat.le_of_ble_eq_true rfl | decide)) : K pc lv (v3 :: v2 :: v1 :: v0 :: st) S := by
  obtain ⟨p, l, e, s, m, args, below, meth, c, Q, hx, hb, hml, hown, hts, hK, hJ, hE, ri, rl, rv, rfl⟩ := hC
  intro H locs ls hn hl hP hS
  obtain ⟨c1, c2, c3, c5, c6, c7, c8, c9⟩ := cv
  exact va_callv (va_runS (As := [v0, v1, v2, v3]) (rest := st) ⟨hx, hb, hml, hown, hts⟩ (hM l H.size) ⟨callB_of 4 hts (gTb c1) rfl rfl rfl (hts _ c5) (hts _ c2) ⟨c6, c7, c8⟩ (by constructor <;> (show _ ≤ _; simp only [rmD]; omega)), hts _ c3⟩ ⟨PcW_blind, fun U hU hW => ⟨rfl, by rw [hU], by rw [hU]; exact hP, va_K.moved hW.alike hK, hJ, by rw [hU]; exact hE.go hS.2.1 (fun q h => h.elim Or.inl (fun z => Or.inr (Nat.le_trans hS.1 z))) hW⟩⟩ rfl rfl hl.1 rfl (lv_room hst) dg ⟨Nat.zero_le _, Nat.zero_le _⟩) hS (fun q h1 h2 => h2.elim Or.inl (fun z => absurd h1 (Nat.not_lt.mpr z))) (fun q h => h.elim Or.inl (fun z => Or.inr (Nat.le_trans hS.1 z))) (fun u t H1 locs1 ht hvm hw hB hz1 hk1 hS1 => kk u hw H1 locs1 ls hn hl (by rw [← ht]; exact hB) hS1)
/-- fewer locals are known -/
theorem q_weak {K : KT} {cc : ByteArray} {own : String} {nL d : Nat} {θ : Site} {sx : List Shp} {Fi : Int32 → St → Prop} {Fl : Int64 → St → Prop} {Fv : St → Prop} (hC : Ok K cc own nL d θ sx Fi Fl Fv) {lv lv' : LV} (hs : ∀ (i : Nat) (v : Value), lv'[i]? = some (some v) → lv[i]? = some (some v)) (hL : lv'.length = lv.length) (k : K pc lv' st S) : K pc lv st S := by
  obtain ⟨p, l, e, s, m, args, below, meth, c, Q, hx, hb, hml, hown, hts, hK, hJ, hE, ri, rl, rv, rfl⟩ := hC
  intro H locs ls hn hl hP hS
  exact k H locs ls (by omega) (lv_weak hl hs) hP hS
end RUL
