/-! ===== the judgement of this claim: a fixed set of cells (shapes), their whole numbers as a function, one contract form for every method ===== -/
abbrev St : Type := (Nat → Nat → Int32) × (Nat → Nat → Int64)
abbrev LV : Type := List (Option Value)
abbrev KT : Type := Nat → LV → List Value → St → Prop
/-- a cell's shape: an array of ints of a kind (0 int, 1 byte, 2 boolean) and a length; an object of a class, its fields (none: int, some none: long, some (some k): the cell k); an array of Nows -/
abbrev Shp : Type := (Nat × Nat) ⊕ ((Nat × List (Option (Option Nat))) ⊕ (List Nat))
abbrev Site : Type := va_G × (Nat → Nat) × (Nat → ClassId) × (Nat → Nat) × (Nat → Nat)
def sD (θ : Site) : va_G := θ.1
def sA (θ : Site) : Nat → Nat := θ.2.1
def sC (θ : Site) : Nat → ClassId := θ.2.2.1
def sK (θ : Site) : Nat → Nat := θ.2.2.2.1
def sV (θ : Site) : Nat → Nat := θ.2.2.2.2
def kndV (θ : Site) (S : St) (k j : Nat) : Option (Option Nat) → Value
  | none => .int (S.1 k j)
  | some none => .long (S.2 k j)
  | some (some q) => .ref (sA θ q)
def cellE (θ : Site) (S : St) (k : Nat) : Shp → va_E
  | .inl (t, n) => .inl (sC θ t, n, .inl (S.1 k))
  | .inr (.inl (ci, ks)) => .inr (ci, ks.mapIdx (kndV θ S k))
  | .inr (.inr rs) => .inl (sC θ 3, rs.length, .inr (.inr (.inr (.inr fun j => (rs[j]?).map (sA θ)))))
def GW (θ : Site) (sx : List Shp) (S : St) : va_W := sx.mapIdx fun k z => (sA θ k, cellE θ S k z)
def tyC (θ : Site) : List (ClassId × FieldType) := [(sC θ 0, .int), (sC θ 1, .byte), (sC θ 2, .boolean), (sC θ 3, .object "PavedBan$Now")]
def AA (θ : Site) (sx : List Shp) (sz : Nat) : Nat → Prop := fun q => (∃ k, k < sx.length ∧ q = sA θ k) ∨ sz ≤ q
def DJ (θ : Site) (sx : List Shp) : Prop := ∀ i j, i < sx.length → j < sx.length → sA θ i = sA θ j → i = j
def lenS : List Nat := [5, 6, 5, 5, 5]
def bytS : List (List Int32) := [[112, 105, 101, 99, 101], [102, 97, 109, 105, 108, 121], [112, 97, 118, 101, 100], [115, 116, 111, 110, 101], [102, 108, 111, 111, 100]]
def txtR (θ : Site) (U : State) : Prop := vk_R "PavedBan$Reader" 119 "piece" (sK θ 0) U ∧ vk_R "PavedBan$Reader" 125 "family" (sK θ 1) U ∧ vk_R "PavedBan$Reader" 127 "paved" (sK θ 2) U ∧ vk_R "PavedBan$Reader" 129 "stone" (sK θ 3) U ∧ vk_R "PavedBan$Reader" 131 "flood" (sK θ 4) U
/-- what stands outside the cells: the five words, two statics -/
def Env9 (θ : Site) (A : Nat → Prop) (U : State) (H : Heap) : Prop := vk_S 5 lenS bytS (sK θ) (sV θ) A U H ∧ va_Z "java/lang/String" "COMPACT_STRINGS" "Z" (.int 1) A U H ∧ va_Zq "jdk/internal/util/Preconditions" "SIOOBE_FORMATTER" "Ljava/util/function/BiFunction;" A U H ∧ txtR θ U
theorem Env9.go {θ : Site} {A B : Nat → Prop} {s U : State} {H H1 : Heap} (h : Env9 θ A s H) (hq : ∀ a : Nat, a < H.size → ¬ A a → H1[a]? = H[a]?) (hB : ∀ q, B q → A q) (hW : s.WarmedH U.vm) : Env9 θ B U H1 := by
  obtain ⟨h1, h2, h3, r1, r2, r3, r4, r5⟩ := h
  exact ⟨((h1.kept hq).moved hW.alike).narrow hB, ((h2.kept hq).moved hW.alike).narrow hB, ((h3.kept hq).moved hW.alike).narrow hB, r1.warm hW, r2.warm hW, r3.warm hW, r4.warm hW, r5.warm hW⟩
theorem Env9.same {θ : Site} {A : Nat → Prop} {U V : State} (h : Env9 θ A U U.heap) (hv : V.vm = U.vm) (hh : V.heap = U.heap) : Env9 θ A V V.heap := by
  obtain ⟨h1, h2, h3, r1, r2, r3, r4, r5⟩ := h
  have ha : U.vm.Alike V.vm := by rw [hv]; exact Vm.Alike.refl U.vm
  rw [hh]
  exact ⟨h1.moved ha, h2.moved ha, h3.moved ha, r1.same hv, r2.same hv, r3.same hv, r4.same hv, r5.same hv⟩
def WlP (θ : Site) (sx : List Shp) (sz : Nat) (S : St) (U : State) : Prop := va_P (sD θ) vwCl (GW θ sx S) U.heap ∧ va_K (sD θ) vwCl (tyC θ) U ∧ DJ θ sx ∧ Env9 θ (AA θ sx sz) U U.heap
theorem GW_get {θ : Site} {sx : List Shp} {S : St} {k : Nat} {z : Shp} (h : sx[k]? = some z) : (GW θ sx S)[k]? = some (sA θ k, cellE θ S k z) := by
  unfold GW
  rw [List.getElem?_mapIdx, h]; rfl
theorem GW_len {θ : Site} {sx : List Shp} {S : St} : (GW θ sx S).length = sx.length := by unfold GW; simp
theorem GW_set {θ : Site} {sx : List Shp} {S S' : St} {k : Nat} {z : Shp} {e : va_E} (h : sx[k]? = some z) (he : e = cellE θ S' k z) (ho : ∀ j, j ≠ k → ∀ z, cellE θ S' j z = cellE θ S j z) : (GW θ sx S).set k (sA θ k, e) = GW θ sx S' := by
  apply List.ext_getElem?
  intro j
  by_cases hj : j = k
  · subst hj
    rw [List.getElem?_set_self (by rw [GW_len]; exact (List.getElem?_eq_some_iff.mp h).1), GW_get h, he]
  · rw [List.getElem?_set_ne (Ne.symm hj)]
    unfold GW
    rw [List.getElem?_mapIdx, List.getElem?_mapIdx]
    cases hz : sx[j]? with
    | none => rfl
    | some w => simp only [Option.map_some, ho j hj w]
theorem GW_D {θ : Site} {sx : List Shp} {S : St} {sz : Nat} (h : DJ θ sx) : va_D (AA θ sx sz) (GW θ sx S) := by
  have key : ∀ (k : Nat) (q : Nat × va_E), (GW θ sx S)[k]? = some q → k < sx.length ∧ q.1 = sA θ k := by
    intro k q hk
    have hl := (List.getElem?_eq_some_iff.mp hk).1
    rw [GW_len] at hl
    rw [GW_get (List.getElem?_eq_getElem hl)] at hk
    cases hk
    exact ⟨hl, rfl⟩
  refine ⟨fun i j x y hi hj hxy => ?_, fun k q hk => ?_⟩
  · obtain ⟨a1, a2⟩ := key i x hi
    obtain ⟨b1, b2⟩ := key j y hj
    exact h i j a1 b1 (a2.symm.trans (hxy.trans b2))
  · obtain ⟨a1, a2⟩ := key k q hk
    exact Or.inl ⟨k, a1, a2⟩
def up (S : St) (k j : Nat) (v : Int32) : St := (fun a b => if a = k ∧ b = j then v else S.1 a b, S.2)
def upL (S : St) (k j : Nat) (v : Int64) : St := (S.1, fun a b => if a = k ∧ b = j then v else S.2 a b)
def upA (S : St) (k : Nat) (f : Nat → Int32) : St := (fun a b => if a = k then f b else S.1 a b, S.2)
theorem up_o {S : St} {k j a b : Nat} {v : Int32} (h : ¬ (a = k ∧ b = j)) : (up S k j v).1 a b = S.1 a b := by unfold up; exact if_neg h
theorem up_s {S : St} {k j : Nat} {v : Int32} : (up S k j v).1 k j = v := by unfold up; exact if_pos ⟨rfl, rfl⟩
theorem up_2 {S : St} {k j : Nat} {v : Int32} : (up S k j v).2 = S.2 := rfl
theorem upL_1 {S : St} {k j : Nat} {v : Int64} : (upL S k j v).1 = S.1 := rfl
theorem upL_s {S : St} {k j : Nat} {v : Int64} : (upL S k j v).2 k j = v := by unfold upL; exact if_pos ⟨rfl, rfl⟩
theorem upL_o {S : St} {k j a b : Nat} {v : Int64} (h : ¬ (a = k ∧ b = j)) : (upL S k j v).2 a b = S.2 a b := by unfold upL; exact if_neg h
theorem cell_ne {θ : Site} {S S' : St} {j : Nat} (h1 : S'.1 j = S.1 j) (h2 : S'.2 j = S.2 j) (z : Shp) : cellE θ S' j z = cellE θ S j z := by
  have hk : ∀ kd, (fun b => kndV θ S' j b kd) = fun b => kndV θ S j b kd := by
    intro kd; funext b
    rcases kd with _ | _ | q
    · simp only [kndV, h1]
    · simp only [kndV, h2]
    · rfl
  rcases z with ⟨t, n⟩ | ⟨ci, ks⟩ | rs
  · simp only [cellE, h1]
  · simp only [cellE]
    have : kndV θ S' j = kndV θ S j := by funext b kd; exact congrFun (hk kd) b
    rw [this]
  · rfl
theorem map_set {θ : Site} {S : St} {k j : Nat} {ks : List (Option (Option Nat))} {v : Int32} (h : ks[j]? = some none) : (ks.mapIdx (kndV θ S k)).set j (.int v) = ks.mapIdx (kndV θ (up S k j v) k) := by
  apply List.ext_getElem?
  intro b
  have hl := (List.getElem?_eq_some_iff.mp h).1
  by_cases hb : b = j
  · subst hb
    rw [List.getElem?_set_self (by simpa using hl), List.getElem?_mapIdx, h]
    simp only [Option.map_some, kndV, up_s]
  · rw [List.getElem?_set_ne (Ne.symm hb), List.getElem?_mapIdx, List.getElem?_mapIdx]
    cases hz : ks[b]? with
    | none => rfl
    | some kd => rcases kd with _ | _ | q <;> simp only [Option.map_some, kndV, up_2]; rw [up_o (fun h => hb h.2)]
theorem map_setL {θ : Site} {S : St} {k j : Nat} {ks : List (Option (Option Nat))} {v : Int64} (h : ks[j]? = some (some none)) : (ks.mapIdx (kndV θ S k)).set j (.long v) = ks.mapIdx (kndV θ (upL S k j v) k) := by
  apply List.ext_getElem?
  intro b
  have hl := (List.getElem?_eq_some_iff.mp h).1
  by_cases hb : b = j
  · subst hb
    rw [List.getElem?_set_self (by simpa using hl), List.getElem?_mapIdx, h]
    simp only [Option.map_some, kndV, upL_s]
  · rw [List.getElem?_set_ne (Ne.symm hb), List.getElem?_mapIdx, List.getElem?_mapIdx]
    cases hz : ks[b]? with
    | none => rfl
    | some kd => rcases kd with _ | _ | q <;> simp only [Option.map_some, kndV, upL_1]; rw [upL_o (fun h => hb h.2)]
theorem GW_up {θ : Site} {sx : List Shp} {S : St} {k j ci : Nat} {ks : List (Option (Option Nat))} {v : Int32} (h : sx[k]? = some (.inr (.inl (ci, ks)))) (hj : ks[j]? = some none) : (GW θ sx S).set k (sA θ k, .inr (ci, (ks.mapIdx (kndV θ S k)).set j (.int v))) = GW θ sx (up S k j v) :=
  GW_set h (by rw [map_set hj]; rfl) (fun i hi z => cell_ne (S := S) (S' := up S k j v) (by funext b; exact up_o (fun h => hi h.1)) rfl z)
theorem GW_upL {θ : Site} {sx : List Shp} {S : St} {k j ci : Nat} {ks : List (Option (Option Nat))} {v : Int64} (h : sx[k]? = some (.inr (.inl (ci, ks)))) (hj : ks[j]? = some (some none)) : (GW θ sx S).set k (sA θ k, .inr (ci, (ks.mapIdx (kndV θ S k)).set j (.long v))) = GW θ sx (upL S k j v) :=
  GW_set h (by rw [map_setL hj]; rfl) (fun i hi z => cell_ne (S := S) (S' := upL S k j v) rfl (by funext b; exact upL_o (fun h => hi h.1)) z)
theorem GW_upA {θ : Site} {sx : List Shp} {S : St} {k t n : Nat} {f : Nat → Int32} (h : sx[k]? = some (.inl (t, n))) : (GW θ sx S).set k (sA θ k, .inl (sC θ t, n, .inl f)) = GW θ sx (upA S k f) :=
  GW_set h (by simp only [cellE]; congr 4; funext b; simp [upA]) (fun i hi z => cell_ne (S := S) (S' := upA S k f) (by funext b; simp [upA, hi]) rfl z)
theorem upA_upd {S : St} {k i : Nat} {v : Int32} : upA S k (upd (S.1 k) i v) = up S k i v := by
  unfold upA up upd
  refine Prod.ext ?_ rfl
  funext a b
  by_cases h : a = k
  · subst h; simp
  · simp [h]
-- locals by their places
def lvA : Nat → LV → List (Nat × Value)
  | _, [] => []
  | i, none :: t => lvA (i + 1) t
  | i, some v :: t => (i, v) :: lvA (i + 1) t
theorem lvA_mem : ∀ (lv : LV) (i j : Nat) (v : Value), (j, v) ∈ lvA i lv ↔ ∃ d, j = i + d ∧ lv[d]? = some (some v)
  | [], i, j, v => by simp [lvA]
  | none :: t, i, j, v => by
    simp only [lvA]
    rw [lvA_mem t (i + 1) j v]
    constructor
    · rintro ⟨d, h1, h2⟩
      exact ⟨d + 1, by omega, by simpa using h2⟩
    · rintro ⟨d, h1, h2⟩
      cases d with
      | zero => simp at h2
      | succ d => exact ⟨d, by omega, by simpa using h2⟩
  | some w :: t, i, j, v => by
    simp only [lvA, List.mem_cons, Prod.mk.injEq]
    rw [lvA_mem t (i + 1) j v]
    constructor
    · rintro (⟨rfl, rfl⟩ | ⟨d, h1, h2⟩)
      · exact ⟨0, rfl, rfl⟩
      · exact ⟨d + 1, by omega, by simpa using h2⟩
    · rintro ⟨d, h1, h2⟩
      cases d with
      | zero => left; simp at h2; exact ⟨by omega, h2.symm⟩
      | succ d => exact Or.inr ⟨d, by omega, by simpa using h2⟩
theorem lv_rd {ls : Array Slot} {n i : Nat} {lv : LV} {v : Value} (h : lv_has ls n (lvA 0 lv)) (hi : lv[i]? = some (some v)) : ls[i]? = some (.val v) := h.2.2 (i, v) ((lvA_mem lv 0 i v).mpr ⟨i, by omega, hi⟩)
theorem lv_weak {ls : Array Slot} {n : Nat} {lv lv' : LV} (h : lv_has ls n (lvA 0 lv)) (hs : ∀ (i : Nat) (v : Value), lv'[i]? = some (some v) → lv[i]? = some (some v)) : lv_has ls n (lvA 0 lv') := by
  refine ⟨h.1, h.2.1, fun q hq => ?_⟩
  obtain ⟨d, h1, h2⟩ := (lvA_mem lv' 0 q.1 q.2).mp hq
  exact h.2.2 q ((lvA_mem lv 0 q.1 q.2).mpr ⟨d, h1, hs d q.2 h2⟩)
/-- what stands ahead of a place isn't a long -/
def nlg (lv : LV) : Nat → Prop
  | 0 => True
  | i + 1 => ∀ v, lv[i]? = some (some v) → v.category = 1
theorem lv_st1 {ls : Array Slot} {n i : Nat} {lv : LV} {v : Value} (h : lv_has ls n ((i, v) :: (lvA 0 lv).filter (fun q => !(q.1 == i) && !(q.1 + 1 == i && q.2.category == 2)))) (hi : i < lv.length) (hl : nlg lv i) : lv_has ls n (lvA 0 (lv.set i (some v))) := by
  refine ⟨h.1, h.2.1, fun q hq => h.2.2 q ?_⟩
  obtain ⟨j, w⟩ := q
  obtain ⟨d, h1, h2⟩ := (lvA_mem _ 0 j w).mp hq
  have hd : j = d := by omega
  subst hd
  by_cases hj : j = i
  · subst hj
    rw [List.getElem?_set_self hi] at h2
    cases h2
    exact List.mem_cons_self
  · rw [List.getElem?_set_ne (Ne.symm hj)] at h2
    refine List.mem_cons_of_mem _ (List.mem_filter.mpr ⟨(lvA_mem lv 0 j w).mpr ⟨j, by omega, h2⟩, ?_⟩)
    have hne : (j == i) = false := by simpa using hj
    simp only [hne, Bool.not_false, Bool.true_and, Bool.not_eq_true', Bool.and_eq_false_iff]
    by_cases h3 : j + 1 = i
    · right
      subst h3
      have := hl w h2
      simp [this]
    · left; simpa using h3
theorem lv_st2 {ls : Array Slot} {n i : Nat} {lv : LV} {v : Value} (h : lv_has ls n ((i, v) :: (lvA 0 lv).filter (fun q => !(q.1 == i) && (!(q.1 == i + 1) && !(q.1 + 1 == i && q.2.category == 2))))) (hi : i + 1 < lv.length) (hl : nlg lv i) : lv_has ls n (lvA 0 ((lv.set i (some v)).set (i + 1) none)) := by
  refine ⟨h.1, h.2.1, fun q hq => h.2.2 q ?_⟩
  obtain ⟨j, w⟩ := q
  obtain ⟨d, h1, h2⟩ := (lvA_mem _ 0 j w).mp hq
  have hd : j = d := by omega
  subst hd
  by_cases hj1 : j = i + 1
  · subst hj1
    rw [List.getElem?_set_self (by simpa using hi)] at h2
    cases h2
  · rw [List.getElem?_set_ne (Ne.symm hj1)] at h2
    by_cases hj : j = i
    · subst hj
      rw [List.getElem?_set_self (by omega)] at h2
      cases h2
      exact List.mem_cons_self
    · rw [List.getElem?_set_ne (Ne.symm hj)] at h2
      refine List.mem_cons_of_mem _ (List.mem_filter.mpr ⟨(lvA_mem lv 0 j w).mpr ⟨j, by omega, h2⟩, ?_⟩)
      have hne : (j == i) = false := by simpa using hj
      have hne1 : (j == i + 1) = false := by simpa using hj1
      simp only [hne, hne1, Bool.not_false, Bool.true_and, Bool.not_eq_true', Bool.and_eq_false_iff]
      by_cases h3 : j + 1 = i
      · right
        subst h3
        have := hl w h2
        simp [this]
      · left; simpa using h3
