/-! ===== the memory, the world made of it, the judgement Sm ===== -/
abbrev Mem : Type := Nat → Nat → Int
abbrev ShC : Type := (Nat × Nat) ⊕ (List Nat ⊕ (Nat × List (Nat ⊕ Nat)))
abbrev Wd : Type := va_G × (Nat → Nat) × ClassId × ClassId × ClassId × List ShC
def I3 (n : Int) : Int32 := Int32.ofInt n
def I6 (n : Int) : Int64 := Int64.ofInt n
def wr (n : Int) : Int := (I3 n).toInt
def iv (n : Int) : Value := .int (I3 n)
def jv (n : Int) : Value := .long (I6 n)
def upM (σ : Mem) (o k : Nat) (v : Int) : Mem := fun o' k' => if o' = o ∧ k' = k then v else σ o' k'
def cpM (σ : Mem) (a b n : Nat) : Mem := fun o' k' => if o' = b ∧ k' < n then σ a k' else σ o' k'
def andI (a b : Int) : Int := (I3 a &&& I3 b).toInt
def orI (a b : Int) : Int := (I3 a ||| I3 b).toInt
def shlI (a b : Int) : Int := (I3 a <<< (I3 b &&& 31)).toInt
def shrI (a b : Int) : Int := (I3 a >>> (I3 b &&& 31)).toInt
def ushrI (a b : Int) : Int := ((I3 a).toUInt32 >>> ((I3 b).toUInt32 &&& Int32.toUInt32 31)).toInt32.toInt
theorem wr_id {n : Int} (h1 : -2147483648 ≤ n) (h2 : n ≤ 2147483647) : wr n = n := Int32.toInt_ofInt_of_le (by omega) (by omega)
theorem wr_lo (n : Int) : -2147483648 ≤ wr n := Int32.le_toInt _
theorem wr_hi (n : Int) : wr n ≤ 2147483647 := by have := Int32.toInt_lt (I3 n); unfold wr; omega
theorem I3_wr (n : Int) : I3 (wr n) = I3 n := Int32.ofInt_toInt _
theorem wr_wr (n : Int) : wr (wr n) = wr n := by unfold wr; rw [show I3 ((I3 n).toInt) = I3 n from Int32.ofInt_toInt _]
theorem iv_toInt (x : Int32) : iv x.toInt = .int x := by unfold iv I3; rw [Int32.ofInt_toInt]
theorem I3_add (a b : Int) : I3 (a + b) = I3 a + I3 b := Int32.ofInt_add a b
theorem I3_sub (a b : Int) : I3 (a - b) = I3 a - I3 b := Int32.ofInt_sub a b
theorem I3_mul (a b : Int) : I3 (a * b) = I3 a * I3 b := Int32.ofInt_mul a b
theorem I3_lt {a b : Int} : I3 a < I3 b ↔ wr a < wr b := Int32.lt_iff_toInt_lt
theorem I3_eq {a b : Int} : I3 a = I3 b ↔ wr a = wr b := ⟨fun h => congrArg Int32.toInt h, fun h => Int32.toInt_inj.mp h⟩
theorem I3_0 : I3 0 = 0 := rfl
theorem wr_0 : wr 0 = 0 := by decide
theorem wr_1 : wr 1 = 1 := by decide
theorem I3_clamp (a : Int) : (I3 a).toNatClampNeg = (wr a).toNat := rfl
theorem I3_in {a : Int} {n : Nat} (h : 0 ≤ wr a ∧ wr a < n) : vp_in (I3 a) n := by
  intro q
  rcases q with q | q
  · rw [← I3_0, I3_lt, wr_0] at q; omega
  · rw [I3_clamp] at q; omega
def fvl (ρ : Nat → Nat) (x : Int) : Nat ⊕ Nat → Value
  | .inl j => .ref (ρ j)
  | .inr 0 => .int (I3 x)
  | .inr (_ + 1) => .long (I6 x)
def cel (w : Wd) (f : Nat → Int) : ShC → va_E
  | .inl (0, n) => .inl (w.2.2.1, n, .inl (fun k => I3 (f k)))
  | .inl (_ + 1, n) => .inl (w.2.2.2.1, n, .inl (fun k => I3 (f k)))
  | .inr (.inl rs) => .inl (w.2.2.2.2.1, rs.length, .inr (.inr (.inr (.inr (fun k => (rs[k]?).map w.2.1)))))
  | .inr (.inr (ci, ks)) => .inr (ci, ks.mapIdx (fun k q => fvl w.2.1 (f k) q))
def shp (w : Wd) : List ShC := w.2.2.2.2.2
def wld (w : Wd) (σ : Mem) : va_W := (shp w).mapIdx (fun k q => (w.2.1 k, cel w (σ k) q))
def tyL (w : Wd) : List (ClassId × FieldType) := [(w.2.2.1, .int), (w.2.2.2.1, .boolean), (w.2.2.2.2.1, .object "AutoIndenter$State")]
def rf (w : Wd) (o : Nat) : Value := .ref (w.2.1 o)
theorem wld_get {w : Wd} {σ : Mem} {o : Nat} {q : ShC} (h : (shp w)[o]? = some q) : (wld w σ)[o]? = some (w.2.1 o, cel w (σ o) q) := by
  simp [wld, List.getElem?_mapIdx, h]
theorem wld_D {w : Wd} {σ σ' : Mem} {A : Nat → Prop} (h : va_D A (wld w σ)) : va_D A (wld w σ') := by
  have key : ∀ (i : Nat) (p : Nat × va_E), (wld w σ')[i]? = some p → ∃ e, (wld w σ)[i]? = some (p.1, e) := by
    intro i p hp
    simp only [wld, List.getElem?_mapIdx, Option.map_eq_some_iff] at hp ⊢
    obtain ⟨q, h1, h2⟩ := hp
    exact ⟨cel w (σ i) q, q, h1, by rw [← h2]⟩
  refine ⟨fun i j p q hp hq he => ?_, fun k q hq => ?_⟩
  · obtain ⟨e1, h1⟩ := key i p hp
    obtain ⟨e2, h2⟩ := key j q hq
    exact h.1 i j _ _ h1 h2 he
  · obtain ⟨e1, h1⟩ := key k q hq
    exact h.2 k (q.1, e1) h1
theorem wld_set {w : Wd} {σ σ' : Mem} {o : Nat} {q : ShC} {c : va_E} (h : (shp w)[o]? = some q) (hc : cel w (σ' o) q = c) (ho : ∀ o', o' ≠ o → σ' o' = σ o') : (wld w σ).set o (w.2.1 o, c) = wld w σ' := by
  apply List.ext_getElem?
  intro i
  by_cases hi : i = o
  · subst hi
    rw [wld_get h, hc, List.getElem?_set_self]
    have := wld_get (σ := σ) h
    exact (List.getElem?_eq_some_iff.mp this).1
  · rw [List.getElem?_set_ne (fun e => hi e.symm)]
    simp only [wld, List.getElem?_mapIdx]
    rw [ho i hi]
theorem upM_at (σ : Mem) (o k : Nat) (v : Int) : upM σ o k v o = fun k' => if k' = k then v else σ o k' := by funext k'; simp [upM]
theorem upM_ne (σ : Mem) (o k : Nat) (v : Int) (o' : Nat) (h : o' ≠ o) : upM σ o k v o' = σ o' := by funext k'; simp [upM, h]
theorem wld_setF {w : Wd} {σ : Mem} {o k ci : Nat} {ks : List (Nat ⊕ Nat)} {j : Nat} {v : Int} (h : (shp w)[o]? = some (.inr (.inr (ci, ks)))) (hk : ks[k]? = some (.inr j)) :
    (wld w σ).set o (w.2.1 o, .inr (ci, (ks.mapIdx (fun k q => fvl w.2.1 (σ o k) q)).set k (fvl w.2.1 v (.inr j)))) = wld w (upM σ o k v) := by
  refine wld_set h ?_ (fun o' ho => upM_ne σ o k v o' ho)
  rw [upM_at]
  show Sum.inr (ci, _) = _
  congr 2
  apply List.ext_getElem?
  intro i
  by_cases hi : i = k
  · subst hi
    rw [List.getElem?_set_self (by simpa using (List.getElem?_eq_some_iff.mp hk).1)]
    simp [List.getElem?_mapIdx, hk]
  · rw [List.getElem?_set_ne (fun e => hi e.symm)]
    simp [List.getElem?_mapIdx, hi]
theorem wld_setA {w : Wd} {σ : Mem} {o t n : Nat} {c : ClassId} {i : Nat} {v : Int} (h : (shp w)[o]? = some (.inl (t, n))) (hc : cel w (σ o) (.inl (t, n)) = .inl (c, n, .inl (fun k => I3 (σ o k)))) :
    (wld w σ).set o (w.2.1 o, .inl (c, n, .inl (upd (fun k => I3 (σ o k)) i (I3 v)))) = wld w (upM σ o i v) := by
  refine wld_set h ?_ (fun o' ho => upM_ne σ o i v o' ho)
  rw [upM_at]
  have e : (fun k => I3 (if k = i then v else σ o k)) = upd (fun k => I3 (σ o k)) i (I3 v) := by
    funext k
    by_cases hk : k = i <;> simp [upd, hk]
  cases t with
  | zero =>
    simp only [cel] at hc ⊢
    injection hc with hc
    injection hc with hc1 hc2
    rw [hc1, e]
  | succ t =>
    simp only [cel] at hc ⊢
    injection hc with hc
    injection hc with hc1 hc2
    rw [hc1, e]
/-- the locals, by their places -/
def lvh (ls : Array Slot) (nL : Nat) (L : List (Option Value)) : Prop := ls.size = nL ∧ lv_wf ls ∧ ∀ (i : Nat) (v : Value), L[i]? = some (some v) → ls[i]? = some (.val v)
def lvl (L : List (Option Value)) : List (Nat × Value) := (List.range L.length).filterMap (fun j => match L[j]? with | some (some w) => some (j, w) | _ => none)
theorem lvl_mem {L : List (Option Value)} {j : Nat} {w : Value} (h : L[j]? = some (some w)) : (j, w) ∈ lvl L := by
  refine List.mem_filterMap.mpr ⟨j, List.mem_range.mpr (List.getElem?_eq_some_iff.mp h).1, ?_⟩
  simp [h]
theorem lvl_of {L : List (Option Value)} {q : Nat × Value} (h : q ∈ lvl L) : L[q.1]? = some (some q.2) := by
  obtain ⟨j, -, hj⟩ := List.mem_filterMap.mp h
  cases hL : L[j]? with
  | none => simp [hL] at hj
  | some z =>
    cases z with
    | none => simp [hL] at hj
    | some w =>
      simp [hL] at hj
      subst hj
      exact hL
theorem lvh_has {ls : Array Slot} {nL : Nat} {L : List (Option Value)} (h : lvh ls nL L) : lv_has ls nL (lvl L) := ⟨h.1, h.2.1, fun q hq => h.2.2 q.1 q.2 (lvl_of hq)⟩
def prv (L : List (Option Value)) (i : Nat) : Bool := match i with
  | 0 => true
  | j + 1 => match L[j]? with
    | some (some w) => w.category != 2
    | _ => true
theorem prv_of {L : List (Option Value)} {i j : Nat} {w : Value} (h : prv L i = true) (hj : L[j]? = some (some w)) (e : j + 1 = i) : (w.category == 2) = false := by
  subst e
  simp [prv, hj] at h
  simpa using h
theorem lvh_st1 {ls : Array Slot} {nL : Nat} {L : List (Option Value)} {i : Nat} {v : Value} (h : lv_has ls nL ((i, v) :: (lvl L).filter (fun q => !(q.1 == i) && !(q.1 + 1 == i && q.2.category == 2)))) (hp : prv L i = true) : lvh ls nL (L.set i (some v)) := by
  refine ⟨h.1, h.2.1, fun j w hj => ?_⟩
  by_cases e : j = i
  · subst e
    have hlt : j < L.length := by
      have := (List.getElem?_eq_some_iff.mp hj).1
      simpa using this
    rw [List.getElem?_set_self hlt] at hj
    injection hj with hj
    injection hj with hj
    exact h.2.2 (j, w) (by rw [hj]; exact List.mem_cons_self)
  · rw [List.getElem?_set_ne (fun q => e q.symm)] at hj
    refine h.2.2 (j, w) (List.mem_cons_of_mem _ (List.mem_filter.mpr ⟨lvl_mem hj, ?_⟩))
    by_cases e2 : j + 1 = i
    · simp [e, prv_of hp hj e2]
    · simp [e, e2]
theorem lvh_st2 {ls : Array Slot} {nL : Nat} {L : List (Option Value)} {i : Nat} {v : Value} (h : lv_has ls nL ((i, v) :: (lvl L).filter (fun q => !(q.1 == i) && (!(q.1 == i + 1) && !(q.1 + 1 == i && q.2.category == 2))))) (hp : prv L i = true) : lvh ls nL ((L.set (i + 1) none).set i (some v)) := by
  refine ⟨h.1, h.2.1, fun j w hj => ?_⟩
  by_cases e : j = i
  · subst e
    have hlt : j < (L.set (j + 1) none).length := by
      have := (List.getElem?_eq_some_iff.mp hj).1
      simpa using this
    rw [List.getElem?_set_self hlt] at hj
    injection hj with hj
    injection hj with hj
    exact h.2.2 (j, w) (by rw [hj]; exact List.mem_cons_self)
  · rw [List.getElem?_set_ne (fun q => e q.symm)] at hj
    by_cases e3 : j = i + 1
    · subst e3
      rw [List.getElem?_set] at hj
      simp at hj
    · rw [List.getElem?_set_ne (fun q => e3 q.symm)] at hj
      refine h.2.2 (j, w) (List.mem_cons_of_mem _ (List.mem_filter.mpr ⟨lvl_mem hj, ?_⟩))
      by_cases e2 : j + 1 = i
      · simp [e, e3, prv_of hp hj e2]
      · simp [e, e2, e3]
/-- the private methods of nest mates that are called by their names' entries -/
def Nst (U : State) : Prop := ∀ q ∈ NW, va_Nw (.methodLinkNest q.1 q.2.1 q.2.2 "AutoIndenter") U
theorem Nst.warm {s U : State} (hW : s.WarmedH U.vm) (h : Nst s) : Nst U := fun q hq => va_Nw.warmM hW (h q hq)
def rmN (f lo : Nat) : Room := { frames := f, cells := 0, slots := 0, locals := lo }
abbrev Cx : Type := Program × Launch × Env × State × MethodId × Array Value × List Frame × Method × Code × (Nat → Prop) × Nat
/-- what a returned value is: 0 nothing, 1 an int, 2 a long, 3 a cell or null -/
def rvl (w : Wd) (rk : Nat) (r : Int) : Option Value := match rk with
  | 0 => none
  | 1 => some (iv r)
  | 2 => some (jv r)
  | _ => some (if r < 0 then .null else rf w r.toNat)
def PcX (w : Wd) (av : List Value) (σ : Mem) (sz : Nat) : Array Value → State → Prop := va_Pc av (fun U => U.heap.size = sz ∧ va_P w.1 vwCl (wld w σ) U.heap ∧ va_K w.1 vwCl (tyL w) U ∧ va_D (fun _ => True) (wld w σ) ∧ Nst U)
def QcX (w : Wd) (rk : Nat) (x : Int × Mem) (A : Nat → Prop) : Array Value → State → Outcome → State → Prop := fun _ st oc t => oc = .returned (rvl w rk x.1) ∧ va_P w.1 vwCl (wld w x.2) t.heap ∧ va_K w.1 vwCl (tyL w) t ∧ va_F A st t
theorem PcX_blind (w : Wd) (av : List Value) (σ : Mem) (sz : Nat) : FrameBlind (PcX w av σ sz) := fun a U g mk q => by
  obtain ⟨q0, q1, qP, qK, qD, qN⟩ := q
  exact ⟨q0, q1, qP, va_K.moved (u := U) (U := U.calling g mk a) (Vm.Alike.refl U.vm) qK, qD, fun z hz => va_Nw.same rfl (rfl : U.vm = (U.calling g mk a).vm) (qN z hz)⟩
/-- a method's contract: where E has a value, the method returns it, and the world is the one of the new memory -/
def Ctr (l : Launch) (w : Wd) (y : MethodName) (cc : ByteArray) (nL : Nat) (ret : Option FieldType) (rm : Room) (rk : Nat) (av : List Value) (σ : Mem) (E : Option (Int × Mem)) : Prop :=
  ∀ (x : Int × Mem) (sz : Nat), E = some x → Met l y (.code y cc nL ret :: WL) rm (PcX w av σ sz) (QcX w rk x (va_A (wld w σ) sz)) 0 0 (va_A (wld w σ) sz)
/-- the judgement -/
def Sm (X : Cx) (R : Room) (w : Wd) (rk : Nat) (x : Int × Mem) (pc : Nat) (L : List (Option Value)) (st : List Value) (σ : Mem) (E : Option (Int × Mem)) : Prop := match X with
  | (p, l, e, s, m, args, below, meth, c, A, nL) => E = some x → ∀ (H : Heap) (locs : List Loc) (ls : Array Slot), va_P w.1 vwCl (wld w σ) H → va_S A s.heap H locs → lvh ls nL L → W p l e R s m args below meth c H locs 0 0 (MQ below (QcX w rk x A) args s 0 0 A) (F0 m pc ls st)
def Std (X : Cx) (R : Room) (w : Wd) (cc : ByteArray) (own : String) (ret : Option FieldType) : Prop := match X with
  | (p, _, _, s, m, args, _, meth, c, A, nL) => p.tables.exec = Jvm.exec ∧ c.code = cc ∧ c.maxLocals = nL ∧ s.vm.findClass own = some m.cls ∧ (∀ u ∈ WL, u.before args s = true) ∧ va_K w.1 vwCl (tyL w) s ∧ (∀ σ, va_D A (wld w σ)) ∧ (∀ q, s.heap.size ≤ q → A q) ∧ meth.sig.returnType = ret ∧ meth.locks = false ∧ R.cells = 0 ∧ R.slots = 0 ∧ Nst s
def cxn (X : Cx) : Nat := X.2.2.2.2.2.2.2.2.2.2
