/-! ===== objects are made: the judgement Sg over a block of cells that grows ===== -/
abbrev Kd : Type := va_G × ClassId × ClassId × ClassId
def tyK (κ : Kd) : List (ClassId × FieldType) := [(κ.2.1, .int), (κ.2.2.1, .boolean), (κ.2.2.2, .object "AutoIndenter$State")]
def wK (κ : Kd) (b : Nat) (sh : List ShC) : Wd := (κ.1, fun i => b + i, κ.2.1, κ.2.2.1, κ.2.2.2, sh)
def blkW (b : Nat) (cs : List va_E) : va_W := cs.mapIdx (fun i e => (b + i, e))
theorem blk_get {b : Nat} {cs : List va_E} {i : Nat} : (blkW b cs)[i]? = (cs[i]?).map (fun e => (b + i, e)) := by simp [blkW, List.getElem?_mapIdx]
theorem blk_len {b : Nat} {cs : List va_E} : (blkW b cs).length = cs.length := by simp [blkW]
theorem blk_D (b : Nat) (cs : List va_E) : va_D (fun q => b ≤ q) (blkW b cs) := by
  have key : ∀ (i : Nat) (p : Nat × va_E), (blkW b cs)[i]? = some p → p.1 = b + i := by
    intro i p hp
    rw [blk_get] at hp
    cases h : cs[i]? with
    | none => rw [h] at hp; cases hp
    | some e => rw [h] at hp; cases hp; rfl
  refine ⟨fun i j p q hp hq h => ?_, fun k q hq => ?_⟩
  · have := key i p hp
    have := key j q hq
    omega
  · have := key k q hq
    show b ≤ q.1
    omega
theorem blk_app (b : Nat) (cs ds : List va_E) : blkW b (cs ++ ds) = blkW b cs ++ blkW (b + cs.length) ds := by
  apply List.ext_getElem?
  intro i
  rw [blk_get]
  by_cases h : i < cs.length
  · rw [List.getElem?_append_left h, List.getElem?_append_left (by rw [blk_len]; exact h), blk_get]
  · rw [List.getElem?_append_right (by omega), List.getElem?_append_right (by rw [blk_len]; omega), blk_get, blk_len, show b + cs.length + (i - cs.length) = b + i by omega]
theorem blk_set (b : Nat) (cs : List va_E) (i : Nat) (e : va_E) : (blkW b cs).set i (b + i, e) = blkW b (cs.set i e) := by
  apply List.ext_getElem?
  intro j
  rw [blk_get]
  by_cases h : i = j
  · subst h
    by_cases hl : i < cs.length
    · rw [List.getElem?_set_self (by rw [blk_len]; exact hl), List.getElem?_set_self hl]; rfl
    · rw [List.getElem?_eq_none (by rw [List.length_set, blk_len]; omega), List.getElem?_eq_none (by rw [List.length_set]; omega)]; rfl
  · rw [List.getElem?_set_ne h, List.getElem?_set_ne h, blk_get]
theorem blk_lt {κ : Kd} {b : Nat} {cs : List va_E} {H : Heap} (hP : va_P κ.1 vwCl (blkW b cs) H) {i : Nat} (h : i < cs.length) : b + i < H.size := by
  have e : (blkW b cs)[i]? = some (b + i, cs[i]) := by rw [blk_get, List.getElem?_eq_getElem h]; rfl
  exact (hP i _ e).lt
/-- the nest's links, and the arrays of State -/
def NsA (U : State) : Prop := Nst U ∧ va_AO "AutoIndenter$State" U
theorem NsA.warm {s U : State} (hW : s.WarmedH U.vm) (h : NsA s) : NsA U := ⟨h.1.warm hW, va_AO.moved hW.alike h.2⟩
abbrev Cg : Type := Program × Launch × Env × State × MethodId × Array Value × List Frame × Method × Code × Nat
def PcG (κ : Kd) (b ci : Nat) (fs : List Value) (av : List Value) : Array Value → State → Prop := va_Pc av (fun U => U.heap.size = b + 1 ∧ va_P κ.1 vwCl (blkW b [.inr (ci, fs)]) U.heap ∧ va_K κ.1 vwCl (tyK κ) U ∧ NsA U)
def QcG (κ : Kd) (b : Nat) (cs : List va_E) : Array Value → State → Outcome → State → Prop := fun _ st oc t => oc = .returned none ∧ va_P κ.1 vwCl (blkW b cs) t.heap ∧ va_K κ.1 vwCl (tyK κ) t ∧ va_F (fun q => b ≤ q) st t
theorem PcG_blind (κ : Kd) (b ci : Nat) (fs : List Value) (av : List Value) : FrameBlind (PcG κ b ci fs av) := fun a U g mk q => by
  obtain ⟨q0, q1, qP, qK, qN⟩ := q
  exact ⟨q0, q1, qP, va_K.moved (u := U) (U := U.calling g mk a) (Vm.Alike.refl U.vm) qK, ⟨fun z hz => va_Nw.same rfl (rfl : U.vm = (U.calling g mk a).vm) (qN.1 z hz), va_AO.moved (u := U) (U := U.calling g mk a) (Vm.Alike.refl U.vm) qN.2⟩⟩
/-- a constructor's contract -/
def CtrG (l : Launch) (κ : Kd) (b : Nat) (y : MethodName) (cc : ByteArray) (nL : Nat) (R : Room) (ci : Nat) (fs : List Value) (av : List Value) (cs : List va_E) : Prop := Met l y (.code y cc nL none :: WL) R (PcG κ b ci fs av) (QcG κ b cs) R.cells R.slots (fun q => b ≤ q)
def Sg (X : Cg) (R : Room) (κ : Kd) (b : Nat) (fin : List va_E) (pc : Nat) (L : List (Option Value)) (st : List Value) (cs : List va_E) (cn sn : Nat) : Prop := match X with
  | (p, l, e, s, m, args, below, meth, c, nL) => ∀ (H : Heap) (locs : List Loc) (ls : Array Slot), va_P κ.1 vwCl (blkW b cs) H → va_S (fun q => b ≤ q) s.heap H locs → lvh ls nL L → W p l e R s m args below meth c H locs cn sn (MQ below (QcG κ b fin) args s R.cells R.slots (fun q => b ≤ q)) (F0 m pc ls st)
def StdG (X : Cg) (R : Room) (κ : Kd) (b : Nat) (cc : ByteArray) (own : String) : Prop := match X with
  | (p, _, _, s, m, args, _, meth, c, nL) => p.tables.exec = Jvm.exec ∧ c.code = cc ∧ c.maxLocals = nL ∧ s.vm.findClass own = some m.cls ∧ (∀ u ∈ WL, u.before args s = true) ∧ va_K κ.1 vwCl (tyK κ) s ∧ s.heap.size = b + 1 ∧ meth.sig.returnType = none ∧ meth.locks = false ∧ meth.name = "<init>" ∧ NsA s ∧ 1 ≤ R.frames
def cgn (X : Cg) : Nat := X.2.2.2.2.2.2.2.2.2
theorem met_ofG {l : Launch} {κ : Kd} {b : Nat} {y : MethodName} {cc : ByteArray} {nL : Nat} {R : Room} {ci : Nat} {fs : List Value} {av : List Value} {cs : List va_E} {own : String} (hy : plainName y.cls = true) (ho : y.cls = own) (hi : y.name = "<init>") (hR : 1 ≤ R.frames) (hn : (lg_sl av).length ≤ nL)
    (body : ∀ X : Cg, X.2.1 = l → cgn X = nL → StdG X R κ b cc own → ∃ L, (∃ k, L = entL av ++ List.replicate k none) ∧ Sg X R κ b cs 0 L [] [.inr (ci, fs)] 0 0) : CtrG l κ b y cc nL R ci fs av cs := by
  refine Met.ofW (cc := cc) (maxL := nL) (ret := none) hy rfl ?_
  intro p e s m args below meth c s₁ B hml hv
  obtain ⟨rfl, hsz, hP, hK, hnst⟩ := hv
  have hts := atoms_spec (ws := (Cond.code y cc nL none :: WL)) B.pre
  have hown : s.vm.findClass own = some m.cls := by rw [← ho]; exact findClass_of_methodNamed B.named
  have hin : meth.name = "<init>" := by rw [← hi]; exact (name_of_methodNamed B.named B.method).1
  obtain ⟨L, ⟨k, rfl⟩, K⟩ := body (p, l, e, s, m, av.toArray, below, meth, c, nL) rfl rfl ⟨B.exec, B.bytes, hml, hown, fun u hu => hts u (List.mem_cons_of_mem _ hu), hK, hsz, B.returns, B.notSynchronized, hin, hnst, hR⟩
  have hl := lv_entry av (n := nL) hn
  rw [lg_entry_eq]
  refine K s.heap [] _ hP va_S.rf ⟨hl.1, hl.2.1, fun i v hi => ?_⟩
  have hi2 : (entL av)[i]? = some (some v) := by
    rw [List.getElem?_append] at hi
    split at hi
    · exact hi
    · rw [List.getElem?_replicate] at hi
      split at hi <;> cases hi
  have := entL_mem av 0 i v hi2
  rw [Nat.zero_add] at this
  exact hl.2.2 _ this
section GROW
variable {X : Cg} {R : Room} {κ : Kd} {b : Nat} {fin : List va_E} {pc : Nat} {L : List (Option Value)} {st : List Value} {cs : List va_E} {cn sn : Nat} {cc : ByteArray} {own : String}
theorem g_aload (hS : StdG X R κ b cc own) {j : Fin 4} {q : Nat} (hd : decode cc pc = .ok (.aload_n j, 1)) (hi : L[j.val]? = some (some (.ref q))) (k : Sg X R κ b fin (pc + 1) L (.ref q :: st) cs cn sn) : Sg X R κ b fin pc L st cs cn sn := by
  obtain ⟨p, l, e, s, m, args, below, meth, c, nX⟩ := X
  obtain ⟨hx, hb, hml, hown, hts, hK, hsz, hr, hlk, hin, hnst, hf⟩ := hS
  intro H locs ls hP hV hl
  exact lv_aload_n hx hb hd rfl (hl.2.2 _ _ hi) (k H locs ls hP hV hl)
theorem g_iload (hS : StdG X R κ b cc own) {j : Fin 4} {n : Int} (hd : decode cc pc = .ok (.iload_n j, 1)) (hi : L[j.val]? = some (some (iv n))) (k : Sg X R κ b fin (pc + 1) L (iv n :: st) cs cn sn) : Sg X R κ b fin pc L st cs cn sn := by
  obtain ⟨p, l, e, s, m, args, below, meth, c, nX⟩ := X
  obtain ⟨hx, hb, hml, hown, hts, hK, hsz, hr, hlk, hin, hnst, hf⟩ := hS
  intro H locs ls hP hV hl
  exact lv_iload_n hx hb hd rfl (hl.2.2 _ _ hi) (k H locs ls hP hV hl)
theorem g_dup (hS : StdG X R κ b cc own) {v : Value} (hv : v.category = 1) (hd : decode cc pc = .ok (.dup, 1)) (k : Sg X R κ b fin (pc + 1) L (v :: v :: st) cs cn sn) : Sg X R κ b fin pc L (v :: st) cs cn sn := by
  obtain ⟨p, l, e, s, m, args, below, meth, c, nX⟩ := X
  obtain ⟨hx, hb, hml, hown, hts, hK, hsz, hr, hlk, hin, hnst, hf⟩ := hS
  intro H locs ls hP hV hl
  exact lv_dup hx hb hd hv (k H locs ls hP hV hl)
theorem g_iconst (hS : StdG X R κ b cc own) {n : Int} (hd : decode cc pc = .ok (.iconst n, 1)) (k : Sg X R κ b fin (pc + 1) L (iv n :: st) cs cn sn) : Sg X R κ b fin pc L st cs cn sn := by
  obtain ⟨p, l, e, s, m, args, below, meth, c, nX⟩ := X
  obtain ⟨hx, hb, hml, hown, hts, hK, hsz, hr, hlk, hin, hnst, hf⟩ := hS
  intro H locs ls hP hV hl
  exact lv_iconst hx hb hd rfl (k H locs ls hP hV hl)
theorem g_bipush (hS : StdG X R κ b cc own) {n : Int} (hd : decode cc pc = .ok (.bipush n, 2)) (hv : (Int8.ofInt n).toInt32 = I3 n) (k : Sg X R κ b fin (pc + 2) L (iv n :: st) cs cn sn) : Sg X R κ b fin pc L st cs cn sn := by
  obtain ⟨p, l, e, s, m, args, below, meth, c, nX⟩ := X
  obtain ⟨hx, hb, hml, hown, hts, hK, hsz, hr, hlk, hin, hnst, hf⟩ := hS
  intro H locs ls hP hV hl
  exact lv_bipush hx hb hd hv (k H locs ls hP hV hl)
theorem g_sipush (hS : StdG X R κ b cc own) {n : Int} (hd : decode cc pc = .ok (.sipush n, 3)) (hv : (Int16.ofInt n).toInt32 = I3 n) (k : Sg X R κ b fin (pc + 3) L (iv n :: st) cs cn sn) : Sg X R κ b fin pc L st cs cn sn := by
  obtain ⟨p, l, e, s, m, args, below, meth, c, nX⟩ := X
  obtain ⟨hx, hb, hml, hown, hts, hK, hsz, hr, hlk, hin, hnst, hf⟩ := hS
  intro H locs ls hP hV hl
  exact lv_sipush hx hb hd hv (k H locs ls hP hV hl)
theorem g_obj (hS : StdG X R κ b cc own) {q index : Nat} (h1 : Cond.methodLink own index Lib.objectInit ∈ WL) (h2 : Cond.instanceMethod Lib.objectInit ∈ WL) (h3 : Cond.code Lib.objectInit ⟨#[0xb1]⟩ 1 none ∈ WL) (hd : decode cc pc = .ok (.invokespecial index, 3)) (hlo : 12 ≤ R.locals) (k : Sg X R κ b fin (pc + 3) L [] cs cn sn) : Sg X R κ b fin pc L [.ref q] cs cn sn := by
  obtain ⟨p, l, e, s, m, args, below, meth, c, nX⟩ := X
  obtain ⟨hx, hb, hml, hown, hts, hK, hsz, hr, hlk, hin, hnst, hf⟩ := hS
  intro H locs ls hP hV hl
  refine W.objInit hx hb hown (hts _ h1) (hts _ h2) (hts _ h3) rfl (by rw [hml]; exact hl.1) rfl hd hf (by show 2 * 0 + 0 + 12 ≤ R.locals; omega) ?_
  exact k H locs ls hP hV hl
/-- a field that a constructor writes -/
def PG (own : String) (index ci k : Nat) (ty : FieldType) : Prop := ∃ (C : String) (T : u_T) (N : Nat) (ty0 : Nat → FieldType), vwCl[ci]? = some (C, T, N) ∧ k < N ∧ (∀ w ∈ u_ws C T N, w ∈ WL) ∧ Cond.fieldLink own index (T k).1 (T k).2.1 (T k).2.2.1 ∈ WL ∧ (∀ k, k < N → parseFieldDescriptor (T k).2.2.1 = some (ty0 k)) ∧ (∀ a, a < N → ∀ b, b < N → a ≠ b → (T a).2.1 ≠ (T b).2.1) ∧ ((T k).2.2.2 = false ∨ ((T k).2.2.2 = true ∧ (T k).1 = own)) ∧ parseFieldDescriptor (T k).2.2.1 = some ty
theorem pg_of {own C : String} {index ci k N : Nat} {T : u_T} {ty : FieldType} {ty0 : Nat → FieldType} (h : FL own index ci k) (hc : vwCl[ci]? = some (C, T, N)) (h1 : ∀ k, k < N → parseFieldDescriptor (T k).2.2.1 = some (ty0 k)) (h2 : ∀ a, a < N → ∀ b, b < N → a ≠ b → (T a).2.1 ≠ (T b).2.1) (h3 : (T k).2.2.2 = false ∨ ((T k).2.2.2 = true ∧ (T k).1 = own)) (h4 : ty0 k = ty) : PG own index ci k ty := by
  obtain ⟨C', T', N', e, hk, hin, hl⟩ := h
  rw [hc] at e
  cases e
  exact ⟨C, T, N, ty0, hc, hk, hin, hl, h1, h2, h3, by rw [h1 k hk, h4]⟩
theorem g_put (hS : StdG X R κ b cc own) {ci k index : Nat} {ty : FieldType} {v : Value} {fs : List Value} {cs' : List va_E} (hp : PG own index ci k ty) (hc0 : cs[0]? = some (.inr (ci, fs))) (hn : narrow ty v = v) (hfit : fits ty v = true) (hlk : k < fs.length) (hd : decode cc pc = .ok (.putfield index, 3)) (hcs : cs.set 0 (.inr (ci, fs.set k v)) = cs') (kk : Sg X R κ b fin (pc + 3) L st cs' cn sn) : Sg X R κ b fin pc L (v :: .ref b :: st) cs cn sn := by
  obtain ⟨p, l, e, s, m, args, below, meth, c, nX⟩ := X
  obtain ⟨hx, hb, hml, hown, hts, hK, hsz, hr, hlk2, hin, hnst, hf⟩ := hS
  obtain ⟨C, T, N, ty0, e1, e2, e3, e4, e5, e6, e7, e8⟩ := hp
  intro H locs ls hP hV hl
  subst hcs
  have he : (blkW b cs)[0]? = some (b, .inr (ci, fs)) := by rw [blk_get, hc0]; rfl
  have hset : (blkW b cs).set 0 (b, .inr (ci, fs.set k v)) = blkW b (cs.set 0 (.inr (ci, fs.set k v))) := blk_set b cs 0 _
  rcases e7 with e7 | ⟨e7, e9⟩
  · refine va_put hx hb hts e3 ty0 e5 e6 hown hK hP (blk_D b cs) hV 0 he e1 k e2 (hts _ e4) (fun _ q => q) e7 e8 hn hfit hlk hd (fun H1 locs1 h1 h2 h3 => ?_)
    rw [hset] at h1
    exact kk H1 locs1 ls h1 h3 hl
  · refine va_putF hx hb hts e3 ty0 e5 e6 hown hK hP (blk_D b cs) hV 0 he e1 k e2 (hts _ e4) (fun _ q => q) e7 hin e9 e8 hn hfit hlk hd (fun H1 locs1 h1 h2 h3 => ?_)
    rw [hset] at h1
    exact kk H1 locs1 ls h1 h3 hl
/-- the heap's size, out of the room that was taken -/
theorem W_sz {p : Program} {l : Launch} {e : Env} {R : Room} {s : State} {m : MethodId} {args : Array Value} {below : List Frame} {meth : Method} {c : Code} {H : Heap} {locs : List Loc} {Q : State → Prop} {g : JFrame} {κ : Kd} {b cn sn : Nat} {cs : List va_E} (hP : va_P κ.1 vwCl (blkW b cs) H) (hs : s.heap.size = b + 1) (hn : cs.length = cn + 1) (k : H.size = b + cs.length → W p l e R s m args below meth c H locs cn sn Q g) : W p l e R s m args below meth c H locs cn sn Q g := by
  intro T hT X
  have h1 := X.heapSize
  rw [hT, hs] at h1
  have h2 := blk_lt hP (i := cn) (by omega)
  exact k (by omega) T hT X
theorem blk_new {κ : Kd} {b q cn : Nat} {cs : List va_E} {e : va_E} {H1 : Heap} (hq : va_D (fun z => b ≤ z) (blkW b cs ++ [(q, e)])) (hP : va_P κ.1 vwCl (blkW b cs ++ [(q, e)]) H1) (hsz : H1.size ≤ b + 1 + (cn + 1)) (hn : cs.length = cn + 1) : q = b + cs.length := by
  have hl : (blkW b cs ++ [(q, e)])[cs.length]? = some (q, e) := by
    rw [List.getElem?_append_right (by rw [blk_len]; exact Nat.le_refl _), blk_len, Nat.sub_self]; rfl
  have h1 := hq.2 _ _ hl
  have h2 := (hP _ _ hl).lt
  have h2 : q < H1.size := h2
  have h1 : b ≤ q := h1
  by_cases z : q - b < cs.length
  · have e2 : (blkW b cs ++ [(q, e)])[q - b]? = some (b + (q - b), cs[q - b]) := by
      rw [List.getElem?_append_left (by rw [blk_len]; exact z), blk_get, List.getElem?_eq_getElem z]; rfl
    have := hq.1 _ _ _ _ e2 hl (by show b + (q - b) = q; omega)
    omega
  · omega
/-- new -/
theorem g_new (hS : StdG X R κ b cc own) {C : String} {T : u_T} {N ci index : Nat} {ty : Nat → FieldType} {fs : List Value} (hc : vwCl[ci]? = some (C, T, N)) (hin : ∀ w ∈ u_ws C T N, w ∈ WL) (hty : ∀ k, k < N → parseFieldDescriptor (T k).2.2.1 = some (ty k)) (h1 : Cond.classLink own index C ∈ WL) (h2 : Cond.instantiable C N ∈ WL) (h3 : Cond.initialized C ∈ WL) (hfs : ∀ j, j < N → defaultValue (ty j) = vp_V fs j) (hn : cs.length = cn + 1) (hrc : cn + 1 ≤ R.cells) (hrs : sn + N ≤ R.slots) (hd : decode cc pc = .ok (.new index, 3))
    (kk : Sg X R κ b fin (pc + 3) L (.ref (b + cs.length) :: st) (cs ++ [.inr (ci, fs)]) (cn + 1) (sn + N)) : Sg X R κ b fin pc L st cs cn sn := by
  obtain ⟨p, l, e, s, m, args, below, meth, c, nX⟩ := X
  obtain ⟨hx, hb, hml, hown, hts, hK, hsz, hr, hlk2, hin2, hnst, hf⟩ := hS
  intro H locs ls hP hV hl
  refine va_new hx hb hts hin ty hty hown (hts _ h1) (hts _ h2) (hts _ h3) hK hP (blk_D b cs) hV (fun q hq => by show b ≤ q; omega) hc hfs hrc hrs hd (fun q H1 g1 g2 g3 => ?_)
  intro T' hT' X'
  have z := X'.heapSize
  rw [hT', hsz] at z
  have hq := blk_new g2 g1 z hn
  subst hq
  have e : blkW b cs ++ [(b + cs.length, .inr (ci, fs))] = blkW b (cs ++ [.inr (ci, fs)]) := by rw [blk_app]; rfl
  rw [e] at g1
  exact kk H1 locs ls g1 g3 hl T' hT' X'
theorem g_ret (hS : StdG X R κ b cc own) (hfin : cs = fin) (hrc : cn = R.cells) (hrs : sn = R.slots) (hd : decode cc pc = .ok (.return_, 1)) : Sg X R κ b fin pc L [] cs cn sn := by
  obtain ⟨p, l, e, s, m, args, below, meth, c, nX⟩ := X
  obtain ⟨hx, hb, hml, hown, hts, hK, hsz, hr, hlk2, hin2, hnst, hf⟩ := hS
  subst hfin; subst hrc; subst hrs
  intro H locs ls hP hV hl
  exact W.vret hx hb hr (fun t ht hW => ⟨rfl, by rw [ht]; exact hP, va_K.moved hW.alike hK, hV.F ht⟩) hV.2.2 hd hlk2
end GROW
