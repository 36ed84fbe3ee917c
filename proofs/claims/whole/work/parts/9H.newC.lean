/-! ===== objects are made: calls of constructors, arrays ===== -/
def MG (y : MethodName) (c2 : ByteArray) (n2 n : Nat) : Prop := y.name = "<init>" ∧ Cond.instanceMethod y ∈ WL ∧ Cond.initialized y.cls ∈ WL ∧ Cond.code y c2 n2 none ∈ WL ∧ y.cls ≠ "java/lang/invoke/MethodHandle" ∧ y.cls ≠ "java/lang/invoke/VarHandle" ∧ (parseMethodDescriptor y.desc).map (fun d => d.parameters.length) = some n
section GROW2
variable {X : Cg} {R : Room} {κ : Kd} {b : Nat} {fin : List va_E} {pc : Nat} {L : List (Option Value)} {st : List Value} {cs : List va_E} {cn sn : Nat} {cc : ByteArray} {own : String}
theorem g_run {p : Program} {l : Launch} {e : Env} {s : State} {m : MethodId} {args : Array Value} {below : List Frame} {meth : Method} {c : Code} {H : Heap} {locs : List Loc} {ls : Array Slot} {Q : State → Prop} {R2 : Room} {q0 st0 rst : List Value} {cs0 csC : List va_E} {ci : Nat} {fs : List Value} {a : Array Value} (hP : va_P κ.1 vwCl (blkW b (cs0 ++ [.inr (ci, fs)])) H) (hV : va_S (fun q => b ≤ q) s.heap H locs) (hH : H.size = b + cs0.length + 1)
    (hr : va_Run p l e R s m args below meth c H locs cn sn R2.cells R2.slots (F0 m pc ls st0) rst (QcG κ (b + cs0.length) csC a) (fun q => b + cs0.length ≤ q))
    (kk : ∀ (H1 : Heap) (locs1 : List Loc), va_P κ.1 vwCl (blkW b (cs0 ++ csC)) H1 → va_S (fun q => b ≤ q) s.heap H1 locs1 → W p l e R s m args below meth c H1 locs1 (cn + R2.cells) (sn + R2.slots) Q (F0 m (pc + 3) ls rst)) : W p l e R s m args below meth c H locs cn sn Q (F0 m pc ls st0) := by
  intro T hT XX
  obtain ⟨v, st₀, t, T', LL, h0, X', hL, e1, e2, ⟨hv, hP1, hK1, hz, hk⟩, st⟩ := hr T hT XX
  injection hv with hv
  subst hv
  rw [h0] at hz hk
  have hold : va_P κ.1 vwCl (blkW b cs0) T'.heap := by
    rw [blk_app] at hP
    intro k q hq
    have hq2 : (blkW b cs0 ++ blkW (b + cs0.length) [.inr (ci, fs)])[k]? = some q := by
      rw [List.getElem?_append_left (List.getElem?_eq_some_iff.mp hq).1]; exact hq
    have hlt : k < cs0.length := by rw [← blk_len (b := b) (cs := cs0)]; exact (List.getElem?_eq_some_iff.mp hq).1
    have hq1 : q.1 = b + k := by
      rw [blk_get, List.getElem?_eq_getElem hlt] at hq
      cases hq; rfl
    refine (hP k q hq2).kept ?_
    rw [e1]
    exact hk q.1 (by omega) (by show ¬ b + cs0.length ≤ q.1; omega)
  obtain ⟨t2, a1, b1⟩ := kk T'.heap (locs ++ LL) (by rw [blk_app]; exact hold.app (by rw [e1]; exact hP1))
    ⟨Nat.le_trans hV.1 (by rw [e1]; exact hz), fun q h1 h2 => by
      have h3 : ¬ b ≤ q := h2
      rw [e1, hk q (Nat.lt_of_lt_of_le h1 hV.1) (by show ¬ b + cs0.length ≤ q; omega)]; exact hV.2.1 q h1 h2, fun q hq => by
      rcases List.mem_append.mp hq with h | h
      · exact hV.2.2 q h
      · have := hL q h
        have h4 : b + cs0.length ≤ q.base := this
        show b ≤ q.base
        omega⟩ T' rfl X'
  exact ⟨t2, st t2 a1, b1⟩
theorem g_pre {s : State} {H : Heap} {As : List Value} {cs0 : List va_E} {ci : Nat} {fs : List Value} (hP : va_P κ.1 vwCl (blkW b (cs0 ++ [.inr (ci, fs)])) H) (hK : va_K κ.1 vwCl (tyK κ) s) (hnst : NsA s) (hH : H.size = b + cs0.length + 1) : PreS s H (PcG κ (b + cs0.length) ci fs (.ref (b + cs0.length) :: As)) (.ref (b + cs0.length) :: As) := by
  refine ⟨PcG_blind κ _ ci fs _, fun U hU hW => ⟨rfl, by rw [hU]; exact hH, ?_, va_K.moved hW.alike hK, hnst.warm hW⟩⟩
  rw [hU]
  rw [blk_app] at hP
  intro k q hq
  refine hP (cs0.length + k) q ?_
  rw [List.getElem?_append_right (by rw [blk_len]; omega), blk_len, show cs0.length + k - cs0.length = k by omega]
  exact hq
theorem g_init (hS : StdG X R κ b cc own) {y : MethodName} {c2 : ByteArray} {n2 n index ci : Nat} {R2 : Room} {fs As rst : List Value} {cs0 csC : List va_E} (hC : CtrG X.2.1 κ (b + cs0.length) y c2 n2 R2 ci fs (.ref (b + cs0.length) :: As) csC) (hm : MG y c2 n2 n) (hl2 : Cond.methodLink own index y ∈ WL) (hn : As.length = n) (hlen : cs0.length = cn) (hf : R2.frames + 1 ≤ R.frames) (hlo : 8 + (n2 + 11) + R2.locals ≤ R.locals) (hrc : cn + R2.cells ≤ R.cells) (hrs : sn + R2.slots ≤ R.slots) (hrst : (rst.map fun v => v.category).sum ≤ 8) (hst : As.reverse ++ .ref (b + cs0.length) :: rst = st) (hcs : cs0 ++ [.inr (ci, fs)] = cs) (hd : decode cc pc = .ok (.invokespecial index, 3))
    (kk : Sg X R κ b fin (pc + 3) L rst (cs0 ++ csC) (cn + R2.cells) (sn + R2.slots)) : Sg X R κ b fin pc L st cs cn sn := by
  obtain ⟨p, l, e, s, m, args, below, meth, c, nX⟩ := X
  obtain ⟨hx, hb, hml, hown, hts, hK, hsz, hr, hlk2, hin2, hnst, hf0⟩ := hS
  obtain ⟨m1, m2, m3, m4, m5, m6, m7⟩ := hm
  subst hst; subst hcs
  intro H locs ls hP hV hl
  refine W_sz hP hsz (by simp [hlen]) (fun hH => ?_)
  have hH : H.size = b + cs0.length + 1 := by rw [hH, List.length_append]; rfl
  refine g_run (q0 := []) (a := (Value.ref (b + cs0.length) :: As).toArray) hP hV hH (va_runI (As := As) (rest := rst) ⟨hx, hb, hml, hown, hts⟩ hC ⟨callB_of n hts (good_ws m4) rfl rfl rfl (hts _ m3) (hts _ hl2) ⟨m5, m6, m7⟩ ⟨hf, hlo⟩, m1, hts _ m2⟩ (g_pre hP hK hnst hH) rfl hn hl.1 rfl (by show 2 * 0 + _ ≤ 8; omega) hd ⟨hrc, hrs⟩) (fun H1 locs1 h1 h2 => kk H1 locs1 ls h1 h2 hl)
theorem g_initN (hS : StdG X R κ b cc own) {y : MethodName} {c2 : ByteArray} {n2 n index ci : Nat} {R2 : Room} {fs As rst : List Value} {cs0 csC : List va_E} (hC : CtrG X.2.1 κ (b + cs0.length) y c2 n2 R2 ci fs (.ref (b + cs0.length) :: As) csC) (hm : MG y c2 n2 n) (hl2 : (own, index, y) ∈ NW) (hn : As.length = n) (hlen : cs0.length = cn) (hf : R2.frames + 1 ≤ R.frames) (hlo : 8 + (n2 + 11) + R2.locals ≤ R.locals) (hrc : cn + R2.cells ≤ R.cells) (hrs : sn + R2.slots ≤ R.slots) (hrst : (rst.map fun v => v.category).sum ≤ 8) (hst : As.reverse ++ .ref (b + cs0.length) :: rst = st) (hcs : cs0 ++ [.inr (ci, fs)] = cs) (hd : decode cc pc = .ok (.invokespecial index, 3))
    (kk : Sg X R κ b fin (pc + 3) L rst (cs0 ++ csC) (cn + R2.cells) (sn + R2.slots)) : Sg X R κ b fin pc L st cs cn sn := by
  obtain ⟨p, l, e, s, m, args, below, meth, c, nX⟩ := X
  obtain ⟨hx, hb, hml, hown, hts, hK, hsz, hr, hlk2, hin2, hnst, hf0⟩ := hS
  obtain ⟨m1, m2, m3, m4, m5, m6, m7⟩ := hm
  subst hst; subst hcs
  intro H locs ls hP hV hl
  refine W_sz hP hsz (by simp [hlen]) (fun hH => ?_)
  have hH : H.size = b + cs0.length + 1 := by rw [hH, List.length_append]; rfl
  refine g_run (q0 := []) (a := (Value.ref (b + cs0.length) :: As).toArray) hP hV hH (va_runIN (host := "AutoIndenter") (As := As) (rest := rst) ⟨hx, hb, hml, hown, hts⟩ hC ⟨va_cnB n hts (good_ws m4) rfl rfl rfl (hnst.1 _ hl2) (hts _ m3) ⟨m5, m6, m7⟩ ⟨hf, hlo⟩, m1, hts _ m2⟩ (g_pre hP hK hnst hH) rfl hn hl.1 rfl (by show 2 * 0 + _ ≤ 8; omega) hd ⟨hrc, hrs⟩) (fun H1 locs1 h1 h2 => kk H1 locs1 ls h1 h2 hl)
/-- newarray int, boolean; anewarray State -/
theorem g_newaI (hS : StdG X R κ b cc own) {n : Int} {N : Nat} (h1 : Cond.arrayClass .int ∈ WL) (hnN : wr n = (N : Int)) (hN : N ≤ 100000) (hn : cs.length = cn + 1) (hrc : cn + 1 ≤ R.cells) (hrs : sn + N ≤ R.slots) (hd : decode cc pc = .ok (.newarray .int, 2))
    (kk : Sg X R κ b fin (pc + 2) L (.ref (b + cs.length) :: st) (cs ++ [.inl (κ.2.1, N, .inl (fun _ => I3 0))]) (cn + 1) (sn + N)) : Sg X R κ b fin pc L (iv n :: st) cs cn sn := by
  obtain ⟨p, l, e, s, m, args, below, meth, c, nX⟩ := X
  obtain ⟨hx, hb, hml, hown, hts, hK, hsz, hr, hlk2, hin2, hnst, hf⟩ := hS
  intro H locs ls hP hV hl
  have hnn : ¬ I3 n < 0 := by rw [← I3_0, I3_lt, wr_0]; omega
  refine va_newa (atype := .int) (ty := .int) (a0 := (N, .inl (fun _ => I3 0))) hx hb (hts _ h1) rfl hK hP (blk_D b cs) hV (fun q hq => by show b ≤ q; omega) (fun cA => rfl) hnn (by rw [I3_clamp]; omega) (by show N * 4 ≤ 536870912; omega) hrc hrs hd (fun q cA H1 g0 g1 g2 g3 => ?_)
  have e1 := (g0.2 3 _ rfl).2
  have e2 := (g0.2 0 _ rfl).2
  have e1 : s.vm.findClass ("[" ++ FieldType.int.toString) = some cA := e1
  have e2 : s.vm.findClass ("[" ++ FieldType.int.toString) = some κ.2.1 := e2
  have hcA : cA = κ.2.1 := Option.some.inj (e1.symm.trans e2)
  subst hcA
  intro T' hT' X'
  have z := X'.heapSize
  rw [hT', hsz] at z
  have hq := blk_new g2 g1 z hn
  subst hq
  have e : blkW b cs ++ [(b + cs.length, .inl (κ.2.1, N, .inl (fun _ => I3 0)))] = blkW b (cs ++ [.inl (κ.2.1, N, .inl (fun _ => I3 0))]) := by rw [blk_app]; rfl
  rw [e] at g1
  exact kk H1 locs ls g1 g3 hl T' hT' X'
theorem g_newaZ (hS : StdG X R κ b cc own) {n : Int} {N : Nat} (h1 : Cond.arrayClass .boolean ∈ WL) (hnN : wr n = (N : Int)) (hN : N ≤ 100000) (hn : cs.length = cn + 1) (hrc : cn + 1 ≤ R.cells) (hrs : sn + N ≤ R.slots) (hd : decode cc pc = .ok (.newarray .boolean, 2))
    (kk : Sg X R κ b fin (pc + 2) L (.ref (b + cs.length) :: st) (cs ++ [.inl (κ.2.2.1, N, .inl (fun _ => I3 0))]) (cn + 1) (sn + N)) : Sg X R κ b fin pc L (iv n :: st) cs cn sn := by
  obtain ⟨p, l, e, s, m, args, below, meth, c, nX⟩ := X
  obtain ⟨hx, hb, hml, hown, hts, hK, hsz, hr, hlk2, hin2, hnst, hf⟩ := hS
  intro H locs ls hP hV hl
  have hnn : ¬ I3 n < 0 := by rw [← I3_0, I3_lt, wr_0]; omega
  refine va_newa (atype := .boolean) (ty := .boolean) (a0 := (N, .inl (fun _ => I3 0))) hx hb (hts _ h1) rfl hK hP (blk_D b cs) hV (fun q hq => by show b ≤ q; omega) (fun cA => rfl) hnn (by rw [I3_clamp]; omega) (by show N * 1 ≤ 536870912; omega) hrc hrs hd (fun q cA H1 g0 g1 g2 g3 => ?_)
  have e1 := (g0.2 3 _ rfl).2
  have e2 := (g0.2 1 _ rfl).2
  have e1 : s.vm.findClass ("[" ++ FieldType.boolean.toString) = some cA := e1
  have e2 : s.vm.findClass ("[" ++ FieldType.boolean.toString) = some κ.2.2.1 := e2
  have hcA : cA = κ.2.2.1 := Option.some.inj (e1.symm.trans e2)
  subst hcA
  intro T' hT' X'
  have z := X'.heapSize
  rw [hT', hsz] at z
  have hq := blk_new g2 g1 z hn
  subst hq
  have e : blkW b cs ++ [(b + cs.length, .inl (κ.2.2.1, N, .inl (fun _ => I3 0)))] = blkW b (cs ++ [.inl (κ.2.2.1, N, .inl (fun _ => I3 0))]) := by rw [blk_app]; rfl
  rw [e] at g1
  exact kk H1 locs ls g1 g3 hl T' hT' X'
theorem g_anew (hS : StdG X R κ b cc own) {n : Int} {N index : Nat} (h1 : Cond.classLink own index "AutoIndenter$State" ∈ WL) (hnN : wr n = (N : Int)) (hN : N ≤ 100000) (hn : cs.length = cn + 1) (hrc : cn + 1 ≤ R.cells) (hrs : sn + N ≤ R.slots) (hd : decode cc pc = .ok (.anewarray index, 3))
    (kk : Sg X R κ b fin (pc + 3) L (.ref (b + cs.length) :: st) (cs ++ [.inl (κ.2.2.2, N, .inr (.inr (.inr (.inr (fun _ => none)))))]) (cn + 1) (sn + N)) : Sg X R κ b fin pc L (iv n :: st) cs cn sn := by
  obtain ⟨p, l, e, s, m, args, below, meth, c, nX⟩ := X
  obtain ⟨hx, hb, hml, hown, hts, hK, hsz, hr, hlk2, hin2, hnst, hf⟩ := hS
  intro H locs ls hP hV hl
  have hnn : ¬ I3 n < 0 := by rw [← I3_0, I3_lt, wr_0]; omega
  refine va_newq hx hb hown (hts _ h1) hnst.2 hK hP (blk_D b cs) hV (fun q hq => by show b ≤ q; omega) hnn (by rw [I3_clamp]; omega) (by omega) hrc hrs hd (fun q cA H1 g0 g1 g2 g3 => ?_)
  obtain ⟨_, _, _, _, _, e1⟩ := (g0.2 3 _ rfl).2
  obtain ⟨_, _, _, _, _, e2⟩ := (g0.2 2 _ rfl).2
  have hcA : cA = κ.2.2.2 := Option.some.inj (e1.symm.trans e2)
  subst hcA
  intro T' hT' X'
  have z := X'.heapSize
  rw [hT', hsz] at z
  have hq := blk_new g2 g1 z hn
  subst hq
  have e : blkW b cs ++ [(b + cs.length, .inl (κ.2.2.2, N, .inr (.inr (.inr (.inr (fun _ => none))))))] = blkW b (cs ++ [.inl (κ.2.2.2, N, .inr (.inr (.inr (.inr (fun _ => none)))))]) := by rw [blk_app]; rfl
  rw [e] at g1
  exact kk H1 locs ls g1 g3 hl T' hT' X'
theorem g_iast (hS : StdG X R κ b cc own) {j N : Nat} {i v : Int} {f : Nat → Int32} {cs' : List va_E} (hj : cs[j]? = some (.inl (κ.2.1, N, .inl f))) (hi : 0 ≤ wr i ∧ wr i < (N : Int)) (hd : decode cc pc = .ok (.iastore, 1)) (hcs : cs.set j (.inl (κ.2.1, N, .inl (upd f (wr i).toNat (I3 v)))) = cs') (kk : Sg X R κ b fin (pc + 1) L st cs' cn sn) : Sg X R κ b fin pc L (iv v :: iv i :: .ref (b + j) :: st) cs cn sn := by
  obtain ⟨p, l, e, s, m, args, below, meth, c, nX⟩ := X
  obtain ⟨hx, hb, hml, hown, hts, hK, hsz, hr, hlk2, hin2, hnst, hf⟩ := hS
  intro H locs ls hP hV hl
  subst hcs
  have he : (blkW b cs)[j]? = some (b + j, .inl (κ.2.1, N, .inl f)) := by rw [blk_get, hj]; rfl
  refine va_iast hx hb hK hP (blk_D b cs) hV j 0 he rfl (I3_in hi) hd (fun H1 locs1 hP1 hD1 hV1 => ?_)
  refine kk H1 locs1 ls ?_ hV1 hl
  rw [← blk_set]
  exact hP1
theorem g_aast (hS : StdG X R κ b cc own) {j N k : Nat} {i : Int} {f : Nat → Option Nat} {vs : List Value} {cs' : List va_E} (hj : cs[j]? = some (.inl (κ.2.2.2, N, .inr (.inr (.inr (.inr f)))))) (hk : cs[k]? = some (.inr (8, vs))) (hi : 0 ≤ wr i ∧ wr i < (N : Int)) (hd : decode cc pc = .ok (.aastore, 1)) (hcs : cs.set j (.inl (κ.2.2.2, N, .inr (.inr (.inr (.inr (va_up f (wr i).toNat (some (b + k)))))))) = cs') (kk : Sg X R κ b fin (pc + 1) L st cs' cn sn) : Sg X R κ b fin pc L (.ref (b + k) :: iv i :: .ref (b + j) :: st) cs cn sn := by
  obtain ⟨p, l, e, s, m, args, below, meth, c, nX⟩ := X
  obtain ⟨hx, hb, hml, hown, hts, hK, hsz, hr, hlk2, hin2, hnst, hf⟩ := hS
  intro H locs ls hP hV hl
  subst hcs
  have he : (blkW b cs)[j]? = some (b + j, .inl (κ.2.2.2, N, .inr (.inr (.inr (.inr f))))) := by rw [blk_get, hj]; rfl
  have hv : (blkW b cs)[k]? = some (b + k, .inr (8, vs)) := by rw [blk_get, hk]; rfl
  refine va_astq (r := (RX8, TX8, 5)) hx hb hK hP (blk_D b cs) hV j 2 k 8 he rfl hv rfl (I3_in hi) hd (fun H1 locs1 hP1 hD1 hV1 => ?_)
  refine kk H1 locs1 ls ?_ hV1 hl
  rw [← blk_set]
  exact hP1
theorem g_get (hS : StdG X R κ b cc own) {ci k index : Nat} {v : Value} {fs : List Value} (fl : FL own index ci k) (hc0 : cs[0]? = some (.inr (ci, fs))) (hv : fs[k]? = some v) (hd : decode cc pc = .ok (.getfield index, 3)) (kk : Sg X R κ b fin (pc + 3) L (v :: st) cs cn sn) : Sg X R κ b fin pc L (.ref b :: st) cs cn sn := by
  obtain ⟨p, l, e, s, m, args, below, meth, c, nX⟩ := X
  obtain ⟨hx, hb, hml, hown, hts, hK, hsz, hr, hlk2, hin2, hnst, hf⟩ := hS
  intro H locs ls hP hV hl
  obtain ⟨C, T, N, hc, hkN, hin, hlk3⟩ := fl
  have he : (blkW b cs)[0]? = some (b, .inr (ci, fs)) := by rw [blk_get, hc0]; rfl
  exact va_get (v := v) hx hb hts hin hown hK hP 0 he hc k hkN (hts _ hlk3) (fun _ h9 => h9) hv hd (kk H locs ls hP hV hl)
theorem g_alenR (hS : StdG X R κ b cc own) {j N : Nat} {f : Nat → Option Nat} (hj : cs[j]? = some (.inl (κ.2.2.2, N, .inr (.inr (.inr (.inr f)))))) (hd : decode cc pc = .ok (.arraylength, 1)) (kk : Sg X R κ b fin (pc + 1) L (iv (N : Int) :: st) cs cn sn) : Sg X R κ b fin pc L (.ref (b + j) :: st) cs cn sn := by
  obtain ⟨p, l, e, s, m, args, below, meth, c, nX⟩ := X
  obtain ⟨hx, hb, hml, hown, hts, hK, hsz, hr, hlk2, hin2, hnst, hf⟩ := hS
  intro H locs ls hP hV hl
  have he : (blkW b cs)[j]? = some (b + j, .inl (κ.2.2.2, N, .inr (.inr (.inr (.inr f))))) := by rw [blk_get, hj]; rfl
  exact va_alen hx hb hK hP j 2 he (ty := .object "AutoIndenter$State") rfl (v := I3 (N : Int)) rfl hd (kk H locs ls hP hV hl)
theorem g_mmax (hS : StdG X R κ b cc own) {a a2 v : Int} {index : Nat} (hm : Cond.methodLink own index Lib.Math.max.name ∈ WL) (hm2 : Cond.static Lib.Math.max.name ∈ WL) (hm3 : Cond.initialized "java/lang/Math" ∈ WL) (hm4 : Cond.code Lib.Math.max.name Lib.Math.max.code 2 (some .int) ∈ WL) (hlo : (st.map fun v => v.category).sum + 13 ≤ R.locals) (hrc : cn ≤ R.cells) (hrs : sn ≤ R.slots) (hv : (if I3 a < I3 a2 then I3 a2 else I3 a) = I3 v) (hv2 : (if I3 a2 ≤ I3 a then I3 a else I3 a2) = I3 v) (hd : decode cc pc = .ok (.invokestatic index, 3)) (k : Sg X R κ b fin (pc + 3) L (iv v :: st) cs cn sn) : Sg X R κ b fin pc L (iv a2 :: iv a :: st) cs cn sn := by
  obtain ⟨p, l, e, s, m, args, below, meth, c, nX⟩ := X
  obtain ⟨hx, hb, hml, hown, hts, hK, hsz, hr, hlk2, hin2, hnst, hf⟩ := hS
  intro H locs ls hP hV hl
  refine va_mmax hx hb (by rw [hml]; exact hl.1.symm) hown (hts _ hm) (hts _ hm2) (hts _ hm3) (hts _ hm4) hf hlo hrc hrs hd ?_
  have k1 := k H locs ls hP hV hl
  unfold iv at k1
  first
    | (rw [hv2]; exact k1)
    | (rw [hv]; exact k1)
end GROW2
