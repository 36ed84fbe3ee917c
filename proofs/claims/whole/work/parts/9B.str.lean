/-! ===== String constants, and the JDK's own methods that read them ===== -/
def sLn : List Nat := [2, 1, 1, 1, 3, 1, 5, 3, 4, 3, 2, 2, 3, 1, 4, 1]
def sBy : List (List Int32) := [[97, 40], [41], [123], [125], [91, 120, 44], [93], [98, 101, 103, 105, 110], [101, 110, 100], [99, 97, 115, 101], [34, 115, 34], [35, 99], [121, 43], [34, 34, 34], [122], [102, 40, 98, 44], [59]]
def sTx : List String := ["a(", ")", "{", "}", "[x,", "]", "begin", "end", "case", "\"s\"", "#c", "y+", "\"\"\"", "z", "f(b,", ";"]
abbrev Ad : Type := (Nat → Nat) × (Nat → Nat)
def slI (k : Int) : Int := (sLn.getD k.toNat 0 : Nat)
def sbI (k : Int) (j : Nat) : Int := ((sBy.getD k.toNat []).getD j 0).toInt
def Str (ad : Ad) (A : Nat → Prop) (U : State) (H : Heap) : Prop := vk_S 16 sLn sBy ad.1 ad.2 A U H ∧ (∀ i, i < 16 → vk_R RX11 (396 + 2 * i) (sTx.getD i "") (ad.1 i) U) ∧ va_Z RJ0 "COMPACT_STRINGS" "Z" (.int 1) A U H ∧ va_Zq RJ3 "SIOOBE_FORMATTER" "Ljava/util/function/BiFunction;" A U H
theorem Str.next {ad : Ad} {A B : Nat → Prop} {s U : State} {H : Heap} {locs : List Loc} (h : Str ad A s s.heap) (hV : va_S A s.heap H locs) (hU : U.heap = H) (hW : s.WarmedH U.vm) (hF : ∀ q, B q → A q) : Str ad B U U.heap := by
  obtain ⟨h1, h2, h3, h4⟩ := h
  rw [hU]
  exact ⟨vk_S.moved hW.alike ((h1.kept hV.2.1).narrow hF), fun i hi => (h2 i hi).warm hW, va_Z.moved hW.alike ((h3.kept hV.2.1).narrow hF), va_Zq.moved hW.alike ((h4.kept hV.2.1).narrow hF)⟩
def PcS (w : Wd) (ad : Ad) (av : List Value) (σ : Mem) (sz : Nat) : Array Value → State → Prop := va_Pc av (fun U => (U.heap.size = sz ∧ va_P w.1 vwCl (wld w σ) U.heap ∧ va_K w.1 vwCl (tyL w) U ∧ va_D (fun _ => True) (wld w σ) ∧ Nst U) ∧ Str ad (va_A (wld w σ) sz) U U.heap)
theorem PcS_blind (w : Wd) (ad : Ad) (av : List Value) (σ : Mem) (sz : Nat) : FrameBlind (PcS w ad av σ sz) := fun a U g mk q => by
  obtain ⟨q0, ⟨q1, qP, qK, qD, qN⟩, s1, s2, s3, s4⟩ := q
  exact ⟨q0, ⟨q1, qP, va_K.moved (u := U) (U := U.calling g mk a) (Vm.Alike.refl U.vm) qK, qD, fun z hz => va_Nw.same rfl (rfl : U.vm = (U.calling g mk a).vm) (qN z hz)⟩, vk_S.moved (u := U) (U := U.calling g mk a) (Vm.Alike.refl U.vm) s1, fun i hi => vk_R.same (u := U) (U := U.calling g mk a) rfl (s2 i hi), va_Z.moved (u := U) (U := U.calling g mk a) (Vm.Alike.refl U.vm) s3, va_Zq.moved (u := U) (U := U.calling g mk a) (Vm.Alike.refl U.vm) s4⟩
/-- a contract of a method that may read the String constants -/
def CtrS (l : Launch) (w : Wd) (ad : Ad) (y : MethodName) (cc : ByteArray) (nL : Nat) (ret : Option FieldType) (rm : Room) (rk : Nat) (av : List Value) (σ : Mem) (E : Option (Int × Mem)) : Prop :=
  ∀ (x : Int × Mem) (sz : Nat), E = some x → Met l y (.code y cc nL ret :: WL) rm (PcS w ad av σ sz) (QcX w rk x (va_A (wld w σ) sz)) 0 0 (va_A (wld w σ) sz)
def StrX (ad : Ad) (X : Cx) : Prop := match X with
  | (_, _, _, s, _, _, _, _, _, A, _) => Str ad A s s.heap
theorem met_ofS {l : Launch} {w : Wd} {ad : Ad} {y : MethodName} {cc : ByteArray} {nL : Nat} {ret : Option FieldType} {R : Room} {rk : Nat} {av : List Value} {σ : Mem} {E : Option (Int × Mem)} {own : String}
    (hy : plainName y.cls = true) (ho : y.cls = own) (hrc : R.cells = 0) (hrs : R.slots = 0) (hn : (lg_sl av).length ≤ nL)
    (body : ∀ (X : Cx) (x : Int × Mem), X.2.1 = l → cxn X = nL → Std X R w cc own ret → StrX ad X → ∃ L, (∃ k, L = entL av ++ List.replicate k none) ∧ Sm X R w rk x 0 L [] σ E) : CtrS l w ad y cc nL ret R rk av σ E := by
  intro x sz hE
  refine Met.ofW (cc := cc) (maxL := nL) (ret := ret) hy rfl ?_
  intro p e s m args below meth c s₁ B hml hv
  obtain ⟨rfl, ⟨hsz, hP, hK, hD0, hnst⟩, hZ⟩ := hv
  have hts := atoms_spec (ws := (Cond.code y cc nL ret :: WL)) B.pre
  have hown : s.vm.findClass own = some m.cls := by rw [← ho]; exact findClass_of_methodNamed B.named
  subst hsz
  have hD : va_D (va_A (wld w σ) s.heap.size) (wld w σ) := hD0.self
  obtain ⟨L, ⟨k, rfl⟩, K⟩ := body (p, l, e, s, m, av.toArray, below, meth, c, va_A (wld w σ) s.heap.size, nL) x rfl rfl ⟨B.exec, B.bytes, hml, hown, fun u hu => hts u (List.mem_cons_of_mem _ hu), hK, fun σ' => wld_D hD, fun q h => Or.inr h, B.returns, B.notSynchronized, hrc, hrs, hnst⟩ hZ
  have hl := lv_entry av (n := nL) hn
  rw [lg_entry_eq]
  refine K hE s.heap [] _ hP va_S.rf ⟨hl.1, hl.2.1, fun i v hi => ?_⟩
  have hi2 : (entL av)[i]? = some (some v) := by
    rw [List.getElem?_append] at hi
    split at hi
    · exact hi
    · rw [List.getElem?_replicate] at hi
      split at hi <;> cases hi
  have := entL_mem av 0 i v hi2
  rw [Nat.zero_add] at this
  exact hl.2.2 _ this
section SCALL
variable {X : Cx} {R : Room} {w : Wd} {rk : Nat} {x : Int × Mem} {pc : Nat} {L : List (Option Value)} {st : List Value} {σ : Mem} {E : Option (Int × Mem)} {cc : ByteArray} {own : String} {ret : Option FieldType} {ad : Ad}
theorem sub_A {w : Wd} {σ : Mem} {A : Nat → Prop} {H0 H : Heap} {locs : List Loc} (hD : va_D A (wld w σ)) (hA : ∀ q, H0.size ≤ q → A q) (hV : va_S A H0 H locs) : ∀ q, va_A (wld w σ) H.size q → A q := by
  intro q h
  rcases h with ⟨k, e, h⟩ | h
  · exact hD.2 k _ h
  · exact hA q (Nat.le_trans hV.1 h)
/-- a call on an object of ours -/
theorem a_callVs (hS : Std X R w cc own ret) (hZ : StrX ad X) {y : MethodName} {C : String} {c2 : ByteArray} {n2 n index o ci rk2 f lo : Nat} {r2 : Option FieldType} {ks : List (Nat ⊕ Nat)} {E1 : Option (Int × Mem)} {F : Int × Mem → Option (Int × Mem)} {As rst : List Value}
    (hC : CtrS X.2.1 w ad y c2 n2 r2 (rmN f lo) rk2 (rf w o :: As) σ E1) (hm : MI C y c2 n2 r2 n) (hl2 : Cond.methodLink own index y ∈ WL) (hsh : (shp w)[o]? = some (.inr (.inr (ci, ks)))) (hci : (vwCl[ci]?).map (fun q => q.1) = some C)
    (hn : As.length = n) (hf : f + 1 ≤ R.frames) (hlo : 8 + (n2 + 11) + lo ≤ R.locals) (hrst : (rst.map fun v => v.category).sum ≤ 8) (hst : As.reverse ++ rf w o :: rst = st) (hd : decode cc pc = .ok (.invokevirtual index, 3))
    (kk : ∀ q : Int × Mem, E1 = some q → Sm X R w rk x (pc + 3) L ((rvl w rk2 q.1).toList ++ rst) q.2 (F q)) : Sm X R w rk x pc L st σ (E1.bind F) := by
  obtain ⟨p, l, e, s, m, args, below, meth, c, A, nL⟩ := X
  obtain ⟨hx, hb, hml, hown, hts, hK, hD, hA, hr, hlk, hrc, hrs, hnst⟩ := hS
  intro h H locs ls hP hV hl
  cases hE : E1 with
  | none => rw [hE] at h; cases h
  | some x1 =>
    rw [hE] at h
    have h : F x1 = some x := h
    obtain ⟨m1, m2, m3, m4, m5, m6, m7, m8⟩ := hm
    cases hq : vwCl[ci]? with
    | none => rw [hq] at hci; cases hci
    | some qc =>
      rw [hq] at hci
      have hqc : qc.1 = C := Option.some.inj hci
      have hM := hC x1 H.size hE
      have he := wld_get (σ := σ) hsh
      subst hst
      refine QcX_run (hD σ) hA (va_runV (As := As) (b := w.2.1 o) (rest := rst) ⟨hx, hb, hml, hown, hts⟩ hM ⟨callB_of n hts (good_ws m4) rfl rfl rfl (hts _ (by rw [m5]; exact m3)) (hts _ hl2) ⟨m6, m7, m8⟩ ⟨hf, hlo⟩, hts _ m1, hts _ m2⟩ ⟨PcS_blind w ad _ σ _, by rw [← hqc]; exact va_recv hK hP hq he, fun U hU hW => ⟨rfl, ⟨by rw [hU], by rw [hU]; exact hP, va_K.moved hW.alike hK, (hD σ).weaken (fun _ _ _ _ => trivial), hnst.warm hW⟩, Str.next hZ hV hU hW (sub_A (hD σ) hA hV)⟩⟩ rfl hn hl.1 rfl (by show 2 * 0 + _ ≤ 8; omega) hd ⟨Nat.zero_le _, Nat.zero_le _⟩) hV (fun H1 locs1 hP1 hV1 => ?_)
      exact kk x1 hE h H1 locs1 ls hP1 hV1 hl
/-- a call on a String constant -/
theorem a_callVx (hS : Std X R w cc own ret) (hZ : StrX ad X) {y : MethodName} {c2 : ByteArray} {n2 n index j rk2 f lo : Nat} {r2 : Option FieldType} {E1 : Option (Int × Mem)} {F : Int × Mem → Option (Int × Mem)} {As rst : List Value}
    (hC : CtrS X.2.1 w ad y c2 n2 r2 (rmN f lo) rk2 (.ref (ad.1 j) :: As) σ E1) (hj : j < 16) (hm : MI RJ0 y c2 n2 r2 n) (hl2 : Cond.methodLink own index y ∈ WL)
    (hn : As.length = n) (hf : f + 1 ≤ R.frames) (hlo : 8 + (n2 + 11) + lo ≤ R.locals) (hrst : (rst.map fun v => v.category).sum ≤ 8) (hst : As.reverse ++ .ref (ad.1 j) :: rst = st) (hd : decode cc pc = .ok (.invokevirtual index, 3))
    (kk : ∀ q : Int × Mem, E1 = some q → Sm X R w rk x (pc + 3) L ((rvl w rk2 q.1).toList ++ rst) q.2 (F q)) : Sm X R w rk x pc L st σ (E1.bind F) := by
  obtain ⟨p, l, e, s, m, args, below, meth, c, A, nL⟩ := X
  obtain ⟨hx, hb, hml, hown, hts, hK, hD, hA, hr, hlk, hrc, hrs, hnst⟩ := hS
  intro h H locs ls hP hV hl
  cases hE : E1 with
  | none => rw [hE] at h; cases h
  | some x1 =>
    rw [hE] at h
    have h : F x1 = some x := h
    obtain ⟨m1, m2, m3, m4, m5, m6, m7, m8⟩ := hm
    have hM := hC x1 H.size hE
    have hZ' : Str ad A s s.heap := hZ
    subst hst
    refine QcX_run (hD σ) hA (va_runV (As := As) (b := ad.1 j) (rest := rst) ⟨hx, hb, hml, hown, hts⟩ hM ⟨callB_of n hts (good_ws m4) rfl rfl rfl (hts _ (by rw [m5]; exact m3)) (hts _ hl2) ⟨m6, m7, m8⟩ ⟨hf, hlo⟩, hts _ m1, hts _ m2⟩ ⟨PcS_blind w ad _ σ _, vk_recv hZ'.1 hj hV, fun U hU hW => ⟨rfl, ⟨by rw [hU], by rw [hU]; exact hP, va_K.moved hW.alike hK, (hD σ).weaken (fun _ _ _ _ => trivial), hnst.warm hW⟩, Str.next hZ' hV hU hW (sub_A (hD σ) hA hV)⟩⟩ rfl hn hl.1 rfl (by show 2 * 0 + _ ≤ 8; omega) hd ⟨Nat.zero_le _, Nat.zero_le _⟩) hV (fun H1 locs1 hP1 hV1 => ?_)
    exact kk x1 hE h H1 locs1 ls hP1 hV1 hl
theorem a_callSs (hS : Std X R w cc own ret) (hZ : StrX ad X) {y : MethodName} {c2 : ByteArray} {n2 n index rk2 f lo : Nat} {r2 : Option FieldType} {E1 : Option (Int × Mem)} {F : Int × Mem → Option (Int × Mem)} {As rst : List Value}
    (hC : CtrS X.2.1 w ad y c2 n2 r2 (rmN f lo) rk2 As σ E1) (hm : MS y c2 n2 r2 n) (hl2 : Cond.methodLink own index y ∈ WL)
    (hn : As.length = n) (hf : f + 1 ≤ R.frames) (hlo : 8 + (n2 + 11) + lo ≤ R.locals) (hrst : (rst.map fun v => v.category).sum ≤ 8) (hst : As.reverse ++ rst = st) (hd : decode cc pc = .ok (.invokestatic index, 3))
    (kk : ∀ q : Int × Mem, E1 = some q → Sm X R w rk x (pc + 3) L ((rvl w rk2 q.1).toList ++ rst) q.2 (F q)) : Sm X R w rk x pc L st σ (E1.bind F) := by
  obtain ⟨p, l, e, s, m, args, below, meth, c, A, nL⟩ := X
  obtain ⟨hx, hb, hml, hown, hts, hK, hD, hA, hr, hlk, hrc, hrs, hnst⟩ := hS
  intro h H locs ls hP hV hl
  cases hE : E1 with
  | none => rw [hE] at h; cases h
  | some x1 =>
    rw [hE] at h
    have h : F x1 = some x := h
    obtain ⟨m1, m3, m4, m6, m7, m8⟩ := hm
    have hM := hC x1 H.size hE
    have hZ' : Str ad A s s.heap := hZ
    subst hst
    refine QcX_run (hD σ) hA (va_runS (As := As) (rest := rst) ⟨hx, hb, hml, hown, hts⟩ hM ⟨callB_of n hts (good_ws m4) rfl rfl rfl (hts _ m3) (hts _ hl2) ⟨m6, m7, m8⟩ ⟨hf, hlo⟩, hts _ m1⟩ ⟨PcS_blind w ad _ σ _, fun U hU hW => ⟨rfl, ⟨by rw [hU], by rw [hU]; exact hP, va_K.moved hW.alike hK, (hD σ).weaken (fun _ _ _ _ => trivial), hnst.warm hW⟩, Str.next hZ' hV hU hW (sub_A (hD σ) hA hV)⟩⟩ rfl hn hl.1 rfl (by show 2 * 0 + _ ≤ 8; omega) hd ⟨Nat.zero_le _, Nat.zero_le _⟩) hV (fun H1 locs1 hP1 hV1 => ?_)
    exact kk x1 hE h H1 locs1 ls hP1 hV1 hl
theorem a_aloadS (hS : Std X R w cc own ret) {i q : Nat} (hd : decode cc pc = .ok (.aload i, 2)) (hi : L[i]? = some (some (.ref q))) (k : Sm X R w rk x (pc + 2) L (.ref q :: st) σ E) : Sm X R w rk x pc L st σ E := by
  obtain ⟨p, l, e, s, m, args, below, meth, c, A, nX⟩ := X
  obtain ⟨hx, hb, hml, hown, hts, hK, hD, hA, hr, hlk, hrc, hrs⟩ := hS
  intro h H locs ls hP hV hl
  exact lv_aload hx hb hd (hl.2.2 i _ hi) (k h H locs ls hP hV hl)
theorem a_aload_nS (hS : Std X R w cc own ret) {j : Fin 4} {q : Nat} (hd : decode cc pc = .ok (.aload_n j, 1)) (hi : L[j.val]? = some (some (.ref q))) (k : Sm X R w rk x (pc + 1) L (.ref q :: st) σ E) : Sm X R w rk x pc L st σ E := by
  obtain ⟨p, l, e, s, m, args, below, meth, c, A, nX⟩ := X
  obtain ⟨hx, hb, hml, hown, hts, hK, hD, hA, hr, hlk, hrc, hrs⟩ := hS
  intro h H locs ls hP hV hl
  exact lv_aload_n hx hb hd rfl (hl.2.2 _ _ hi) (k h H locs ls hP hV hl)
theorem a_astoreS (hS : Std X R w cc own ret) {i q : Nat} {L' : List (Option Value)} (hd : decode cc pc = .ok (.astore i, 2)) {nL : Nat} (hN : cxn X = nL) (hn : i < nL) (hp : prv L i = true) (hL : L.set i (some (.ref q)) = L') (k : Sm X R w rk x (pc + 2) L' st σ E) : Sm X R w rk x pc L (.ref q :: st) σ E := by
  obtain ⟨p, l, e, s, m, args, below, meth, c, A, nX⟩ := X
  obtain ⟨hx, hb, hml, hown, hts, hK, hD, hA, hr, hlk, hrc, hrs⟩ := hS
  intro h H locs ls hP hV hl
  subst hL; subst hN
  exact lv_astore hx hb hd (lvh_has hl) hn rfl (fun ls' hl' => k h H locs ls' hP hV (lvh_st1 hl' hp))
/-- getfield value, coder of a String constant; its bytes -/
theorem a_sval (hS : Std X R w cc own ret) (hZ : StrX ad X) {j index : Nat} (hj : j < 16) (hd : decode cc pc = .ok (.getfield index, 3)) (hm : Cond.fieldLink own index RJ0 "value" "[B" ∈ WL) (k : Sm X R w rk x (pc + 3) L (.ref (ad.2 j) :: st) σ E) : Sm X R w rk x pc L (.ref (ad.1 j) :: st) σ E := by
  obtain ⟨p, l, e, s, m, args, below, meth, c, A, nX⟩ := X
  obtain ⟨hx, hb, hml, hown, hts, hK, hD, hA, hr, hlk, hrc, hrs⟩ := hS
  intro h H locs ls hP hV hl
  have hZ' : Str ad A s s.heap := hZ
  exact vk_getf hx hb (hZ'.1.1 j hj).2.2.1 hV hown (hts _ hm) (fun _ q => q) hd (k h H locs ls hP hV hl)
theorem a_scod (hS : Std X R w cc own ret) (hZ : StrX ad X) {j index : Nat} (hj : j < 16) (hd : decode cc pc = .ok (.getfield index, 3)) (hm : Cond.fieldLink own index RJ0 "coder" "B" ∈ WL) (k : Sm X R w rk x (pc + 3) L (iv 0 :: st) σ E) : Sm X R w rk x pc L (.ref (ad.1 j) :: st) σ E := by
  obtain ⟨p, l, e, s, m, args, below, meth, c, A, nX⟩ := X
  obtain ⟨hx, hb, hml, hown, hts, hK, hD, hA, hr, hlk, hrc, hrs⟩ := hS
  intro h H locs ls hP hV hl
  have hZ' : Str ad A s s.heap := hZ
  exact vk_getf hx hb (hZ'.1.1 j hj).2.1 hV hown (hts _ hm) (fun _ q => q) hd (k h H locs ls hP hV hl)
theorem a_salen (hS : Std X R w cc own ret) (hZ : StrX ad X) {j : Nat} (hj : j < 16) (hd : decode cc pc = .ok (.arraylength, 1)) (k : Sm X R w rk x (pc + 1) L (iv (slI j) :: st) σ E) : Sm X R w rk x pc L (.ref (ad.2 j) :: st) σ E := by
  obtain ⟨p, l, e, s, m, args, below, meth, c, A, nX⟩ := X
  obtain ⟨hx, hb, hml, hown, hts, hK, hD, hA, hr, hlk, hrc, hrs⟩ := hS
  intro h H locs ls hP hV hl
  have hZ' : Str ad A s s.heap := hZ
  refine va_tlen (v := I3 (slI j)) hx hb (hZ'.1.1 j hj).2.2.2 hV ?_ hd (k h H locs ls hP hV hl)
  rfl
theorem a_sbald (hS : Std X R w cc own ret) (hZ : StrX ad X) {j : Nat} {i : Int} (hj : j < 16) (hi : 0 ≤ wr i ∧ wr i < slI j) (hd : decode cc pc = .ok (.baload, 1)) (k : Sm X R w rk x (pc + 1) L (iv (sbI j (wr i).toNat) :: st) σ E) : Sm X R w rk x pc L (iv i :: .ref (ad.2 j) :: st) σ E := by
  obtain ⟨p, l, e, s, m, args, below, meth, c, A, nX⟩ := X
  obtain ⟨hx, hb, hml, hown, hts, hK, hD, hA, hr, hlk, hrc, hrs⟩ := hS
  intro h H locs ls hP hV hl
  have hZ' : Str ad A s s.heap := hZ
  refine va_tb (v := iv (sbI j (wr i).toNat)) hx hb (hZ'.1.1 j hj).2.2.2 hV (I3_in hi) ?_ hd (k h H locs ls hP hV hl)
  rw [I3_clamp]
  exact (iv_toInt _).symm
theorem a_compact (hS : Std X R w cc own ret) (hZ : StrX ad X) {index : Nat} (hd : decode cc pc = .ok (.getstatic index, 3)) (hm : Cond.fieldLink own index RJ0 "COMPACT_STRINGS" "Z" ∈ WL) (k : Sm X R w rk x (pc + 3) L (iv 1 :: st) σ E) : Sm X R w rk x pc L st σ E := by
  obtain ⟨p, l, e, s, m, args, below, meth, c, A, nX⟩ := X
  obtain ⟨hx, hb, hml, hown, hts, hK, hD, hA, hr, hlk, hrc, hrs⟩ := hS
  intro h H locs ls hP hV hl
  have hZ' : Str ad A s s.heap := hZ
  exact va_gets hx hb hZ'.2.2.1 hV hown (hts _ hm) (fun _ q => q) hd (k h H locs ls hP hV hl)
theorem a_formatter (hS : Std X R w cc own ret) (hZ : StrX ad X) {index : Nat} (hd : decode cc pc = .ok (.getstatic index, 3)) (hm : Cond.fieldLink own index RJ3 "SIOOBE_FORMATTER" "Ljava/util/function/BiFunction;" ∈ WL) (k : ∀ v : Value, v.category = 1 → Sm X R w rk x (pc + 3) L (v :: st) σ E) : Sm X R w rk x pc L st σ E := by
  obtain ⟨p, l, e, s, m, args, below, meth, c, A, nX⟩ := X
  obtain ⟨hx, hb, hml, hown, hts, hK, hD, hA, hr, hlk, hrc, hrs⟩ := hS
  intro h H locs ls hP hV hl
  have hZ' : Str ad A s s.heap := hZ
  rcases hZ'.2.2.2 with q | ⟨t, q⟩
  · exact va_gets hx hb q hV hown (hts _ hm) (fun _ q => q) hd (k .null rfl h H locs ls hP hV hl)
  · exact va_gets hx hb q hV hown (hts _ hm) (fun _ q => q) hd (k (.ref t) rfl h H locs ls hP hV hl)
def i2cI (a : Int) : Int := ((I3 a).toUInt32 % 65536).toInt32.toInt
theorem a_i2c (hS : Std X R w cc own ret) {a : Int} (hd : decode cc pc = .ok (.i2c, 1)) (k : Sm X R w rk x (pc + 1) L (iv (i2cI a) :: st) σ E) : Sm X R w rk x pc L (iv a :: st) σ E := by
  obtain ⟨p, l, e, s, m, args, below, meth, c, A, nX⟩ := X
  obtain ⟨hx, hb, hml, hown, hts, hK, hD, hA, hr, hlk, hrc, hrs⟩ := hS
  intro h H locs ls hP hV hl
  have k1 := k h H locs ls hP hV hl
  unfold i2cI at k1
  rw [iv_toInt] at k1
  exact lv_i2c hx hb hd rfl k1
theorem a_nret (hS : Std X R w cc own ret) {r : Int} {ty : FieldType} (hk : rk = 1) (hr2 : ret = some ty) (hn : narrow ty (.int (I3 r)) = .int (I3 r)) (hd : decode cc pc = .ok (.ireturn, 1)) : Sm X R w rk x pc L [iv r] σ (some (r, σ)) := by
  obtain ⟨p, l, e, s, m, args, below, meth, c, A, nX⟩ := X
  obtain ⟨hx, hb, hml, hown, hts, hK, hD, hA, hr, hlk, hrc, hrs⟩ := hS
  intro h H locs ls hP hV hl
  injection h with h
  subst h; subst hk; subst hr2
  exact W.zret (v := I3 r) (ty := ty) hx hb hr hn (fun t ht hW => ⟨rfl, by rw [ht]; exact hP, va_K.moved hW.alike hK, hV.F ht⟩) hV.2.2 hd hlk
end SCALL
theorem flJ0_38 : Cond.fieldLink RJ0 38 RJ0 "COMPACT_STRINGS" "Z" ∈ WL := WL_in (tb5 (List.mem_of_getElem? (i := 66) rfl)) rfl
theorem flJ0_1053 : Cond.fieldLink RJ0 1053 RJ3 "SIOOBE_FORMATTER" "Ljava/util/function/BiFunction;" ∈ WL := WL_in (tb5 (List.mem_of_getElem? (i := 82) rfl)) rfl
theorem flJ0_9 : Cond.fieldLink RJ0 9 RJ0 "value" "[B" ∈ WL := WL_in (tb7 (List.mem_of_getElem? (i := 214) rfl)) rfl
theorem flJ0_15 : Cond.fieldLink RJ0 15 RJ0 "coder" "B" ∈ WL := WL_in (tb7 (List.mem_of_getElem? (i := 215) rfl)) rfl
section SJDK
variable {l : Launch} {w : Wd} {ad : Ad} {σ : Mem}
theorem sb_1 : ∀ k : Nat, k < 16 → ∀ j : Nat, j < sLn.getD k 0 → i2cI (andI (sbI k j) 255) = sbI k j ∧ ((I3 (sbI k j)).toUInt32 % 65536).toInt32 = I3 (sbI k j) := by decide +kernel
theorem sl_1 : ∀ k : Nat, k < 16 → shrI (slI k) 0 = slI k ∧ 0 ≤ slI k ∧ slI k ≤ 5 := by decide +kernel
theorem c_coder (j : Nat) (hj : j < 16) : CtrS l w ad yJ0_coder_7d493 cJ0_coder_7d493 1 (some .byte) (rmN 0 0) 1 [.ref (ad.1 j)] σ (some (0, σ)) := by
  refine met_ofS (own := RJ0) (by decide) rfl rfl rfl (Nat.le_of_ble_eq_true rfl) (fun X x hXl hN hS hZ => ⟨[some (.ref (ad.1 j))], ⟨0, rfl⟩, ?_⟩)
  refine a_compact hS hZ dJ0_coder_7d493_0 flJ0_38 ?_
  rw [show (some ((0 : Int), σ)) = (if (1 : Int) = 0 then none else some ((0 : Int), σ)) from (if_neg n10).symm]
  refine a_ifeq hS (wl 1 rfl) (tgt := 13) dJ0_coder_7d493_3 (by decide) a_none ?_
  refine a_aload_nS hS dJ0_coder_7d493_6 rfl ?_
  refine a_scod hS hZ hj dJ0_coder_7d493_7 flJ0_15 ?_
  refine a_goto hS (tgt := 14) dJ0_coder_7d493_10 (by decide) ?_
  exact a_nret hS rfl rfl rfl dJ0_coder_7d493_14
theorem c_isLatin1 (j : Nat) (hj : j < 16) : CtrS l w ad yJ0_isLatin1_aae02 cJ0_isLatin1_aae02 1 (some .boolean) (rmN 0 0) 1 [.ref (ad.1 j)] σ (some (1, σ)) := by
  refine met_ofS (own := RJ0) (by decide) rfl rfl rfl (Nat.le_of_ble_eq_true rfl) (fun X x hXl hN hS hZ => ⟨[some (.ref (ad.1 j))], ⟨0, rfl⟩, ?_⟩)
  refine a_compact hS hZ dJ0_isLatin1_aae02_0 flJ0_38 ?_
  rw [show (some ((1 : Int), σ)) = (if (1 : Int) = 0 then none else (if (0 : Int) = 0 then some ((1 : Int), σ) else none)) from by rw [if_neg n10, if_pos rfl]]
  refine a_ifeq hS (wl 1 rfl) (tgt := 17) dJ0_isLatin1_aae02_3 (by decide) a_none ?_
  refine a_aload_nS hS dJ0_isLatin1_aae02_6 rfl ?_
  refine a_scod hS hZ hj dJ0_isLatin1_aae02_7 flJ0_15 ?_
  refine a_ifne hS (wl 0 rfl) (tgt := 17) dJ0_isLatin1_aae02_10 (by decide) a_none ?_
  refine a_iconst hS dJ0_isLatin1_aae02_13 ?_
  refine a_goto hS (tgt := 18) dJ0_isLatin1_aae02_14 (by decide) ?_
  exact a_zret hS (by decide) rfl rfl dJ0_isLatin1_aae02_18
theorem c_length (j : Nat) (hj : j < 16) : CtrS l w ad yJ0_length_8abf5 cJ0_length_8abf5 1 (some .int) (rmN 1 20) 1 [.ref (ad.1 j)] σ (some (slI j, σ)) := by
  refine met_ofS (own := RJ0) (by decide) rfl rfl rfl (Nat.le_of_ble_eq_true rfl) (fun X x hXl hN hS hZ => ⟨[some (.ref (ad.1 j))], ⟨0, rfl⟩, ?_⟩)
  refine a_aload_nS hS dJ0_length_8abf5_0 rfl ?_
  refine a_sval hS hZ hj dJ0_length_8abf5_1 flJ0_9 ?_
  refine a_salen hS hZ hj dJ0_length_8abf5_4 ?_
  refine a_aload_nS hS dJ0_length_8abf5_5 rfl ?_
  rw [show (some (slI j, σ)) = (some ((0 : Int), σ)).bind (fun _ => some (shrI (slI j) 0, σ)) from by rw [bnd_s, (sl_1 j hj).1]]
  refine a_callVx hS hZ (As := []) (rst := [iv (slI j)]) (c_coder j hj) hj miJ0_coder_7d493 mlJ0_335 rfl (Nat.le_of_ble_eq_true rfl) (Nat.le_of_ble_eq_true rfl) (Nat.le_of_ble_eq_true rfl) rfl dJ0_length_8abf5_6 (fun q hq => ?_)
  injection hq with hq
  subst hq
  refine a_ishr hS (a := slI j) (b := 0) dJ0_length_8abf5_9 ?_
  exact a_iret hS rfl rfl dJ0_length_8abf5_10
theorem c_pcheck (i n : Int) (v : Value) (hv : v.category = 1) : CtrS l w ad yJ3_checkIndex_8e157 cJ3_checkIndex_8e157 3 (some .int) (rmN 0 0) 1 [iv i, iv n, v] σ (if wr i < 0 then none else (if wr i < wr n then some (i, σ) else none)) := by
  have hsl : (lg_sl [iv i, iv n, v]).length ≤ 3 := by
    cases v with
    | long z => cases hv
    | double z => cases hv
    | _ => exact Nat.le_of_ble_eq_true rfl
  have hent : entL [iv i, iv n, v] = [some (iv i), some (iv n), some v] := by
    cases v with
    | long z => cases hv
    | double z => cases hv
    | _ => rfl
  refine met_ofS (own := RJ3) (by decide) rfl rfl rfl hsl (fun X x hXl hN hS hZ => ⟨[some (iv i), some (iv n), some v], ⟨0, by rw [hent]; rfl⟩, ?_⟩)
  refine a_iload_n hS dJ3_checkIndex_8e157_0 rfl ?_
  refine a_iflt hS rfl (tgt := 9) dJ3_checkIndex_8e157_1 (by decide) a_none ?_
  refine a_iload_n hS dJ3_checkIndex_8e157_4 rfl ?_
  refine a_iload_n hS dJ3_checkIndex_8e157_5 rfl ?_
  refine a_icmplt hS rfl rfl (tgt := 16) dJ3_checkIndex_8e157_6 (by decide) ?_ a_none
  refine a_iload_n hS dJ3_checkIndex_8e157_16 rfl ?_
  exact a_iret hS rfl rfl dJ3_checkIndex_8e157_17
theorem c_scheck (i n : Int) : CtrS l w ad yJ0_checkIndex_df160 cJ0_checkIndex_df160 2 none (rmN 1 22) 0 [iv i, iv n] σ ((if wr i < 0 then none else (if wr i < wr n then some (i, σ) else none)).bind fun q => some (0, q.2)) := by
  refine met_ofS (own := RJ0) (by decide) rfl rfl rfl (Nat.le_of_ble_eq_true rfl) (fun X x hXl hN hS hZ => ⟨[some (iv i), some (iv n)], ⟨0, rfl⟩, ?_⟩)
  refine a_iload_n hS dJ0_checkIndex_df160_0 rfl ?_
  refine a_iload_n hS dJ0_checkIndex_df160_1 rfl ?_
  refine a_formatter hS hZ dJ0_checkIndex_df160_2 flJ0_1053 (fun v hv => ?_)
  refine a_callSs hS hZ (As := [iv i, iv n, v]) (rst := []) (c_pcheck i n v hv) msJ3_checkIndex_8e157 mlJ0_1059 rfl (Nat.le_of_ble_eq_true rfl) (Nat.le_of_ble_eq_true rfl) (Nat.le_of_ble_eq_true rfl) rfl dJ0_checkIndex_df160_5 (fun q hq => ?_)
  refine a_pop hS rfl dJ0_checkIndex_df160_8 ?_
  exact a_vret hS rfl rfl dJ0_checkIndex_df160_9
theorem c_lcharAt (j : Nat) (hj : j < 16) (i : Int) (hi : 0 ≤ wr i ∧ wr i < slI j) : CtrS l w ad yJ1_charAt_3b067 cJ1_charAt_3b067 2 (some .char) (rmN 2 43) 1 [.ref (ad.2 j), iv i] σ (some (sbI j (wr i).toNat, σ)) := by
  have hb := sb_1 j hj (wr i).toNat (by have : slI j = ((sLn.getD j 0 : Nat) : Int) := rfl; omega)
  have hs := sl_1 j hj
  refine met_ofS (own := RJ1) (by decide) rfl rfl rfl (Nat.le_of_ble_eq_true rfl) (fun X x hXl hN hS hZ => ⟨[some (.ref (ad.2 j)), some (iv i)], ⟨0, rfl⟩, ?_⟩)
  refine a_iload_n hS dJ1_charAt_3b067_0 rfl ?_
  refine a_aload_nS hS dJ1_charAt_3b067_1 rfl ?_
  refine a_salen hS hZ hj dJ1_charAt_3b067_2 ?_
  have e : (some (sbI j (wr i).toNat, σ)) = ((if wr i < 0 then none else (if wr i < wr (slI j) then some (i, σ) else none)).bind fun q => some ((0 : Int), q.2)).bind (fun _ => some (i2cI (andI (sbI j (wr i).toNat) 255), σ)) := by
    rw [if_neg (by omega), wr_id (n := slI j) (by omega) (by omega), if_pos hi.2, bnd_s, bnd_s, hb.1]
  rw [e]
  refine a_callSs hS hZ (As := [iv i, iv (slI j)]) (rst := []) (c_scheck i (slI j)) msJ0_checkIndex_df160 mlJ1_9 rfl (Nat.le_of_ble_eq_true rfl) (Nat.le_of_ble_eq_true rfl) (Nat.le_of_ble_eq_true rfl) rfl dJ1_charAt_3b067_3 (fun q hq => ?_)
  have hq2 : q.2 = σ := by
    rw [if_neg (by omega), wr_id (n := slI j) (by omega) (by omega), if_pos hi.2, bnd_s] at hq
    injection hq with hq
    rw [← hq]
  rw [hq2]
  refine a_aload_nS hS dJ1_charAt_3b067_6 rfl ?_
  refine a_iload_n hS dJ1_charAt_3b067_7 rfl ?_
  refine a_sbald hS hZ hj hi dJ1_charAt_3b067_8 ?_
  refine a_sipush hS dJ1_charAt_3b067_9 rfl ?_
  refine a_iand hS dJ1_charAt_3b067_12 ?_
  refine a_i2c hS dJ1_charAt_3b067_13 ?_
  refine a_nret hS rfl rfl ?_ dJ1_charAt_3b067_14
  rw [hb.1]
  show Value.int ((I3 (sbI j (wr i).toNat)).toUInt32 % 65536).toInt32 = _
  rw [hb.2]
theorem c_charAt (j : Nat) (hj : j < 16) (i : Int) (hi : 0 ≤ wr i ∧ wr i < slI j) : CtrS l w ad yJ0_charAt_5068e cJ0_charAt_5068e 2 (some .char) (rmN 3 64) 1 [.ref (ad.1 j), iv i] σ (some (sbI j (wr i).toNat, σ)) := by
  have hb := sb_1 j hj (wr i).toNat (by have : slI j = ((sLn.getD j 0 : Nat) : Int) := rfl; omega)
  refine met_ofS (own := RJ0) (by decide) rfl rfl rfl (Nat.le_of_ble_eq_true rfl) (fun X x hXl hN hS hZ => ⟨[some (.ref (ad.1 j)), some (iv i)], ⟨0, rfl⟩, ?_⟩)
  refine a_aload_nS hS dJ0_charAt_5068e_0 rfl ?_
  rw [show (some (sbI j (wr i).toNat, σ)) = (some ((1 : Int), σ)).bind (fun _ => if (1 : Int) = 0 then none else (some (sbI j (wr i).toNat, σ)).bind (fun q => some (q.1, q.2))) from by rw [bnd_s, if_neg n10, bnd_s]]
  refine a_callVx hS hZ (As := []) (rst := []) (c_isLatin1 j hj) hj miJ0_isLatin1_aae02 mlJ0_492 rfl (Nat.le_of_ble_eq_true rfl) (Nat.le_of_ble_eq_true rfl) (Nat.le_of_ble_eq_true rfl) rfl dJ0_charAt_5068e_1 (fun q hq => ?_)
  injection hq with hq
  subst hq
  refine a_ifeq hS (wl 1 rfl) (tgt := 16) dJ0_charAt_5068e_4 (by decide) a_none ?_
  refine a_aload_nS hS dJ0_charAt_5068e_7 rfl ?_
  refine a_sval hS hZ hj dJ0_charAt_5068e_8 flJ0_9 ?_
  refine a_iload_n hS dJ0_charAt_5068e_11 rfl ?_
  refine a_callSs hS hZ (As := [.ref (ad.2 j), iv i]) (rst := []) (c_lcharAt j hj i hi) msJ1_charAt_3b067 mlJ0_495 rfl (Nat.le_of_ble_eq_true rfl) (Nat.le_of_ble_eq_true rfl) (Nat.le_of_ble_eq_true rfl) rfl dJ0_charAt_5068e_12 (fun q hq => ?_)
  injection hq with hq
  subst hq
  refine a_nret hS rfl rfl ?_ dJ0_charAt_5068e_15
  show Value.int ((I3 (sbI j (wr i).toNat)).toUInt32 % 65536).toInt32 = _
  rw [hb.2]
end SJDK
