/-! ===== calls, and a method's contract out of its walk ===== -/
section CALL
variable {X : Cx} {R : Room} {w : Wd} {rk : Nat} {x : Int × Mem} {pc : Nat} {L : List (Option Value)} {st : List Value} {σ : Mem} {E : Option (Int × Mem)} {cc : ByteArray} {own : String} {ret : Option FieldType}
theorem good_ws {y : MethodName} {c2 : ByteArray} {n2 : Nat} {r2 : Option FieldType} (h : Cond.code y c2 n2 r2 ∈ WL) : GoodIn WL (Cond.code y c2 n2 r2 :: WL) := by
  intro u hu
  rcases List.mem_cons.mp hu with rfl | hu
  · exact WL_good _ h
  · exact WL_good _ hu
theorem QcX_run {w : Wd} {rk : Nat} {x1 : Int × Mem} {p : Program} {l : Launch} {e : Env} {R : Room} {s : State} {m : MethodId} {args : Array Value} {below : List Frame} {meth : Method} {c : Code} {H : Heap} {locs : List Loc} {rest : List Value} {a : Array Value} {pc : Nat} {ls : Array Slot} {st0 : List Value} {A : Nat → Prop} {σ : Mem} {H0 : Heap} {Q : State → Prop}
    (hD : va_D A (wld w σ)) (hA : ∀ q, H0.size ≤ q → A q) (hr : va_Run p l e R s m args below meth c H locs 0 0 0 0 (F0 m pc ls st0) rest (QcX w rk x1 (va_A (wld w σ) H.size) a) (va_A (wld w σ) H.size)) (hV : va_S A H0 H locs)
    (kk : ∀ (H1 : Heap) (locs1 : List Loc), va_P w.1 vwCl (wld w x1.2) H1 → va_S A H0 H1 locs1 → W p l e R s m args below meth c H1 locs1 0 0 Q (F0 m (pc + 3) ls ((rvl w rk x1.1).toList ++ rest))) : W p l e R s m args below meth c H locs 0 0 Q (F0 m pc ls st0) := by
  have hF : ∀ q, va_A (wld w σ) H.size q → A q := by
    intro q h
    rcases h with ⟨k, e, h⟩ | h
    · exact hD.2 k _ h
    · exact hA q (Nat.le_trans hV.1 h)
  intro T hT X
  obtain ⟨v, st₀, t, T', LL, h0, X', hL, e1, e2, ⟨hv, hP1, hK1, hz, hk⟩, st⟩ := hr T hT X
  injection hv with hv
  subst hv
  rw [h0] at hz hk
  obtain ⟨t2, a1, b1⟩ := kk T'.heap (locs ++ LL) (by rw [e1]; exact hP1)
    ⟨Nat.le_trans hV.1 (by rw [e1]; exact hz), fun q h1 h2 => by rw [e1, hk q (Nat.lt_of_lt_of_le h1 hV.1) (fun z => h2 (hF q z))]; exact hV.2.1 q h1 h2, fun q hq => by
      rcases List.mem_append.mp hq with h | h
      · exact hV.2.2 q h
      · exact hF _ (hL q h)⟩ T' rfl X'
  exact ⟨t2, st t2 a1, b1⟩
/-- what a call of an instance method gives -/
theorem a_callV (hS : Std X R w cc own ret) {y : MethodName} {C : String} {c2 : ByteArray} {n2 n index o ci rk2 f lo : Nat} {r2 : Option FieldType} {ks : List (Nat ⊕ Nat)} {E1 : Option (Int × Mem)} {F : Int × Mem → Option (Int × Mem)} {As rst : List Value}
    (hC : Ctr X.2.1 w y c2 n2 r2 (rmN f lo) rk2 (rf w o :: As) σ E1) (hm : MI C y c2 n2 r2 n) (hl2 : Cond.methodLink own index y ∈ WL) (hsh : (shp w)[o]? = some (.inr (.inr (ci, ks)))) (hci : (vwCl[ci]?).map (fun q => q.1) = some C)
    (hn : As.length = n) (hf : f + 1 ≤ R.frames) (hlo : 8 + (n2 + 11) + lo ≤ R.locals) (hrst : (rst.map fun v => v.category).sum ≤ 8) (hst : As.reverse ++ rf w o :: rst = st) (hd : decode cc pc = .ok (.invokevirtual index, 3))
    (kk : ∀ q : Int × Mem, E1 = some q → Sm X R w rk x (pc + 3) L ((rvl w rk2 q.1).toList ++ rst) q.2 (F q)) : Sm X R w rk x pc L st σ (E1.bind F) := by
  obtain ⟨p, l, e, s, m, args, below, meth, c, A, nL⟩ := X
  obtain ⟨hx, hb, hml, hown, hts, hK, hD, hA, hr, hlk, hrc, hrs, hnst⟩ := hS
  intro h H locs ls hP hV hl
  cases hE : E1 with
  | none => rw [hE] at h; cases h
  | some x1 =>
    rw [hE] at h
    have h : F x1 = some x := h
    obtain ⟨m1, m2, m3, m4, m5, m6, m7, m8⟩ := hm
    cases hq : vwCl[ci]? with
    | none => rw [hq] at hci; cases hci
    | some qc =>
      rw [hq] at hci
      have hqc : qc.1 = C := Option.some.inj hci
      have hM := hC x1 H.size hE
      have he := wld_get (σ := σ) hsh
      subst hst
      refine QcX_run (hD σ) hA (va_runV (As := As) (b := w.2.1 o) (rest := rst) ⟨hx, hb, hml, hown, hts⟩ hM ⟨callB_of n hts (good_ws m4) rfl rfl rfl (hts _ (by rw [m5]; exact m3)) (hts _ hl2) ⟨m6, m7, m8⟩ ⟨hf, hlo⟩, hts _ m1, hts _ m2⟩ ⟨PcX_blind w _ σ _, by rw [← hqc]; exact va_recv hK hP hq he, fun U hU hW => ⟨rfl, by rw [hU], by rw [hU]; exact hP, va_K.moved hW.alike hK, (hD σ).weaken (fun _ _ _ _ => trivial), hnst.warm hW⟩⟩ rfl hn hl.1 rfl (by show 2 * 0 + _ ≤ 8; omega) hd ⟨Nat.zero_le _, Nat.zero_le _⟩) hV (fun H1 locs1 hP1 hV1 => ?_)
      exact kk x1 hE h H1 locs1 ls hP1 hV1 hl
theorem a_callS (hS : Std X R w cc own ret) {y : MethodName} {c2 : ByteArray} {n2 n index rk2 f lo : Nat} {r2 : Option FieldType} {E1 : Option (Int × Mem)} {F : Int × Mem → Option (Int × Mem)} {As rst : List Value}
    (hC : Ctr X.2.1 w y c2 n2 r2 (rmN f lo) rk2 As σ E1) (hm : MS y c2 n2 r2 n) (hl2 : Cond.methodLink own index y ∈ WL)
    (hn : As.length = n) (hf : f + 1 ≤ R.frames) (hlo : 8 + (n2 + 11) + lo ≤ R.locals) (hrst : (rst.map fun v => v.category).sum ≤ 8) (hst : As.reverse ++ rst = st) (hd : decode cc pc = .ok (.invokestatic index, 3))
    (kk : ∀ q : Int × Mem, E1 = some q → Sm X R w rk x (pc + 3) L ((rvl w rk2 q.1).toList ++ rst) q.2 (F q)) : Sm X R w rk x pc L st σ (E1.bind F) := by
  obtain ⟨p, l, e, s, m, args, below, meth, c, A, nL⟩ := X
  obtain ⟨hx, hb, hml, hown, hts, hK, hD, hA, hr, hlk, hrc, hrs, hnst⟩ := hS
  intro h H locs ls hP hV hl
  cases hE : E1 with
  | none => rw [hE] at h; cases h
  | some x1 =>
    rw [hE] at h
    have h : F x1 = some x := h
    obtain ⟨m1, m3, m4, m6, m7, m8⟩ := hm
    have hM := hC x1 H.size hE
    subst hst
    refine QcX_run (hD σ) hA (va_runS (As := As) (rest := rst) ⟨hx, hb, hml, hown, hts⟩ hM ⟨callB_of n hts (good_ws m4) rfl rfl rfl (hts _ m3) (hts _ hl2) ⟨m6, m7, m8⟩ ⟨hf, hlo⟩, hts _ m1⟩ ⟨PcX_blind w _ σ _, fun U hU hW => ⟨rfl, by rw [hU], by rw [hU]; exact hP, va_K.moved hW.alike hK, (hD σ).weaken (fun _ _ _ _ => trivial), hnst.warm hW⟩⟩ rfl hn hl.1 rfl (by show 2 * 0 + _ ≤ 8; omega) hd ⟨Nat.zero_le _, Nat.zero_le _⟩) hV (fun H1 locs1 hP1 hV1 => ?_)
    exact kk x1 hE h H1 locs1 ls hP1 hV1 hl
theorem a_callSN (hS : Std X R w cc own ret) {y : MethodName} {c2 : ByteArray} {n2 n index rk2 f lo : Nat} {r2 : Option FieldType} {E1 : Option (Int × Mem)} {F : Int × Mem → Option (Int × Mem)} {As rst : List Value}
    (hC : Ctr X.2.1 w y c2 n2 r2 (rmN f lo) rk2 As σ E1) (hm : MS y c2 n2 r2 n) (hl2 : (own, index, y) ∈ NW)
    (hn : As.length = n) (hf : f + 1 ≤ R.frames) (hlo : 8 + (n2 + 11) + lo ≤ R.locals) (hrst : (rst.map fun v => v.category).sum ≤ 8) (hst : As.reverse ++ rst = st) (hd : decode cc pc = .ok (.invokestatic index, 3))
    (kk : ∀ q : Int × Mem, E1 = some q → Sm X R w rk x (pc + 3) L ((rvl w rk2 q.1).toList ++ rst) q.2 (F q)) : Sm X R w rk x pc L st σ (E1.bind F) := by
  obtain ⟨p, l, e, s, m, args, below, meth, c, A, nL⟩ := X
  obtain ⟨hx, hb, hml, hown, hts, hK, hD, hA, hr, hlk, hrc, hrs, hnst⟩ := hS
  intro h H locs ls hP hV hl
  cases hE : E1 with
  | none => rw [hE] at h; cases h
  | some x1 =>
    rw [hE] at h
    have h : F x1 = some x := h
    obtain ⟨m1, m3, m4, m6, m7, m8⟩ := hm
    have hM := hC x1 H.size hE
    subst hst
    refine QcX_run (hD σ) hA (va_runSN (host := "AutoIndenter") (As := As) (rest := rst) ⟨hx, hb, hml, hown, hts⟩ hM ⟨va_cnB n hts (good_ws m4) rfl rfl rfl (hnst _ hl2) (hts _ m3) ⟨m6, m7, m8⟩ ⟨hf, hlo⟩, hts _ m1, trivial⟩ ⟨PcX_blind w _ σ _, fun U hU hW => ⟨rfl, by rw [hU], by rw [hU]; exact hP, va_K.moved hW.alike hK, (hD σ).weaken (fun _ _ _ _ => trivial), hnst.warm hW⟩⟩ rfl hn hl.1 rfl (by show 2 * 0 + _ ≤ 8; omega) hd ⟨Nat.zero_le _, Nat.zero_le _⟩) hV (fun H1 locs1 hP1 hV1 => ?_)
    exact kk x1 hE h H1 locs1 ls hP1 hV1 hl
end CALL
/-- the locals at a method's entry -/
def entL : List Value → List (Option Value)
  | [] => []
  | v :: vs => if v.category = 2 then some v :: none :: entL vs else some v :: entL vs
theorem entL_mem : ∀ (vs : List Value) (b i : Nat) (v : Value), (entL vs)[i]? = some (some v) → (b + i, v) ∈ lv_args b vs
  | [], b, i, v, h => by simp [entL] at h
  | u :: vs, b, i, v, h => by
    by_cases hc : u.category = 2
    · simp only [entL, hc, if_true] at h
      simp only [lv_args, hc, if_true]
      match i, h with
      | 0, h => simp at h; subst h; exact List.mem_cons_self
      | 1, h => simp at h
      | i + 2, h =>
        simp at h
        have := entL_mem vs (b + 2) i v h
        refine List.mem_cons_of_mem _ ?_
        rw [show b + (i + 2) = b + 2 + i by omega]
        exact this
    · simp only [entL, hc, if_false] at h
      simp only [lv_args, hc, if_false]
      match i, h with
      | 0, h => simp at h; subst h; exact List.mem_cons_self
      | i + 1, h =>
        simp at h
        have := entL_mem vs (b + 1) i v h
        refine List.mem_cons_of_mem _ ?_
        rw [show b + (i + 1) = b + 1 + i by omega]
        exact this
theorem met_of {l : Launch} {w : Wd} {y : MethodName} {cc : ByteArray} {nL : Nat} {ret : Option FieldType} {R : Room} {rk : Nat} {av : List Value} {σ : Mem} {E : Option (Int × Mem)} {own : String}
    (hy : plainName y.cls = true) (ho : y.cls = own) (hrc : R.cells = 0) (hrs : R.slots = 0) (hn : (lg_sl av).length ≤ nL)
    (body : ∀ (X : Cx) (x : Int × Mem), X.2.1 = l → cxn X = nL → Std X R w cc own ret → ∃ L, (∃ k, L = entL av ++ List.replicate k none) ∧ Sm X R w rk x 0 L [] σ E) : Ctr l w y cc nL ret R rk av σ E := by
  intro x sz hE
  refine Met.ofW (cc := cc) (maxL := nL) (ret := ret) hy rfl ?_
  intro p e s m args below meth c s₁ B hml hv
  obtain ⟨rfl, hsz, hP, hK, hD0, hnst⟩ := hv
  have hts := atoms_spec (ws := (Cond.code y cc nL ret :: WL)) B.pre
  have hown : s.vm.findClass own = some m.cls := by rw [← ho]; exact findClass_of_methodNamed B.named
  subst hsz
  have hD : va_D (va_A (wld w σ) s.heap.size) (wld w σ) := hD0.self
  obtain ⟨L, ⟨k, rfl⟩, K⟩ := body (p, l, e, s, m, av.toArray, below, meth, c, va_A (wld w σ) s.heap.size, nL) x rfl rfl ⟨B.exec, B.bytes, hml, hown, fun u hu => hts u (List.mem_cons_of_mem _ hu), hK, fun σ' => wld_D hD, fun q h => Or.inr h, B.returns, B.notSynchronized, hrc, hrs, hnst⟩
  have hl := lv_entry av (n := nL) hn
  rw [lg_entry_eq]
  refine K hE s.heap [] _ hP va_S.rf ⟨hl.1, hl.2.1, fun i v hi => ?_⟩
  have hi2 : (entL av)[i]? = some (some v) := by
    rw [List.getElem?_append] at hi
    split at hi
    · exact hi
    · rw [List.getElem?_replicate] at hi
      split at hi <;> cases hi
  have := entL_mem av 0 i v hi2
  rw [Nat.zero_add] at this
  exact hl.2.2 _ this
section CALL2
variable {X : Cx} {R : Room} {w : Wd} {rk : Nat} {x : Int × Mem} {pc : Nat} {L : List (Option Value)} {st : List Value} {σ : Mem} {cc : ByteArray} {own : String} {ret : Option FieldType}
  {y : MethodName} {C : String} {c2 : ByteArray} {n2 n index o ci f lo : Nat} {r2 : Option FieldType} {ks : List (Nat ⊕ Nat)} {E1 : Option (Int × Mem)} {F F2 : Int × Mem → Option (Int × Mem)} {As rst : List Value}
theorem a_callVv (hS : Std X R w cc own ret) (hC : Ctr X.2.1 w y c2 n2 r2 (rmN f lo) 0 (rf w o :: As) σ E1) (hm : MI C y c2 n2 r2 n) (hl2 : Cond.methodLink own index y ∈ WL) (hsh : (shp w)[o]? = some (.inr (.inr (ci, ks)))) (hci : (vwCl[ci]?).map (fun q => q.1) = some C)
    (hn : As.length = n) (hf : f + 1 ≤ R.frames) (hlo : 8 + (n2 + 11) + lo ≤ R.locals) (hrst : (rst.map fun v => v.category).sum ≤ 8) (hst : As.reverse ++ rf w o :: rst = st) (hd : decode cc pc = .ok (.invokevirtual index, 3))
    (kk : ∀ q : Int × Mem, Sm X R w rk x (pc + 3) L rst q.2 (F q)) : Sm X R w rk x pc L st σ (E1.bind F) := a_callV hS hC hm hl2 hsh hci hn hf hlo hrst hst hd (fun q _ => kk q)
theorem a_callVi (hS : Std X R w cc own ret) (hC : Ctr X.2.1 w y c2 n2 r2 (rmN f lo) 1 (rf w o :: As) σ E1) (hm : MI C y c2 n2 r2 n) (hl2 : Cond.methodLink own index y ∈ WL) (hsh : (shp w)[o]? = some (.inr (.inr (ci, ks)))) (hci : (vwCl[ci]?).map (fun q => q.1) = some C)
    (hn : As.length = n) (hf : f + 1 ≤ R.frames) (hlo : 8 + (n2 + 11) + lo ≤ R.locals) (hrst : (rst.map fun v => v.category).sum ≤ 8) (hst : As.reverse ++ rf w o :: rst = st) (hd : decode cc pc = .ok (.invokevirtual index, 3))
    (kk : ∀ q : Int × Mem, Sm X R w rk x (pc + 3) L (iv q.1 :: rst) q.2 (F q)) : Sm X R w rk x pc L st σ (E1.bind F) := a_callV hS hC hm hl2 hsh hci hn hf hlo hrst hst hd (fun q _ => kk q)
theorem a_callVj (hS : Std X R w cc own ret) (hC : Ctr X.2.1 w y c2 n2 r2 (rmN f lo) 2 (rf w o :: As) σ E1) (hm : MI C y c2 n2 r2 n) (hl2 : Cond.methodLink own index y ∈ WL) (hsh : (shp w)[o]? = some (.inr (.inr (ci, ks)))) (hci : (vwCl[ci]?).map (fun q => q.1) = some C)
    (hn : As.length = n) (hf : f + 1 ≤ R.frames) (hlo : 8 + (n2 + 11) + lo ≤ R.locals) (hrst : (rst.map fun v => v.category).sum ≤ 8) (hst : As.reverse ++ rf w o :: rst = st) (hd : decode cc pc = .ok (.invokevirtual index, 3))
    (kk : ∀ q : Int × Mem, Sm X R w rk x (pc + 3) L (jv q.1 :: rst) q.2 (F q)) : Sm X R w rk x pc L st σ (E1.bind F) := a_callV hS hC hm hl2 hsh hci hn hf hlo hrst hst hd (fun q _ => kk q)
theorem a_callVr (hS : Std X R w cc own ret) (hC : Ctr X.2.1 w y c2 n2 r2 (rmN f lo) 3 (rf w o :: As) σ E1) (hm : MI C y c2 n2 r2 n) (hl2 : Cond.methodLink own index y ∈ WL) (hsh : (shp w)[o]? = some (.inr (.inr (ci, ks)))) (hci : (vwCl[ci]?).map (fun q => q.1) = some C)
    (hn : As.length = n) (hf : f + 1 ≤ R.frames) (hlo : 8 + (n2 + 11) + lo ≤ R.locals) (hrst : (rst.map fun v => v.category).sum ≤ 8) (hst : As.reverse ++ rf w o :: rst = st) (hd : decode cc pc = .ok (.invokevirtual index, 3))
    (k1 : ∀ q : Int × Mem, Sm X R w rk x (pc + 3) L (.null :: rst) q.2 (F q)) (k2 : ∀ q : Int × Mem, Sm X R w rk x (pc + 3) L (rf w q.1.toNat :: rst) q.2 (F2 q)) : Sm X R w rk x pc L st σ (E1.bind (fun q => if q.1 < 0 then F q else F2 q)) := by
  refine a_callV hS hC hm hl2 hsh hci hn hf hlo hrst hst hd (fun q _ => ?_)
  by_cases h : q.1 < 0
  · rw [if_pos h]
    have e : (rvl w 3 q.1).toList ++ rst = .null :: rst := by simp [rvl, h]
    rw [e]; exact k1 q
  · rw [if_neg h]
    have e : (rvl w 3 q.1).toList ++ rst = rf w q.1.toNat :: rst := by simp [rvl, h]
    rw [e]; exact k2 q
theorem a_callSv (hS : Std X R w cc own ret) (hC : Ctr X.2.1 w y c2 n2 r2 (rmN f lo) 0 As σ E1) (hm : MS y c2 n2 r2 n) (hl2 : Cond.methodLink own index y ∈ WL)
    (hn : As.length = n) (hf : f + 1 ≤ R.frames) (hlo : 8 + (n2 + 11) + lo ≤ R.locals) (hrst : (rst.map fun v => v.category).sum ≤ 8) (hst : As.reverse ++ rst = st) (hd : decode cc pc = .ok (.invokestatic index, 3))
    (kk : ∀ q : Int × Mem, Sm X R w rk x (pc + 3) L rst q.2 (F q)) : Sm X R w rk x pc L st σ (E1.bind F) := a_callS hS hC hm hl2 hn hf hlo hrst hst hd (fun q _ => kk q)
theorem a_callSi (hS : Std X R w cc own ret) (hC : Ctr X.2.1 w y c2 n2 r2 (rmN f lo) 1 As σ E1) (hm : MS y c2 n2 r2 n) (hl2 : Cond.methodLink own index y ∈ WL)
    (hn : As.length = n) (hf : f + 1 ≤ R.frames) (hlo : 8 + (n2 + 11) + lo ≤ R.locals) (hrst : (rst.map fun v => v.category).sum ≤ 8) (hst : As.reverse ++ rst = st) (hd : decode cc pc = .ok (.invokestatic index, 3))
    (kk : ∀ q : Int × Mem, Sm X R w rk x (pc + 3) L (iv q.1 :: rst) q.2 (F q)) : Sm X R w rk x pc L st σ (E1.bind F) := a_callS hS hC hm hl2 hn hf hlo hrst hst hd (fun q _ => kk q)
theorem a_callSj (hS : Std X R w cc own ret) (hC : Ctr X.2.1 w y c2 n2 r2 (rmN f lo) 2 As σ E1) (hm : MS y c2 n2 r2 n) (hl2 : Cond.methodLink own index y ∈ WL)
    (hn : As.length = n) (hf : f + 1 ≤ R.frames) (hlo : 8 + (n2 + 11) + lo ≤ R.locals) (hrst : (rst.map fun v => v.category).sum ≤ 8) (hst : As.reverse ++ rst = st) (hd : decode cc pc = .ok (.invokestatic index, 3))
    (kk : ∀ q : Int × Mem, Sm X R w rk x (pc + 3) L (jv q.1 :: rst) q.2 (F q)) : Sm X R w rk x pc L st σ (E1.bind F) := a_callS hS hC hm hl2 hn hf hlo hrst hst hd (fun q _ => kk q)
theorem a_callSNi (hS : Std X R w cc own ret) (hC : Ctr X.2.1 w y c2 n2 r2 (rmN f lo) 1 As σ E1) (hm : MS y c2 n2 r2 n) (hl2 : (own, index, y) ∈ NW)
    (hn : As.length = n) (hf : f + 1 ≤ R.frames) (hlo : 8 + (n2 + 11) + lo ≤ R.locals) (hrst : (rst.map fun v => v.category).sum ≤ 8) (hst : As.reverse ++ rst = st) (hd : decode cc pc = .ok (.invokestatic index, 3))
    (kk : ∀ q : Int × Mem, Sm X R w rk x (pc + 3) L (iv q.1 :: rst) q.2 (F q)) : Sm X R w rk x pc L st σ (E1.bind F) := a_callSN hS hC hm hl2 hn hf hlo hrst hst hd (fun q _ => kk q)
theorem a_callSNj (hS : Std X R w cc own ret) (hC : Ctr X.2.1 w y c2 n2 r2 (rmN f lo) 2 As σ E1) (hm : MS y c2 n2 r2 n) (hl2 : (own, index, y) ∈ NW)
    (hn : As.length = n) (hf : f + 1 ≤ R.frames) (hlo : 8 + (n2 + 11) + lo ≤ R.locals) (hrst : (rst.map fun v => v.category).sum ≤ 8) (hst : As.reverse ++ rst = st) (hd : decode cc pc = .ok (.invokestatic index, 3))
    (kk : ∀ q : Int × Mem, Sm X R w rk x (pc + 3) L (jv q.1 :: rst) q.2 (F q)) : Sm X R w rk x pc L st σ (E1.bind F) := a_callSN hS hC hm hl2 hn hf hlo hrst hst hd (fun q _ => kk q)
end CALL2
