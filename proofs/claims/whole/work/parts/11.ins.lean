/-! ===== an instruction, a row ===== -/
section INS
variable {X : Cx} {R : Room} {w : Wd} {rk : Nat} {x : Int × Mem} {pc : Nat} {L : List (Option Value)} {st : List Value} {σ : Mem} {E E1 E2 : Option (Int × Mem)} {cc : ByteArray} {own : String} {ret : Option FieldType}
theorem a_none : Sm X R w rk x pc L st σ none := by
  obtain ⟨p, l, e, s, m, args, below, meth, c, A, nX⟩ := X
  intro h; cases h
theorem a_iconst (hS : Std X R w cc own ret) {n : Int} (hd : decode cc pc = .ok (.iconst n, 1)) (k : Sm X R w rk x (pc + 1) L (iv n :: st) σ E) : Sm X R w rk x pc L st σ E := by
  obtain ⟨p, l, e, s, m, args, below, meth, c, A, nX⟩ := X
  obtain ⟨hx, hb, hml, hown, hts, hK, hD, hA, hr, hlk, hrc, hrs⟩ := hS
  intro h H locs ls hP hV hl
  exact lv_iconst hx hb hd rfl (k h H locs ls hP hV hl)
theorem a_bipush (hS : Std X R w cc own ret) {n : Int} (hd : decode cc pc = .ok (.bipush n, 2)) (hn : (Int8.ofInt n).toInt32 = I3 n) (k : Sm X R w rk x (pc + 2) L (iv n :: st) σ E) : Sm X R w rk x pc L st σ E := by
  obtain ⟨p, l, e, s, m, args, below, meth, c, A, nX⟩ := X
  obtain ⟨hx, hb, hml, hown, hts, hK, hD, hA, hr, hlk, hrc, hrs⟩ := hS
  intro h H locs ls hP hV hl
  exact lv_bipush hx hb hd hn (k h H locs ls hP hV hl)
theorem a_sipush (hS : Std X R w cc own ret) {n : Int} (hd : decode cc pc = .ok (.sipush n, 3)) (hn : (Int16.ofInt n).toInt32 = I3 n) (k : Sm X R w rk x (pc + 3) L (iv n :: st) σ E) : Sm X R w rk x pc L st σ E := by
  obtain ⟨p, l, e, s, m, args, below, meth, c, A, nX⟩ := X
  obtain ⟨hx, hb, hml, hown, hts, hK, hD, hA, hr, hlk, hrc, hrs⟩ := hS
  intro h H locs ls hP hV hl
  exact lv_sipush hx hb hd hn (k h H locs ls hP hV hl)
theorem a_ldc (hS : Std X R w cc own ret) {n : Int} {index : Nat} {v : Int32} (hd : decode cc pc = .ok (.ldc index, 2)) (hm : Cond.constant own index v ∈ WL) (hn : v = I3 n) (k : Sm X R w rk x (pc + 2) L (iv n :: st) σ E) : Sm X R w rk x pc L st σ E := by
  obtain ⟨p, l, e, s, m, args, below, meth, c, A, nX⟩ := X
  obtain ⟨hx, hb, hml, hown, hts, hK, hD, hA, hr, hlk, hrc, hrs⟩ := hS
  intro h H locs ls hP hV hl
  subst hn
  exact lv_ldc hx hb hown (hts _ hm) hd (k h H locs ls hP hV hl)
theorem a_ldcw (hS : Std X R w cc own ret) {n : Int} {index : Nat} {v : Int32} (hd : decode cc pc = .ok (.ldc_w index, 3)) (hm : Cond.constant own index v ∈ WL) (hn : v = I3 n) (k : Sm X R w rk x (pc + 3) L (iv n :: st) σ E) : Sm X R w rk x pc L st σ E := by
  obtain ⟨p, l, e, s, m, args, below, meth, c, A, nX⟩ := X
  obtain ⟨hx, hb, hml, hown, hts, hK, hD, hA, hr, hlk, hrc, hrs⟩ := hS
  intro h H locs ls hP hV hl
  subst hn
  exact lv_ldcw hx hb hown (hts _ hm) hd (k h H locs ls hP hV hl)
theorem a_ldc2 (hS : Std X R w cc own ret) {n : Int} {index : Nat} {v : Int64} (hd : decode cc pc = .ok (.ldc2_w index, 3)) (hm : Cond.constantLong own index v ∈ WL) (hn : v = I6 n) (k : Sm X R w rk x (pc + 3) L (jv n :: st) σ E) : Sm X R w rk x pc L st σ E := by
  obtain ⟨p, l, e, s, m, args, below, meth, c, A, nX⟩ := X
  obtain ⟨hx, hb, hml, hown, hts, hK, hD, hA, hr, hlk, hrc, hrs⟩ := hS
  intro h H locs ls hP hV hl
  subst hn
  exact lv_ldc2 hx hb hown (hts _ hm) hd (k h H locs ls hP hV hl)
theorem a_iload (hS : Std X R w cc own ret) {i : Nat} {n : Int} (hd : decode cc pc = .ok (.iload i, 2)) (hi : L[i]? = some (some (iv n))) (k : Sm X R w rk x (pc + 2) L (iv n :: st) σ E) : Sm X R w rk x pc L st σ E := by
  obtain ⟨p, l, e, s, m, args, below, meth, c, A, nX⟩ := X
  obtain ⟨hx, hb, hml, hown, hts, hK, hD, hA, hr, hlk, hrc, hrs⟩ := hS
  intro h H locs ls hP hV hl
  exact lv_iload hx hb hd (hl.2.2 i _ hi) (k h H locs ls hP hV hl)
theorem a_iload_n (hS : Std X R w cc own ret) {j : Fin 4} {n : Int} (hd : decode cc pc = .ok (.iload_n j, 1)) (hi : L[j.val]? = some (some (iv n))) (k : Sm X R w rk x (pc + 1) L (iv n :: st) σ E) : Sm X R w rk x pc L st σ E := by
  obtain ⟨p, l, e, s, m, args, below, meth, c, A, nX⟩ := X
  obtain ⟨hx, hb, hml, hown, hts, hK, hD, hA, hr, hlk, hrc, hrs⟩ := hS
  intro h H locs ls hP hV hl
  exact lv_iload_n hx hb hd rfl (hl.2.2 _ _ hi) (k h H locs ls hP hV hl)
theorem a_lload (hS : Std X R w cc own ret) {i : Nat} {n : Int} (hd : decode cc pc = .ok (.lload i, 2)) (hi : L[i]? = some (some (jv n))) (k : Sm X R w rk x (pc + 2) L (jv n :: st) σ E) : Sm X R w rk x pc L st σ E := by
  obtain ⟨p, l, e, s, m, args, below, meth, c, A, nX⟩ := X
  obtain ⟨hx, hb, hml, hown, hts, hK, hD, hA, hr, hlk, hrc, hrs⟩ := hS
  intro h H locs ls hP hV hl
  exact lv_lload hx hb hd (hl.2.2 i _ hi) (k h H locs ls hP hV hl)
theorem a_lload_n (hS : Std X R w cc own ret) {j : Fin 4} {n : Int} (hd : decode cc pc = .ok (.lload_n j, 1)) (hi : L[j.val]? = some (some (jv n))) (k : Sm X R w rk x (pc + 1) L (jv n :: st) σ E) : Sm X R w rk x pc L st σ E := by
  obtain ⟨p, l, e, s, m, args, below, meth, c, A, nX⟩ := X
  obtain ⟨hx, hb, hml, hown, hts, hK, hD, hA, hr, hlk, hrc, hrs⟩ := hS
  intro h H locs ls hP hV hl
  exact lv_lload_n hx hb hd rfl (hl.2.2 _ _ hi) (k h H locs ls hP hV hl)
theorem a_aload (hS : Std X R w cc own ret) {i o : Nat} (hd : decode cc pc = .ok (.aload i, 2)) (hi : L[i]? = some (some (rf w o))) (k : Sm X R w rk x (pc + 2) L (rf w o :: st) σ E) : Sm X R w rk x pc L st σ E := by
  obtain ⟨p, l, e, s, m, args, below, meth, c, A, nX⟩ := X
  obtain ⟨hx, hb, hml, hown, hts, hK, hD, hA, hr, hlk, hrc, hrs⟩ := hS
  intro h H locs ls hP hV hl
  exact lv_aload hx hb hd (hl.2.2 i _ hi) (k h H locs ls hP hV hl)
theorem a_aload_n (hS : Std X R w cc own ret) {j : Fin 4} {o : Nat} (hd : decode cc pc = .ok (.aload_n j, 1)) (hi : L[j.val]? = some (some (rf w o))) (k : Sm X R w rk x (pc + 1) L (rf w o :: st) σ E) : Sm X R w rk x pc L st σ E := by
  obtain ⟨p, l, e, s, m, args, below, meth, c, A, nX⟩ := X
  obtain ⟨hx, hb, hml, hown, hts, hK, hD, hA, hr, hlk, hrc, hrs⟩ := hS
  intro h H locs ls hP hV hl
  exact lv_aload_n hx hb hd rfl (hl.2.2 _ _ hi) (k h H locs ls hP hV hl)
theorem a_aload_nN (hS : Std X R w cc own ret) {j : Fin 4} (hd : decode cc pc = .ok (.aload_n j, 1)) (hi : L[j.val]? = some (some .null)) (k : Sm X R w rk x (pc + 1) L (.null :: st) σ E) : Sm X R w rk x pc L st σ E := by
  obtain ⟨p, l, e, s, m, args, below, meth, c, A, nX⟩ := X
  obtain ⟨hx, hb, hml, hown, hts, hK, hD, hA, hr, hlk, hrc, hrs⟩ := hS
  intro h H locs ls hP hV hl
  exact lv_aload_nN hx hb hd rfl (hl.2.2 _ _ hi) (k h H locs ls hP hV hl)
theorem a_istore (hS : Std X R w cc own ret) {i : Nat} {n : Int} {L' : List (Option Value)} (hd : decode cc pc = .ok (.istore i, 2)) {nL : Nat} (hN : cxn X = nL) (hn : i < nL) (hp : prv L i = true) (hL : L.set i (some (iv n)) = L') (k : Sm X R w rk x (pc + 2) L' st σ E) : Sm X R w rk x pc L (iv n :: st) σ E := by
  obtain ⟨p, l, e, s, m, args, below, meth, c, A, nX⟩ := X
  obtain ⟨hx, hb, hml, hown, hts, hK, hD, hA, hr, hlk, hrc, hrs⟩ := hS
  intro h H locs ls hP hV hl
  subst hL; subst hN
  exact lv_istore hx hb hd (lvh_has hl) hn rfl (fun ls' hl' => k h H locs ls' hP hV (lvh_st1 hl' hp))
theorem a_istore_n (hS : Std X R w cc own ret) {j : Fin 4} {n : Int} {L' : List (Option Value)} (hd : decode cc pc = .ok (.istore_n j, 1)) {nL : Nat} (hN : cxn X = nL) (hn : j.val < nL) (hp : prv L j.val = true) (hL : L.set j.val (some (iv n)) = L') (k : Sm X R w rk x (pc + 1) L' st σ E) : Sm X R w rk x pc L (iv n :: st) σ E := by
  obtain ⟨p, l, e, s, m, args, below, meth, c, A, nX⟩ := X
  obtain ⟨hx, hb, hml, hown, hts, hK, hD, hA, hr, hlk, hrc, hrs⟩ := hS
  intro h H locs ls hP hV hl
  subst hL; subst hN
  exact lv_istore_n hx hb hd rfl (lvh_has hl) hn rfl (fun ls' hl' => k h H locs ls' hP hV (lvh_st1 hl' hp))
theorem a_astore (hS : Std X R w cc own ret) {i o : Nat} {L' : List (Option Value)} (hd : decode cc pc = .ok (.astore i, 2)) {nL : Nat} (hN : cxn X = nL) (hn : i < nL) (hp : prv L i = true) (hL : L.set i (some (rf w o)) = L') (k : Sm X R w rk x (pc + 2) L' st σ E) : Sm X R w rk x pc L (rf w o :: st) σ E := by
  obtain ⟨p, l, e, s, m, args, below, meth, c, A, nX⟩ := X
  obtain ⟨hx, hb, hml, hown, hts, hK, hD, hA, hr, hlk, hrc, hrs⟩ := hS
  intro h H locs ls hP hV hl
  subst hL; subst hN
  exact lv_astore hx hb hd (lvh_has hl) hn rfl (fun ls' hl' => k h H locs ls' hP hV (lvh_st1 hl' hp))
theorem a_astore_n (hS : Std X R w cc own ret) {j : Fin 4} {o : Nat} {L' : List (Option Value)} (hd : decode cc pc = .ok (.astore_n j, 1)) {nL : Nat} (hN : cxn X = nL) (hn : j.val < nL) (hp : prv L j.val = true) (hL : L.set j.val (some (rf w o)) = L') (k : Sm X R w rk x (pc + 1) L' st σ E) : Sm X R w rk x pc L (rf w o :: st) σ E := by
  obtain ⟨p, l, e, s, m, args, below, meth, c, A, nX⟩ := X
  obtain ⟨hx, hb, hml, hown, hts, hK, hD, hA, hr, hlk, hrc, hrs⟩ := hS
  intro h H locs ls hP hV hl
  subst hL; subst hN
  exact lv_astore_n hx hb hd rfl (lvh_has hl) hn rfl (fun ls' hl' => k h H locs ls' hP hV (lvh_st1 hl' hp))
theorem a_astore_nN (hS : Std X R w cc own ret) {j : Fin 4} {L' : List (Option Value)} (hd : decode cc pc = .ok (.astore_n j, 1)) {nL : Nat} (hN : cxn X = nL) (hn : j.val < nL) (hp : prv L j.val = true) (hL : L.set j.val (some .null) = L') (k : Sm X R w rk x (pc + 1) L' st σ E) : Sm X R w rk x pc L (.null :: st) σ E := by
  obtain ⟨p, l, e, s, m, args, below, meth, c, A, nX⟩ := X
  obtain ⟨hx, hb, hml, hown, hts, hK, hD, hA, hr, hlk, hrc, hrs⟩ := hS
  intro h H locs ls hP hV hl
  subst hL; subst hN
  exact lv_astore_nN hx hb hd rfl (lvh_has hl) hn rfl (fun ls' hl' => k h H locs ls' hP hV (lvh_st1 hl' hp))
theorem a_lstore (hS : Std X R w cc own ret) {i : Nat} {n : Int} {L' : List (Option Value)} (hd : decode cc pc = .ok (.lstore i, 2)) {nL : Nat} (hN : cxn X = nL) (hn : i + 1 < nL) (hp : prv L i = true) (hL : (L.set (i + 1) none).set i (some (jv n)) = L') (k : Sm X R w rk x (pc + 2) L' st σ E) : Sm X R w rk x pc L (jv n :: st) σ E := by
  obtain ⟨p, l, e, s, m, args, below, meth, c, A, nX⟩ := X
  obtain ⟨hx, hb, hml, hown, hts, hK, hD, hA, hr, hlk, hrc, hrs⟩ := hS
  intro h H locs ls hP hV hl
  subst hL; subst hN
  exact lv_lstore hx hb hd (lvh_has hl) hn rfl (fun ls' hl' => k h H locs ls' hP hV (lvh_st2 hl' hp))
theorem a_lstore_n (hS : Std X R w cc own ret) {j : Fin 4} {n : Int} {L' : List (Option Value)} (hd : decode cc pc = .ok (.lstore_n j, 1)) {nL : Nat} (hN : cxn X = nL) (hn : j.val + 1 < nL) (hp : prv L j.val = true) (hL : (L.set (j.val + 1) none).set j.val (some (jv n)) = L') (k : Sm X R w rk x (pc + 1) L' st σ E) : Sm X R w rk x pc L (jv n :: st) σ E := by
  obtain ⟨p, l, e, s, m, args, below, meth, c, A, nX⟩ := X
  obtain ⟨hx, hb, hml, hown, hts, hK, hD, hA, hr, hlk, hrc, hrs⟩ := hS
  intro h H locs ls hP hV hl
  subst hL; subst hN
  exact lv_lstore_n hx hb hd rfl (lvh_has hl) hn rfl (fun ls' hl' => k h H locs ls' hP hV (lvh_st2 hl' hp))
theorem a_iinc (hS : Std X R w cc own ret) {i : Nat} {n d : Int} {L' : List (Option Value)} (hd : decode cc pc = .ok (.iinc i d, 3)) (hi : L[i]? = some (some (iv n))) {nL : Nat} (hN : cxn X = nL) (hn : i < nL) (hp : prv L i = true) (hL : L.set i (some (iv (n + d))) = L') (k : Sm X R w rk x (pc + 3) L' st σ E) : Sm X R w rk x pc L st σ E := by
  obtain ⟨p, l, e, s, m, args, below, meth, c, A, nX⟩ := X
  obtain ⟨hx, hb, hml, hown, hts, hK, hD, hA, hr, hlk, hrc, hrs⟩ := hS
  intro h H locs ls hP hV hl
  subst hL; subst hN
  obtain ⟨q, hq⟩ := List.getElem?_of_mem (lvl_mem hi)
  exact lv_iinc hx hb hd (lvh_has hl) hq (v := I3 (n + d)) (by rw [I3_add]; rfl) hn rfl (fun ls' hl' => k h H locs ls' hP hV (lvh_st1 hl' hp))
theorem a_iadd (hS : Std X R w cc own ret) {a b : Int} (hd : decode cc pc = .ok (.iadd, 1)) (k : Sm X R w rk x (pc + 1) L (iv (a + b) :: st) σ E) : Sm X R w rk x pc L (iv b :: iv a :: st) σ E := by
  obtain ⟨p, l, e, s, m, args, below, meth, c, A, nX⟩ := X
  obtain ⟨hx, hb, hml, hown, hts, hK, hD, hA, hr, hlk, hrc, hrs⟩ := hS
  intro h H locs ls hP hV hl
  have k1 := k h H locs ls hP hV hl
  unfold iv at k1 ⊢
  rw [I3_add] at k1
  exact lv_iadd hx hb hd k1
theorem a_isub (hS : Std X R w cc own ret) {a b : Int} (hd : decode cc pc = .ok (.isub, 1)) (k : Sm X R w rk x (pc + 1) L (iv (a - b) :: st) σ E) : Sm X R w rk x pc L (iv b :: iv a :: st) σ E := by
  obtain ⟨p, l, e, s, m, args, below, meth, c, A, nX⟩ := X
  obtain ⟨hx, hb, hml, hown, hts, hK, hD, hA, hr, hlk, hrc, hrs⟩ := hS
  intro h H locs ls hP hV hl
  have k1 := k h H locs ls hP hV hl
  unfold iv at k1 ⊢
  rw [I3_sub] at k1
  exact lv_isub hx hb hd k1
theorem a_imul (hS : Std X R w cc own ret) {a b : Int} (hd : decode cc pc = .ok (.imul, 1)) (k : Sm X R w rk x (pc + 1) L (iv (a * b) :: st) σ E) : Sm X R w rk x pc L (iv b :: iv a :: st) σ E := by
  obtain ⟨p, l, e, s, m, args, below, meth, c, A, nX⟩ := X
  obtain ⟨hx, hb, hml, hown, hts, hK, hD, hA, hr, hlk, hrc, hrs⟩ := hS
  intro h H locs ls hP hV hl
  have k1 := k h H locs ls hP hV hl
  unfold iv at k1 ⊢
  rw [I3_mul] at k1
  exact lv_imul hx hb hd k1
theorem I3_div (a b : Int) : I3 ((wr a).tdiv (wr b)) = I3 a / I3 b := by
  apply Int32.toInt_inj.mp
  rw [Int32.toInt_div]
  show (Int32.ofInt _).toInt = _
  rw [Int32.toInt_ofInt]
  rfl
theorem I3_rem (a b : Int) : I3 ((wr a).tmod (wr b)) = I3 a - I3 a / I3 b * I3 b := by
  rw [← I3_div]
  have e : (wr a).tmod (wr b) = wr a - (wr a).tdiv (wr b) * wr b := by
    have := Int.tmod_add_mul_tdiv (wr a) (wr b)
    rw [Int.mul_comm] at this
    omega
  rw [e, I3_sub, I3_mul, I3_wr, I3_wr]
theorem a_idiv (hS : Std X R w cc own ret) {a b : Int} (hd : decode cc pc = .ok (.idiv, 1)) (hne : wr b ≠ 0) (k : Sm X R w rk x (pc + 1) L (iv ((wr a).tdiv (wr b)) :: st) σ E) : Sm X R w rk x pc L (iv b :: iv a :: st) σ E := by
  obtain ⟨p, l, e, s, m, args, below, meth, c, A, nX⟩ := X
  obtain ⟨hx, hb, hml, hown, hts, hK, hD, hA, hr, hlk, hrc, hrs⟩ := hS
  intro h H locs ls hP hV hl
  have k1 := k h H locs ls hP hV hl
  unfold iv at k1 ⊢
  rw [I3_div] at k1
  exact lv_idiv hx hb hd (fun q => hne (by rw [← I3_0, I3_eq, wr_0] at q; exact q)) k1
theorem a_irem (hS : Std X R w cc own ret) {a b : Int} (hd : decode cc pc = .ok (.irem, 1)) (hne : wr b ≠ 0) (k : Sm X R w rk x (pc + 1) L (iv ((wr a).tmod (wr b)) :: st) σ E) : Sm X R w rk x pc L (iv b :: iv a :: st) σ E := by
  obtain ⟨p, l, e, s, m, args, below, meth, c, A, nX⟩ := X
  obtain ⟨hx, hb, hml, hown, hts, hK, hD, hA, hr, hlk, hrc, hrs⟩ := hS
  intro h H locs ls hP hV hl
  have k1 := k h H locs ls hP hV hl
  unfold iv at k1 ⊢
  rw [I3_rem] at k1
  exact lv_irem hx hb hd (fun q => hne (by rw [← I3_0, I3_eq, wr_0] at q; exact q)) k1
theorem a_iand (hS : Std X R w cc own ret) {a b : Int} (hd : decode cc pc = .ok (.iand, 1)) (k : Sm X R w rk x (pc + 1) L (iv (andI a b) :: st) σ E) : Sm X R w rk x pc L (iv b :: iv a :: st) σ E := by
  obtain ⟨p, l, e, s, m, args, below, meth, c, A, nX⟩ := X
  obtain ⟨hx, hb, hml, hown, hts, hK, hD, hA, hr, hlk, hrc, hrs⟩ := hS
  intro h H locs ls hP hV hl
  have k1 := k h H locs ls hP hV hl
  unfold andI at k1
  rw [iv_toInt] at k1
  exact lv_iand hx hb hd k1
theorem a_ior (hS : Std X R w cc own ret) {a b : Int} (hd : decode cc pc = .ok (.ior, 1)) (k : Sm X R w rk x (pc + 1) L (iv (orI a b) :: st) σ E) : Sm X R w rk x pc L (iv b :: iv a :: st) σ E := by
  obtain ⟨p, l, e, s, m, args, below, meth, c, A, nX⟩ := X
  obtain ⟨hx, hb, hml, hown, hts, hK, hD, hA, hr, hlk, hrc, hrs⟩ := hS
  intro h H locs ls hP hV hl
  have k1 := k h H locs ls hP hV hl
  unfold orI at k1
  rw [iv_toInt] at k1
  exact lv_ior hx hb hd k1
theorem a_ishl (hS : Std X R w cc own ret) {a b : Int} (hd : decode cc pc = .ok (.ishl, 1)) (k : Sm X R w rk x (pc + 1) L (iv (shlI a b) :: st) σ E) : Sm X R w rk x pc L (iv b :: iv a :: st) σ E := by
  obtain ⟨p, l, e, s, m, args, below, meth, c, A, nX⟩ := X
  obtain ⟨hx, hb, hml, hown, hts, hK, hD, hA, hr, hlk, hrc, hrs⟩ := hS
  intro h H locs ls hP hV hl
  have k1 := k h H locs ls hP hV hl
  unfold shlI at k1
  rw [iv_toInt] at k1
  exact lv_ishl hx hb hd k1
theorem a_ishr (hS : Std X R w cc own ret) {a b : Int} (hd : decode cc pc = .ok (.ishr, 1)) (k : Sm X R w rk x (pc + 1) L (iv (shrI a b) :: st) σ E) : Sm X R w rk x pc L (iv b :: iv a :: st) σ E := by
  obtain ⟨p, l, e, s, m, args, below, meth, c, A, nX⟩ := X
  obtain ⟨hx, hb, hml, hown, hts, hK, hD, hA, hr, hlk, hrc, hrs⟩ := hS
  intro h H locs ls hP hV hl
  have k1 := k h H locs ls hP hV hl
  unfold shrI at k1
  rw [iv_toInt] at k1
  exact lv_ishr hx hb hd k1
theorem a_iushr (hS : Std X R w cc own ret) {a b : Int} (hd : decode cc pc = .ok (.iushr, 1)) (k : Sm X R w rk x (pc + 1) L (iv (ushrI a b) :: st) σ E) : Sm X R w rk x pc L (iv b :: iv a :: st) σ E := by
  obtain ⟨p, l, e, s, m, args, below, meth, c, A, nX⟩ := X
  obtain ⟨hx, hb, hml, hown, hts, hK, hD, hA, hr, hlk, hrc, hrs⟩ := hS
  intro h H locs ls hP hV hl
  have k1 := k h H locs ls hP hV hl
  unfold ushrI at k1
  rw [iv_toInt] at k1
  exact lv_iushr hx hb hd rfl k1
theorem a_ladd (hS : Std X R w cc own ret) {a b : Int} (hd : decode cc pc = .ok (.ladd, 1)) (k : Sm X R w rk x (pc + 1) L (jv (a + b) :: st) σ E) : Sm X R w rk x pc L (jv b :: jv a :: st) σ E := by
  obtain ⟨p, l, e, s, m, args, below, meth, c, A, nX⟩ := X
  obtain ⟨hx, hb, hml, hown, hts, hK, hD, hA, hr, hlk, hrc, hrs⟩ := hS
  intro h H locs ls hP hV hl
  have k1 := k h H locs ls hP hV hl
  unfold jv at k1 ⊢
  rw [show I6 (a + b) = I6 a + I6 b from Int64.ofInt_add a b] at k1
  exact lv_ladd hx hb hd k1
theorem a_lmul (hS : Std X R w cc own ret) {a b : Int} (hd : decode cc pc = .ok (.lmul, 1)) (k : Sm X R w rk x (pc + 1) L (jv (a * b) :: st) σ E) : Sm X R w rk x pc L (jv b :: jv a :: st) σ E := by
  obtain ⟨p, l, e, s, m, args, below, meth, c, A, nX⟩ := X
  obtain ⟨hx, hb, hml, hown, hts, hK, hD, hA, hr, hlk, hrc, hrs⟩ := hS
  intro h H locs ls hP hV hl
  have k1 := k h H locs ls hP hV hl
  unfold jv at k1 ⊢
  rw [show I6 (a * b) = I6 a * I6 b from Int64.ofInt_mul a b] at k1
  exact lv_lmul hx hb hd k1
theorem a_i2l (hS : Std X R w cc own ret) {a : Int} (hd : decode cc pc = .ok (.i2l, 1)) (k : Sm X R w rk x (pc + 1) L (jv (wr a) :: st) σ E) : Sm X R w rk x pc L (iv a :: st) σ E := by
  obtain ⟨p, l, e, s, m, args, below, meth, c, A, nX⟩ := X
  obtain ⟨hx, hb, hml, hown, hts, hK, hD, hA, hr, hlk, hrc, hrs⟩ := hS
  intro h H locs ls hP hV hl
  refine lv_i2l hx hb hd (v := I6 (wr a)) ?_ (k h H locs ls hP hV hl)
  apply Int64.toInt_inj.mp
  rw [Int32.toInt_toInt64]
  show _ = (Int64.ofInt (wr a)).toInt
  rw [Int64.toInt_ofInt]
  exact (Int32.toInt_bmod_18446744073709551616 (I3 a)).symm
end INS
