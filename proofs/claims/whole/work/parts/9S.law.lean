/-! THE CLAIM OUT OF ONE WALK OF THE LAW'S BODY. Your part is whole_start (and what it stands on); all else here is the same for every law, but numbers. -/
def R_law : String := "AutoIndenterLaw"
def lw_P (b : Addr) (xs : List Int32) (args : Array Value) (s : State) : Prop := args = #[.ref b] ∧ s.IntsAt b xs ∧ xs.length ≤ 3072 ∧ (Jvm.Cond.and given_1 narrow_1).before args s = true
def lw_Q (_ : Array Value) (s : State) (o : Outcome) (t : State) : Prop := o = .returned (some (.int 1)) ∧ Framed s o t [] 600000 7302250
def lw_Z (below : List Frame) (a : Array Value) (s : State) : State → Prop := fun t => ∃ o, t.status = .running ∧ Ended t below o ∧ lw_Q a s o t
/-- the law's own end, with 1 on the stack, nothing written that was there before, its room as the claim has it -/
theorem lw_ret {p : Program} {l : Launch} {e : Env} {s : State} {m : MethodId} {below : List Frame} {meth : Method} {c : Code} {b : Nat} (hx : p.tables.exec = Jvm.exec) (hb : c.code = code) (hr : meth.sig.returnType = ret) (hlocks : meth.locks = false) {pc : Nat} {H : Heap} {ls : Array Slot} (hdg : decode code pc = .ok (.ireturn, 1)) : W p l e room_1 s m #[Value.ref b] below meth c H [] 600000 7302250 (lw_Z below #[Value.ref b] s) (F0 m pc ls [.int 1]) := by
  intro T hT X
  obtain ⟨fs, hret, hrun, hended, hW, hframe⟩ := X.leave (v := some (.int 1)) (hlocks := hlocks) (fun h => by rw [hr] at h; cases h)
  have hmeth' : T.vm.method? m = some meth := X.method'
  refine ⟨T.setFrames fs, ?_, .returned (some (.int 1)), hrun, hended, rfl, ⟨_, rfl⟩, hW, hframe⟩
  jvm_step X.here [X.here.top, hx, hb, hdg, hmeth', hr, ret, narrow_b1]
  (try refine ⟨rfl, ?_⟩); (try refine ⟨rfl, ?_⟩)
  first | (intro acts; rw [hret _ acts rfl rfl rfl]) | rw [hret _ _ rfl rfl rfl]
  exact Steps.refl _
/-- what holds at the law's entry: the machine, the code, the tables' words (any of lw_tbl by 'hts w (by decide +kernel)'), the script of L ints xs at the cell b, what the Statement gives of the start (any of its parts by flat_of_before) -/
def lw_At (p : Program) (s : State) (m : MethodId) (meth : Method) (c : Code) (b L : Nat) (xs : Nat → Int32) : Prop :=
  p.tables.exec = Jvm.exec ∧ c.code = code ∧ meth.sig.returnType = ret ∧ c.maxLocals = 4 ∧ s.vm.findClass R_law = some m.cls ∧ (∀ w ∈ lw_tbl, w.before #[Value.ref b] s = true) ∧ va_X b L xs s s.heap ∧ b < s.heap.size ∧ meth.locks = false ∧ (Jvm.Cond.and given_1 narrow_1).before #[Value.ref b] s = true
/-! ===== rows of the law ===== -/
abbrev Cl : Type := Program × Launch × Env × State × MethodId × Nat × List Frame × Method × Code
def wAl (κ : Kd) (n : Nat) : Wd := wK κ n ShA
def wBl (κ : Kd) (n : Nat) : Wd := wK κ (n + 347) ShB
def szX (X : Cl) : Nat := X.2.2.2.1.heap.size
def Sl (X : Cl) (κ : Kd) (pc : Nat) (L : List (Option Value)) (st : List Value) (σ τ : Mem) : Prop := match X with
  | (p, l, e, s, m, b, below, meth, c) => ∀ (H : Heap) (locs : List Loc) (ls : Array Slot), va_P κ.1 vwCl (wld (wAl κ s.heap.size) σ) H → va_P κ.1 vwCl (wld (wBl κ s.heap.size) τ) H → va_S (fun q => s.heap.size ≤ q) s.heap H locs → lvh ls 4 L → W p l e room_1 s m #[Value.ref b] below meth c H locs 600000 7302250 (lw_Z below #[Value.ref b] s) (F0 m pc ls st)
def StdL (X : Cl) (κ : Kd) (ad : Ad) (n : Nat) (xs : Nat → Int32) : Prop := match X with
  | (p, _, _, s, m, b, _, meth, c) => p.tables.exec = Jvm.exec ∧ c.code = cL_law ∧ c.maxLocals = 4 ∧ s.vm.findClass RL = some m.cls ∧ (∀ u ∈ WL, u.before #[Value.ref b] s = true) ∧ va_K κ.1 vwCl (tyK κ) s ∧ meth.sig.returnType = ret ∧ meth.locks = false ∧ Nst s ∧ va_X b n xs s s.heap ∧ b < s.heap.size ∧ Str ad (fun q => s.heap.size ≤ q) s s.heap
def LL (X : Cl) (κ : Kd) (i : Nat) : List (Option Value) := [some (.ref X.2.2.2.2.2.1), some (rf (wAl κ (szX X)) 0), some (rf (wBl κ (szX X)) 0), some (iv (i : Int))]
def sx (xs : Nat → Int32) (j : Nat) : Int := (xs j).toInt
theorem RI_x (xs : Nat → Int32) (j : Nat) : RI (sx xs j) := ⟨Int32.le_toInt _, by have := Int32.toInt_lt (xs j); unfold sx; omega⟩
theorem wK_get {κ : Kd} {b : Nat} {sh : List ShC} {σ : Mem} {i : Nat} {p : Nat × va_E} (h : (wld (wK κ b sh) σ)[i]? = some p) : p.1 = b + i ∧ i < sh.length := by
  simp only [wld, shp, wK, List.getElem?_mapIdx, Option.map_eq_some_iff] at h
  obtain ⟨q, h1, h2⟩ := h
  exact ⟨by rw [← h2], (List.getElem?_eq_some_iff.mp h1).1⟩
theorem wK_D {κ : Kd} {b : Nat} {sh : List ShC} {σ : Mem} {A : Nat → Prop} (hA : ∀ q, b ≤ q → A q) : va_D A (wld (wK κ b sh) σ) :=
  ⟨fun i j p q hp hq e => by have h1 := (wK_get hp).1; have h2 := (wK_get hq).1; omega, fun k q hq => by have h1 := (wK_get hq).1; exact hA _ (by omega)⟩
theorem shA_len : ShA.length = 347 := by decide +kernel
theorem l_run {p : Program} {l : Launch} {e : Env} {R : Room} {s : State} {m : MethodId} {args : Array Value} {below : List Frame} {meth : Method} {c : Code} {H : Heap} {locs : List Loc} {K S : Nat} {rst st0 : List Value} {a : Array Value} {pc : Nat} {ls : Array Slot} {Q : State → Prop} {x1 : Int × Mem} {rk : Nat} {κ : Kd} {b1 b2 : Nat} {sh1 sh2 : List ShC} {σ τ : Mem}
    (h1 : s.heap.size ≤ b1) (hx : b1 + sh1.length ≤ b2 ∨ b2 + sh2.length ≤ b1) (hP2 : va_P κ.1 vwCl (wld (wK κ b2 sh2) τ) H)
    (hr : va_Run p l e R s m args below meth c H locs K S 0 0 (F0 m pc ls st0) rst (QcX (wK κ b1 sh1) rk x1 (va_A (wld (wK κ b1 sh1) σ) H.size) a) (va_A (wld (wK κ b1 sh1) σ) H.size)) (hV : va_S (fun q => s.heap.size ≤ q) s.heap H locs)
    (kk : ∀ (H1 : Heap) (locs1 : List Loc), va_P κ.1 vwCl (wld (wK κ b1 sh1) x1.2) H1 → va_P κ.1 vwCl (wld (wK κ b2 sh2) τ) H1 → va_S (fun q => s.heap.size ≤ q) s.heap H1 locs1 → W p l e R s m args below meth c H1 locs1 K S Q (F0 m (pc + 3) ls ((rvl (wK κ b1 sh1) rk x1.1).toList ++ rst))) : W p l e R s m args below meth c H locs K S Q (F0 m pc ls st0) := by
  have hF : ∀ q, va_A (wld (wK κ b1 sh1) σ) H.size q → s.heap.size ≤ q := by
    intro q h
    rcases h with ⟨k, e, h⟩ | h
    · have g : q = b1 + k := (wK_get h).1
      omega
    · exact Nat.le_trans hV.1 h
  intro T hT X
  obtain ⟨v, st₀, t, T', LL, h0, X', hL, e1, e2, ⟨hv, hP1, hK1, hz, hk⟩, st⟩ := hr T hT X
  injection hv with hv
  subst hv
  rw [h0] at hz hk
  have hP2' : va_P κ.1 vwCl (wld (wK κ b2 sh2) τ) T'.heap := by
    intro k q hq
    have hlt : q.1 < H.size := (hP2 k q hq).lt
    refine (hP2 k q hq).kept ?_
    rw [e1]
    refine hk q.1 hlt (fun z => ?_)
    have g := wK_get hq
    rcases z with ⟨k2, e, z⟩ | z
    · have g2 := wK_get z
      have g3 : q.1 = b1 + k2 := g2.1
      omega
    · omega
  obtain ⟨t2, a1, b1'⟩ := kk T'.heap (locs ++ LL) (by rw [e1]; exact hP1) hP2'
    ⟨Nat.le_trans hV.1 (by rw [e1]; exact hz), fun q g1 g2 => by rw [e1, hk q (Nat.lt_of_lt_of_le g1 hV.1) (fun z => g2 (hF q z))]; exact hV.2.1 q g1 g2, fun q hq => by
      rcases List.mem_append.mp hq with h | h
      · exact hV.2.2 q h
      · exact hF _ (hL q h)⟩ T' rfl X'
  exact ⟨t2, st t2 a1, b1'⟩
section LAW
variable {X : Cl} {κ : Kd} {ad : Ad} {n : Nat} {xs : Nat → Int32} {pc : Nat} {L : List (Option Value)} {st : List Value} {σ τ : Mem}
theorem l_callA (hS : StdL X κ ad n xs) {y : MethodName} {c2 : ByteArray} {n2 nn index rk2 f lo : Nat} {r2 : Option FieldType} {x1 : Int × Mem} {E : Option (Int × Mem)} {As rst : List Value}
    (hC : Ctr X.2.1 (wAl κ (szX X)) y c2 n2 r2 (rmN f lo) rk2 (rf (wAl κ (szX X)) 0 :: As) σ E) (hE : E = some x1) (hm : MI RX11 y c2 n2 r2 nn) (hl2 : Cond.methodLink RL index y ∈ WL) (hn : As.length = nn) (hf : f + 1 ≤ 12) (hlo : 8 + (n2 + 11) + lo ≤ 454) (hrst : (rst.map fun v => v.category).sum ≤ 8) (hst : As.reverse ++ rf (wAl κ (szX X)) 0 :: rst = st) (hd : decode cL_law pc = .ok (.invokevirtual index, 3))
    (kk : Sl X κ (pc + 3) L ((rvl (wAl κ (szX X)) rk2 x1.1).toList ++ rst) x1.2 τ) : Sl X κ pc L st σ τ := by
  obtain ⟨p, l, e, s, m, b, below, meth, c⟩ := X
  obtain ⟨hx, hb, hml, hown, hts, hK, hr, hlk, hnst, hX, hbl, hZ⟩ := hS
  obtain ⟨m1, m2, m3, m4, m5, m6, m7, m8⟩ := hm
  intro H locs ls hP hP2 hV hl
  have hM := hC x1 H.size hE
  have he := wld_get (w := wAl κ s.heap.size) (σ := σ) (o := 0) rfl
  have hD : va_D (fun q => s.heap.size ≤ q) (wld (wAl κ s.heap.size) σ) := wK_D (fun q h => h)
  subst hst
  refine l_run (κ := κ) (b1 := s.heap.size) (b2 := s.heap.size + 347) (sh1 := ShA) (sh2 := ShB) (σ := σ) (Nat.le_refl _) (Or.inl (by rw [shA_len]; exact Nat.le_refl _)) hP2 (va_runV (As := As) (b := (wAl κ s.heap.size).2.1 0) (rest := rst) ⟨hx, hb, hml, hown, hts⟩ hM ⟨callB_of nn hts (good_ws m4) rfl rfl rfl (hts _ (by rw [m5]; exact m3)) (hts _ hl2) ⟨m6, m7, m8⟩ ⟨hf, hlo⟩, hts _ m1, hts _ m2⟩ ⟨PcX_blind _ _ σ _, va_recv (ci := 11) (q := (RX11, TX11, 12)) hK hP rfl he, fun U hU hW => ⟨rfl, by rw [hU], by rw [hU]; exact hP, va_K.moved hW.alike hK, hD.weaken (fun _ _ _ _ => trivial), hnst.warm hW⟩⟩ rfl hn hl.1 rfl (by show 2 * 0 + _ ≤ 8; omega) hd ⟨Nat.le_of_ble_eq_true rfl, Nat.le_of_ble_eq_true rfl⟩) hV (fun H1 locs1 h1 h2 h3 => kk H1 locs1 ls h1 h2 h3 hl)
theorem l_callAs (hS : StdL X κ ad n xs) {y : MethodName} {c2 : ByteArray} {n2 nn index rk2 f lo : Nat} {r2 : Option FieldType} {x1 : Int × Mem} {E : Option (Int × Mem)} {As rst : List Value}
    (hC : CtrS X.2.1 (wAl κ (szX X)) ad y c2 n2 r2 (rmN f lo) rk2 (rf (wAl κ (szX X)) 0 :: As) σ E) (hE : E = some x1) (hm : MI RX11 y c2 n2 r2 nn) (hl2 : Cond.methodLink RL index y ∈ WL) (hn : As.length = nn) (hf : f + 1 ≤ 12) (hlo : 8 + (n2 + 11) + lo ≤ 454) (hrst : (rst.map fun v => v.category).sum ≤ 8) (hst : As.reverse ++ rf (wAl κ (szX X)) 0 :: rst = st) (hd : decode cL_law pc = .ok (.invokevirtual index, 3))
    (kk : Sl X κ (pc + 3) L ((rvl (wAl κ (szX X)) rk2 x1.1).toList ++ rst) x1.2 τ) : Sl X κ pc L st σ τ := by
  obtain ⟨p, l, e, s, m, b, below, meth, c⟩ := X
  obtain ⟨hx, hb, hml, hown, hts, hK, hr, hlk, hnst, hX, hbl, hZ⟩ := hS
  obtain ⟨m1, m2, m3, m4, m5, m6, m7, m8⟩ := hm
  intro H locs ls hP hP2 hV hl
  have hM := hC x1 H.size hE
  have he := wld_get (w := wAl κ s.heap.size) (σ := σ) (o := 0) rfl
  have hD : va_D (fun q => s.heap.size ≤ q) (wld (wAl κ s.heap.size) σ) := wK_D (fun q h => h)
  subst hst
  refine l_run (κ := κ) (b1 := s.heap.size) (b2 := s.heap.size + 347) (sh1 := ShA) (sh2 := ShB) (σ := σ) (Nat.le_refl _) (Or.inl (by rw [shA_len]; exact Nat.le_refl _)) hP2 (va_runV (As := As) (b := (wAl κ s.heap.size).2.1 0) (rest := rst) ⟨hx, hb, hml, hown, hts⟩ hM ⟨callB_of nn hts (good_ws m4) rfl rfl rfl (hts _ (by rw [m5]; exact m3)) (hts _ hl2) ⟨m6, m7, m8⟩ ⟨hf, hlo⟩, hts _ m1, hts _ m2⟩ ⟨PcS_blind _ ad _ σ _, va_recv (ci := 11) (q := (RX11, TX11, 12)) hK hP rfl he, fun U hU hW => ⟨rfl, ⟨by rw [hU], by rw [hU]; exact hP, va_K.moved hW.alike hK, hD.weaken (fun _ _ _ _ => trivial), hnst.warm hW⟩, Str.next hZ hV hU hW (sub_A hD (fun q h => h) hV)⟩⟩ rfl hn hl.1 rfl (by show 2 * 0 + _ ≤ 8; omega) hd ⟨Nat.le_of_ble_eq_true rfl, Nat.le_of_ble_eq_true rfl⟩) hV (fun H1 locs1 h1 h2 h3 => kk H1 locs1 ls h1 h2 h3 hl)
theorem l_callB (hS : StdL X κ ad n xs) {y : MethodName} {c2 : ByteArray} {n2 nn index rk2 f lo : Nat} {r2 : Option FieldType} {x1 : Int × Mem} {E : Option (Int × Mem)} {As rst : List Value}
    (hC : Ctr X.2.1 (wBl κ (szX X)) y c2 n2 r2 (rmN f lo) rk2 (rf (wBl κ (szX X)) 0 :: As) τ E) (hE : E = some x1) (hm : MI RX12 y c2 n2 r2 nn) (hl2 : Cond.methodLink RL index y ∈ WL) (hn : As.length = nn) (hf : f + 1 ≤ 12) (hlo : 8 + (n2 + 11) + lo ≤ 454) (hrst : (rst.map fun v => v.category).sum ≤ 8) (hst : As.reverse ++ rf (wBl κ (szX X)) 0 :: rst = st) (hd : decode cL_law pc = .ok (.invokevirtual index, 3))
    (kk : Sl X κ (pc + 3) L ((rvl (wBl κ (szX X)) rk2 x1.1).toList ++ rst) σ x1.2) : Sl X κ pc L st σ τ := by
  obtain ⟨p, l, e, s, m, b, below, meth, c⟩ := X
  obtain ⟨hx, hb, hml, hown, hts, hK, hr, hlk, hnst, hX, hbl, hZ⟩ := hS
  obtain ⟨m1, m2, m3, m4, m5, m6, m7, m8⟩ := hm
  intro H locs ls hP2 hP hV hl
  have hM := hC x1 H.size hE
  have he := wld_get (w := wBl κ s.heap.size) (σ := τ) (o := 0) rfl
  have hD : va_D (fun q => s.heap.size ≤ q) (wld (wBl κ s.heap.size) τ) := wK_D (fun q h => Nat.le_trans (Nat.le_add_right _ _) h)
  subst hst
  refine l_run (κ := κ) (b1 := s.heap.size + 347) (b2 := s.heap.size) (sh1 := ShB) (sh2 := ShA) (σ := τ) (Nat.le_add_right _ _) (Or.inr (by rw [shA_len]; exact Nat.le_refl _)) hP2 (va_runV (As := As) (b := (wBl κ s.heap.size).2.1 0) (rest := rst) ⟨hx, hb, hml, hown, hts⟩ hM ⟨callB_of nn hts (good_ws m4) rfl rfl rfl (hts _ (by rw [m5]; exact m3)) (hts _ hl2) ⟨m6, m7, m8⟩ ⟨hf, hlo⟩, hts _ m1, hts _ m2⟩ ⟨PcX_blind _ _ τ _, va_recv (ci := 12) (q := (RX12, TX12, 41)) hK hP rfl he, fun U hU hW => ⟨rfl, by rw [hU], by rw [hU]; exact hP, va_K.moved hW.alike hK, hD.weaken (fun _ _ _ _ => trivial), hnst.warm hW⟩⟩ rfl hn hl.1 rfl (by show 2 * 0 + _ ≤ 8; omega) hd ⟨Nat.le_of_ble_eq_true rfl, Nat.le_of_ble_eq_true rfl⟩) hV (fun H1 locs1 h1 h2 h3 => kk H1 locs1 ls h2 h1 h3 hl)
theorem l_aload (hS : StdL X κ ad n xs) {j : Fin 4} {q : Nat} (hd : decode cL_law pc = .ok (.aload_n j, 1)) (hi : L[j.val]? = some (some (.ref q))) (k : Sl X κ (pc + 1) L (.ref q :: st) σ τ) : Sl X κ pc L st σ τ := by
  obtain ⟨p, l, e, s, m, b, below, meth, c⟩ := X
  obtain ⟨hx, hb, hml, hown, hts, hK, hr, hlk, hnst, hX, hbl, hZ⟩ := hS
  intro H locs ls hP hP2 hV hl
  exact lv_aload_n hx hb hd rfl (hl.2.2 _ _ hi) (k H locs ls hP hP2 hV hl)
theorem l_a1 (hS : StdL X κ ad n xs) {i : Nat} (hd : decode cL_law pc = .ok (.aload_n 1, 1)) (k : Sl X κ (pc + 1) (LL X κ i) (rf (wAl κ (szX X)) 0 :: st) σ τ) : Sl X κ pc (LL X κ i) st σ τ := l_aload hS hd rfl k
theorem l_a2 (hS : StdL X κ ad n xs) {i : Nat} (hd : decode cL_law pc = .ok (.aload_n 2, 1)) (k : Sl X κ (pc + 1) (LL X κ i) (rf (wBl κ (szX X)) 0 :: st) σ τ) : Sl X κ pc (LL X κ i) st σ τ := l_aload hS hd rfl k
/-- script[i + k] -/
theorem l_arg (hS : StdL X κ ad n xs) {i k : Nat} {kz : Int} (hkz : kz = (k : Int)) (hk : i + k < n) (hn : n ≤ 3072) (d0 : decode cL_law pc = .ok (.aload_n 0, 1)) (d1 : decode cL_law (pc + 1) = .ok (.iload_n 3, 1)) (d2 : decode cL_law (pc + 2) = .ok (.iconst kz, 1)) (d3 : decode cL_law (pc + 3) = .ok (.iadd, 1)) (d4 : decode cL_law (pc + 4) = .ok (.iaload, 1))
    (kk : Sl X κ (pc + 5) (LL X κ i) (iv (sx xs (i + k)) :: st) σ τ) : Sl X κ pc (LL X κ i) st σ τ := by
  subst hkz
  refine l_aload hS d0 rfl ?_
  obtain ⟨p, l, e, s, m, b, below, meth, c⟩ := X
  obtain ⟨hx, hb, hml, hown, hts, hK, hr, hlk, hnst, hX, hbl, hZ⟩ := hS
  intro H locs ls hP hP2 hV hl
  have hw : wr ((i : Int) + (k : Int)) = (i : Int) + (k : Int) := wr_id (by omega) (by omega)
  have k1 := kk H locs ls hP hP2 hV hl
  have hbA : ¬ (fun q : Nat => s.heap.size ≤ q) b := Nat.not_le.mpr hbl
  refine lv_iload_n hx hb d1 rfl (hl.2.2 3 (iv (i : Int)) rfl) ?_
  refine lv_iconst (v := I3 (k : Int)) hx hb d2 rfl ?_
  refine lv_iadd hx hb d3 ?_
  rw [← I3_add]
  refine va_sld hx hb hX hbl hbA hV (i := I3 ((i : Int) + (k : Int))) (I3_in (by rw [hw]; omega)) d4 ?_
  rw [I3_clamp, hw, show ((i : Int) + (k : Int)).toNat = i + k by omega]
  unfold sx at k1
  rw [iv_toInt] at k1
  exact k1
theorem l_eqI (hS : StdL X κ ad n xs) {r : Int} {off : Int} {tgt : Nat} (hd : decode cL_law pc = .ok (.if_icmp .eq off, 3)) (ht : (pc : Int) + off = (tgt : Int)) (k : Sl X κ tgt L st σ τ) : Sl X κ pc L (iv r :: iv r :: st) σ τ := by
  obtain ⟨p, l, e, s, m, b, below, meth, c⟩ := X
  obtain ⟨hx, hb, hml, hown, hts, hK, hr, hlk, hnst, hX, hbl, hZ⟩ := hS
  intro H locs ls hP hP2 hV hl
  exact lv_icmp_eq hx hb hd ht (fun _ => k H locs ls hP hP2 hV hl) (fun q => absurd rfl q)
theorem l_eqJ (hS : StdL X κ ad n xs) {r : Int} {off : Int} {tgt : Nat} (hd0 : decode cL_law pc = .ok (.lcmp, 1)) (hd : decode cL_law (pc + 1) = .ok (.ifCond .eq off, 3)) (ht : ((pc + 1 : Nat) : Int) + off = (tgt : Int)) (k : Sl X κ tgt L st σ τ) : Sl X κ pc L (jv r :: jv r :: st) σ τ := by
  obtain ⟨p, l, e, s, m, b, below, meth, c⟩ := X
  obtain ⟨hx, hb, hml, hown, hts, hK, hr, hlk, hnst, hX, hbl, hZ⟩ := hS
  intro H locs ls hP hP2 hV hl
  have h0 : ¬ I6 r > I6 r := Int64.lt_irrefl
  have e0 : lg_cmp (I6 r) (I6 r) = 0 := by
    unfold lg_cmp
    rw [if_neg h0, if_pos rfl]
  refine W.lcmp hx hb hd0 ?_
  rw [e0]
  exact lv_if_eq hx hb hd ht (fun _ => k H locs ls hP hP2 hV hl) (fun q => absurd rfl q)
theorem l_end (hS : StdL X κ ad n xs) (d0 : decode cL_law pc = .ok (.iconst 1, 1)) (d1 : decode cL_law (pc + 1) = .ok (.ireturn, 1)) : Sl X κ pc L [] σ τ := by
  obtain ⟨p, l, e, s, m, b, below, meth, c⟩ := X
  obtain ⟨hx, hb, hml, hown, hts, hK, hr, hlk, hnst, hX, hbl, hZ⟩ := hS
  intro H locs ls hP hP2 hV hl
  refine lv_iconst (v := 1) hx hb d0 rfl ?_
  exact va_forget hV.2.2 (lw_ret hx hb hr hlk d1)
end LAW
