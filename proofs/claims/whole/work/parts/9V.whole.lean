/-! ===== the law's start: both objects are made, then the loop ===== -/
theorem aiC_len (κ : Kd) (q : Nat) : (aiC κ q).length = 347 := by
  rw [aiC_eq κ q ShA]
  unfold celF
  rw [List.length_mapIdx, shA_len]
theorem blk_newL {κ : Kd} {b q cn : Nat} {cs : List va_E} {e : va_E} {H1 : Heap} (hq : va_D (fun z => b ≤ z) (blkW b cs ++ [(q, e)])) (hP : va_P κ.1 vwCl (blkW b cs ++ [(q, e)]) H1) (hsz : H1.size ≤ b + (cn + 1)) (hn : cs.length = cn) : q = b + cs.length ∧ H1.size = b + cs.length + 1 := by
  have hl : (blkW b cs ++ [(q, e)])[cs.length]? = some (q, e) := by
    rw [List.getElem?_append_right (by rw [blk_len]; exact Nat.le_refl _), blk_len, Nat.sub_self]; rfl
  have h1 : b ≤ q := hq.2 _ _ hl
  have h2 : q < H1.size := (hP _ _ hl).lt
  have h3 : q = b + cs.length := by
    by_cases z : q - b < cs.length
    · have e2 : (blkW b cs ++ [(q, e)])[q - b]? = some (b + (q - b), cs[q - b]) := by
        rw [List.getElem?_append_left (by rw [blk_len]; exact z), blk_get, List.getElem?_eq_getElem z]; rfl
      have := hq.1 _ _ _ _ e2 hl (by show b + (q - b) = q; omega)
      omega
    · omega
  exact ⟨h3, by omega⟩
theorem l_new {p : Program} {l : Launch} {e : Env} {R : Room} {s : State} {m : MethodId} {args : Array Value} {below : List Frame} {meth : Method} {c : Code} {H : Heap} {locs : List Loc} {cn sn : Nat} {Q : State → Prop} {cc : ByteArray} {pc : Nat} {ls : Array Slot} {st : List Value} {κ : Kd} {cs : List va_E} {own C : String} {T : u_T} {N ci index : Nat} {ty : Nat → FieldType} {fs : List Value}
    (hx : p.tables.exec = Jvm.exec) (hb : c.code = cc) (hts : ∀ u ∈ WL, u.before args s = true) (hown : s.vm.findClass own = some m.cls) (hK : va_K κ.1 vwCl (tyK κ) s) (hc : vwCl[ci]? = some (C, T, N)) (hin : ∀ w ∈ u_ws C T N, w ∈ WL) (hty : ∀ k, k < N → parseFieldDescriptor (T k).2.2.1 = some (ty k)) (h1 : Cond.classLink own index C ∈ WL) (h2 : Cond.instantiable C N ∈ WL) (h3 : Cond.initialized C ∈ WL) (hfs : ∀ j, j < N → defaultValue (ty j) = vp_V fs j) (hn : cs.length = cn) (hrc : cn + 1 ≤ R.cells) (hrs : sn + N ≤ R.slots) (hd : decode cc pc = .ok (.new index, 3))
    (hP : va_P κ.1 vwCl (blkW s.heap.size cs) H) (hV : va_S (fun q => s.heap.size ≤ q) s.heap H locs)
    (kk : ∀ H1 : Heap, va_P κ.1 vwCl (blkW s.heap.size (cs ++ [.inr (ci, fs)])) H1 → va_S (fun q => s.heap.size ≤ q) s.heap H1 locs → H1.size = s.heap.size + cs.length + 1 → W p l e R s m args below meth c H1 locs (cn + 1) (sn + N) Q (F0 m (pc + 3) ls (.ref (s.heap.size + cs.length) :: st))) : W p l e R s m args below meth c H locs cn sn Q (F0 m pc ls st) := by
  refine va_new hx hb hts hin ty hty hown (hts _ h1) (hts _ h2) (hts _ h3) hK hP (blk_D s.heap.size cs) hV (fun q hq => hq) hc hfs hrc hrs hd (fun q H1 g1 g2 g3 => ?_)
  intro T' hT' X'
  have z := X'.heapSize
  rw [hT'] at z
  have hq := blk_newL g2 g1 z hn
  obtain ⟨hq, hH⟩ := hq
  subst hq
  have e : blkW s.heap.size cs ++ [(s.heap.size + cs.length, .inr (ci, fs))] = blkW s.heap.size (cs ++ [.inr (ci, fs)]) := by rw [blk_app]; rfl
  rw [e] at g1
  exact kk H1 g1 g3 hH T' hT' X'
theorem l_init {p : Program} {l : Launch} {e : Env} {s : State} {m : MethodId} {args : Array Value} {below : List Frame} {meth : Method} {c : Code} {H : Heap} {locs : List Loc} {cn sn : Nat} {R R2 : Room} {Q : State → Prop} {cc c2 : ByteArray} {pc n2 index : Nat} {ls : Array Slot} {κ : Kd} {cs csC : List va_E} {own : String} {ci : Nat} {fs : List Value} {y : MethodName}
    (hx : p.tables.exec = Jvm.exec) (hb : c.code = cc) (hml : c.maxLocals = 4) (hts : ∀ u ∈ WL, u.before args s = true) (hown : s.vm.findClass own = some m.cls) (hK : va_K κ.1 vwCl (tyK κ) s) (hN : NsA s) (hls : ls.size = 4) (hC : CtrG l κ (s.heap.size + cs.length) y c2 n2 R2 ci fs [.ref (s.heap.size + cs.length)] csC) (hm : MG y c2 n2 0) (hl2 : Cond.methodLink own index y ∈ WL) (hf : R2.frames + 1 ≤ R.frames) (hlo : 8 + (n2 + 11) + R2.locals ≤ R.locals) (hrc : cn + R2.cells ≤ R.cells) (hrs : sn + R2.slots ≤ R.slots) (hd : decode cc pc = .ok (.invokespecial index, 3))
    (hP : va_P κ.1 vwCl (blkW s.heap.size (cs ++ [.inr (ci, fs)])) H) (hV : va_S (fun q => s.heap.size ≤ q) s.heap H locs) (hH : H.size = s.heap.size + cs.length + 1)
    (kk : ∀ (H1 : Heap) (locs1 : List Loc), va_P κ.1 vwCl (blkW s.heap.size (cs ++ csC)) H1 → va_S (fun q => s.heap.size ≤ q) s.heap H1 locs1 → W p l e R s m args below meth c H1 locs1 (cn + R2.cells) (sn + R2.slots) Q (F0 m (pc + 3) ls [.ref (s.heap.size + cs.length)])) : W p l e R s m args below meth c H locs cn sn Q (F0 m pc ls [.ref (s.heap.size + cs.length), .ref (s.heap.size + cs.length)]) := by
  obtain ⟨m1, m2, m3, m4, m5, m6, m7⟩ := hm
  exact g_run (q0 := []) (a := (Value.ref (s.heap.size + cs.length) :: []).toArray) hP hV hH (va_runI (As := []) (rest := [.ref (s.heap.size + cs.length)]) ⟨hx, hb, hml, hown, hts⟩ hC ⟨callB_of 0 hts (good_ws m4) rfl rfl rfl (hts _ m3) (hts _ hl2) ⟨m5, m6, m7⟩ ⟨hf, hlo⟩, m1, hts _ m2⟩ (g_pre hP hK hN hH) rfl rfl hls rfl (Nat.le_of_ble_eq_true rfl) hd ⟨hrc, hrs⟩) kk
theorem lvh_1 {ls : Array Slot} {b : Nat} (hl : lv_has ls 4 [(0, .ref b)]) : lvh ls 4 [some (.ref b), none, none, none] := by
  refine ⟨hl.1, hl.2.1, fun i v hi => ?_⟩
  match i, hi with
  | 0, hi =>
    have e : Value.ref b = v := Option.some.inj (Option.some.inj hi)
    subst e
    exact hl.2.2 (0, .ref b) List.mem_cons_self
  | 1, hi => exact absurd hi (by simp)
  | 2, hi => exact absurd hi (by simp)
  | 3, hi => exact absurd hi (by simp)
  | i + 4, hi => exact absurd hi (by simp)
theorem blk_L {κ : Kd} {b : Nat} {cs ds : List va_E} {H : Heap} (h : va_P κ.1 vwCl (blkW b (cs ++ ds)) H) : va_P κ.1 vwCl (blkW b cs) H ∧ va_P κ.1 vwCl (blkW (b + cs.length) ds) H := by
  rw [blk_app] at h
  refine ⟨fun k q hq => h k q ?_, fun k q hq => h (cs.length + k) q ?_⟩
  · rw [List.getElem?_append_left (List.getElem?_eq_some_iff.mp hq).1]; exact hq
  · rw [List.getElem?_append_right (by rw [blk_len]; omega), blk_len, show cs.length + k - cs.length = k by omega]; exact hq
set_option maxRecDepth 100000 in
theorem whole_start {p : Program} {e : Env} {s : State} {m : MethodId} {below : List Frame} {meth : Method} {c : Code} (l : Launch) (hflags : l.flags = flags0) {b L : Nat} {xs : Nat → Int32} (hL : L ≤ 3072) (C0 : lw_At p s m meth c b L xs) : W p l e room_1 s m #[Value.ref b] below meth c s.heap [] 0 0 (lw_Z below #[Value.ref b] s) (entryFrame m ([Value.ref b] : List Value).toArray 4) := by
  obtain ⟨hx, hb, hr, hml, hown, hts, hX, hbl, hlocks, hgv⟩ := id C0
  obtain ⟨ad, hZ⟩ := st_str hts hgv
  obtain ⟨κ, hK⟩ := st_K hts
  have hN := st_N hts
  have hW : ∀ u ∈ WL, u.before #[Value.ref b] s = true := fun u hu => hts u (WL_tbl hu)
  have hown : s.vm.findClass RL = some m.cls := hown
  have hb : c.code = cL_law := hb
  have hS : StdL (p, l, e, s, m, b, below, meth, c) κ ad L xs := ⟨hx, hb, hml, hown, hW, hK, hr, hlocks, hN.1, hX, hbl, hZ⟩
  have hP0 : va_P κ.1 vwCl (blkW s.heap.size []) s.heap := fun k q h => by rw [blk_get] at h; simp at h
  have hl := lv_entry ([.ref b]) (n := 4) (Nat.le_of_ble_eq_true rfl)
  rw [lg_entry_eq]
  generalize (lg_sl ([.ref b]) ++ List.replicate (4 - (lg_sl ([.ref b])).length) Slot.unset).toArray = ls at hl ⊢
  have hl : lvh ls 4 [some (.ref b), none, none, none] := lvh_1 hl
  refine l_new (cs := []) (C := RX11) (T := TX11) (N := 12) (ci := 11) (ty := tyX11) (fs := dfX11) hx hb hW hown hK rfl inlX11 tyX11_ok clL_7 isX11 izX11 dfX11_ok rfl (Nat.le_of_ble_eq_true rfl) (Nat.le_of_ble_eq_true rfl) dL_law_0 hP0 va_S.rf (fun H hP hV hH => ?_)
  refine lv_dup hx hb dL_law_3 rfl ?_
  refine l_init (cs := []) (R2 := RmAi) (csC := aiC κ (s.heap.size + 0)) hx hb hml hW hown hK hN hl.1 (c_ai_init l κ (s.heap.size + 0)) mgX11 mlL_9 (Nat.le_of_ble_eq_true rfl) (Nat.le_of_ble_eq_true rfl) (Nat.le_of_ble_eq_true rfl) (Nat.le_of_ble_eq_true rfl) dL_law_4 hP hV hH (fun H1 locs1 hP1 hV1 => ?_)
  have hP1 : va_P κ.1 vwCl (blkW s.heap.size (aiC κ s.heap.size)) H1 := hP1
  refine lv_astore_n hx hb dL_law_7 rfl (lvh_has hl) (by decide) rfl (fun ls1 hl1 => ?_)
  have hl1 : lvh ls1 4 [some (.ref b), some (rf (wAl κ s.heap.size) 0), none, none] := lvh_st1 hl1 rfl
  refine l_new (cs := aiC κ s.heap.size) (cn := 347) (C := RX12) (T := TX12) (N := 41) (ci := 12) (ty := tyX12) (fs := dfX12) hx hb hW hown hK rfl inlX12 tyX12_ok clL_10 isX12 izX12 dfX12_ok (aiC_len κ _) (Nat.le_of_ble_eq_true rfl) (Nat.le_of_ble_eq_true rfl) dL_law_8 hP1 hV1 (fun H2 hP2 hV2 hH2 => ?_)
  refine lv_dup hx hb dL_law_11 rfl ?_
  refine l_init (cs := aiC κ s.heap.size) (R2 := RmMd) (csC := mdC κ (s.heap.size + (aiC κ s.heap.size).length)) hx hb hml hW hown hK hN hl1.1 (c_md_init l κ _) mgX12 mlL_12 (Nat.le_of_ble_eq_true rfl) (Nat.le_of_ble_eq_true rfl) (Nat.le_of_ble_eq_true rfl) (Nat.le_of_ble_eq_true rfl) dL_law_12 hP2 hV2 hH2 (fun H3 locs3 hP3 hV3 => ?_)
  obtain ⟨hPA, hPB⟩ := blk_L hP3
  rw [aiC_len] at hPB ⊢
  rw [ai_wld] at hPA
  rw [md_wld] at hPB
  refine lv_astore_n hx hb dL_law_15 rfl (lvh_has hl1) (by decide) rfl (fun ls2 hl2 => ?_)
  have hl2 : lvh ls2 4 [some (.ref b), some (rf (wAl κ s.heap.size) 0), some (rf (wBl κ s.heap.size) 0), none] := lvh_st1 hl2 rfl
  refine lv_iconst (v := I3 0) hx hb dL_law_16 rfl ?_
  refine lv_istore_n hx hb dL_law_17 rfl (lvh_has hl2) (by decide) rfl (fun ls3 hl3 => ?_)
  have hl3 : lvh ls3 4 (LL (p, l, e, s, m, b, below, meth, c) κ 0) := lvh_st1 hl3 rfl
  refine W.widen (k := 600000) (n := 7302250) (Nat.le_of_ble_eq_true rfl) (Nat.le_of_ble_eq_true rfl) ?_
  exact l_loop hS hL (L + 1) 0 (Fb stW) mB0 (by omega) (Nat.zero_le _) inv_0 H3 locs3 ls3 hPA hPB hV3 hl3
