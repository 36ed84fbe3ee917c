/-! ===== pieceText: a String constant is returned; and the call of it ===== -/
section LDW
variable {p : Program} {l : Launch} {e : Env} {R : Room} {s : State} {m : MethodId} {args : Array Value} {below : List Frame} {meth : Method} {c : Code} {H : Heap} {locs : List Loc} {cells slots : Nat} {Q : State → Prop}
theorem st_ldcw {T : State} (X : Stand p l e R s m args below meth c T locs cells slots) (hexec : p.tables.exec = Jvm.exec) {own text : String} {index : Nat} {a : Addr} (hown : s.vm.findClass own = some m.cls)
    (hconst : (Cond.stringRef own index text).before args s = true) (hev : (Term.string own index).eval args s none [] s = some (.ref a)) {g : JFrame} (hg : g.method = m) (hdg : decode c.code g.pc = .ok (.ldc_w index, 3)) :
    ∀ target, Steps p.tables e below (T.setTop { g with pc := g.pc + 3, stack := .ref a :: g.stack }) target → Steps p.tables e below (T.setTop g) target := by
  obtain ⟨k, cf, i, a', hk, hcf, hcp, -, hr, hev'⟩ := Cond.stringRef_spec hown hconst
  cases hev.symm.trans hev'
  obtain ⟨k', hk', he⟩ := X.warmed.alike.2.2 _ _ hk
  have hr' : k'.resolved[index]? = some (some (.string a)) := by
    rcases X.warmed.entry hk hk' index with h | ⟨h, -⟩
    · rw [h]; exact hr
    · rw [hr] at h; cases h
  intro target hrest
  subst hg
  jvm_step X.here [hexec, hdg, ldc_w.wp_string (e := e) (s := T) (f := g) X.here.top hk' (by rw [he]; exact hcf) hcp hr']
  exact hrest
theorem va_ldcw {cc : ByteArray} {pc : Nat} {ls : Array Slot} {rest : List Value} (hexec : p.tables.exec = Jvm.exec) (hb : c.code = cc) {own tx : String} {index q : Nat} (hown : s.vm.findClass own = some m.cls) (hZ : vk_R own index tx q s) (hdg : decode cc pc = .ok (.ldc_w index, 3))
    (k : W p l e R s m args below meth c H locs cells slots Q (F0 m (pc + 3) ls (.ref q :: rest))) : W p l e R s m args below meth c H locs cells slots Q (F0 m pc ls rest) := by
  intro T hT X
  obtain ⟨t, a1, b1⟩ := k T hT X
  exact ⟨t, st_ldcw X hexec hown (text := tx) (a := q) hZ.1 hZ.2 (g := F0 m pc ls rest) rfl (by rw [hb]; exact hdg) t a1, b1⟩
end LDW
def QcP (w : Wd) (q : Nat) (σ : Mem) (A : Nat → Prop) : Array Value → State → Outcome → State → Prop := fun _ st oc t => oc = .returned (some (.ref q)) ∧ va_P w.1 vwCl (wld w σ) t.heap ∧ va_K w.1 vwCl (tyL w) t ∧ va_F A st t
theorem pt_d1 : ∀ n, n < 16 → decode cX11_pieceText (76 + 4 * n) = .ok (.ldc_w (396 + 2 * n), 3) := by decide +kernel
theorem pt_d2 : ∀ n, n < 16 → decode cX11_pieceText (76 + 4 * n + 3) = .ok (.areturn, 1) := by decide +kernel
theorem pt_o : ∀ n : Nat, n < 15 → (#[75, 79, 83, 87, 91, 95, 99, 103, 107, 111, 115, 119, 123, 127, 131] : Array Int)[n]? = some (75 + 4 * (n : Int)) := by decide +kernel
theorem m_pieceText (l : Launch) (w : Wd) (ad : Ad) (σ : Mem) (sz : Nat) (n : Int) (h0 : 0 ≤ wr n) (h1 : wr n < 16) : Met l yX11_pieceText (.code yX11_pieceText cX11_pieceText 1 (some (.object "java/lang/String")) :: WL) (rmN 0 0) (PcS w ad [iv n] σ sz) (QcP w (ad.1 (wr n).toNat) σ (va_A (wld w σ) sz)) 0 0 (va_A (wld w σ) sz) := by
  refine Met.ofW (cc := cX11_pieceText) (maxL := 1) (ret := some (.object "java/lang/String")) (by decide) rfl ?_
  intro p e s m args below meth c s₁ B hml hv
  obtain ⟨rfl, ⟨hsz, hP, hK, hD0, hnst⟩, hZ⟩ := hv
  have hown : s.vm.findClass RX11 = some m.cls := findClass_of_methodNamed B.named
  subst hsz
  have hl := lv_entry [iv n] (n := 1) (Nat.le_of_ble_eq_true rfl)
  rw [lg_entry_eq]
  obtain ⟨j, hj⟩ : ∃ j : Nat, wr n = (j : Int) := ⟨(wr n).toNat, by omega⟩
  have hj16 : j < 16 := by omega
  have hjn : (wr n).toNat = j := by omega
  rw [hjn]
  refine lv_iload_n B.exec B.bytes dX11_pieceText_0 rfl (hl.2.2 (0, iv n) (by simp [lv_args])) ?_
  have fin : ∀ ls : Array Slot, W p l e (rmN 0 0) s m [iv n].toArray below meth c s.heap [] 0 0 (MQ below (QcP w (ad.1 j) σ (va_A (wld w σ) s.heap.size)) [iv n].toArray s 0 0 (va_A (wld w σ) s.heap.size)) (F0 m (76 + 4 * j) ls []) := by
    intro ls
    refine va_ldcw B.exec B.bytes hown (hZ.2.1 j hj16) (pt_d1 j hj16) ?_
    exact W.aret (v := .ref (ad.1 j)) (rt := .object "java/lang/String") B.exec B.bytes B.returns (Or.inl ⟨_, rfl⟩) (Or.inr ⟨_, rfl⟩) (fun t ht hW => ⟨rfl, by rw [ht]; exact hP, va_K.moved hW.alike hK, va_S.rf.F ht⟩) (fun q hq => absurd hq List.not_mem_nil) (pt_d2 j hj16) B.notSynchronized
  by_cases h15 : j < 15
  · refine lv_tableIn (x := I3 n) (tgt := 76 + 4 * j) (off := 75 + 4 * (j : Int)) B.exec B.bytes dX11_pieceText_1 (by show ¬ wr n < 0; omega) (by show ¬ 14 < wr n; omega) ?_ (by omega) (fin _)
    have : ((I3 n).toInt - 0).toNat = j := by show (wr n - 0).toNat = j; omega
    rw [this]
    exact pt_o j h15
  · refine lv_tableOut (x := I3 n) (tgt := 76 + 4 * j) B.exec B.bytes dX11_pieceText_1 (Or.inr (by show 14 < wr n; omega)) (by omega) (fin _)
/-- the call of pieceText -/
theorem a_callP {X : Cx} {R : Room} {w : Wd} {rk : Nat} {x : Int × Mem} {pc : Nat} {L : List (Option Value)} {σ : Mem} {E : Option (Int × Mem)} {cc : ByteArray} {ret : Option FieldType} {ad : Ad} (hS : Std X R w cc RX11 ret) (hZ : StrX ad X) {n : Int} {rst : List Value} (h0 : 0 ≤ wr n ∧ wr n < 16)
    (hf : 0 + 1 ≤ R.frames) (hlo : 8 + (1 + 11) + 0 ≤ R.locals) (hrst : (rst.map fun v => v.category).sum ≤ 8) (hd : decode cc pc = .ok (.invokestatic 382, 3))
    (kk : Sm X R w rk x (pc + 3) L (.ref (ad.1 (wr n).toNat) :: rst) σ E) : Sm X R w rk x pc L (iv n :: rst) σ E := by
  obtain ⟨p, l, e, s, m, args, below, meth, c, A, nL⟩ := X
  obtain ⟨hx, hb, hml, hown, hts, hK, hD, hA, hr, hlk, hrc, hrs, hnst⟩ := hS
  intro h H locs ls hP hV hl
  obtain ⟨m1, m3, m4, m6, m7, m8⟩ := msX11_pieceText
  have hM := m_pieceText l w ad σ H.size n h0.1 h0.2
  have hZ' : Str ad A s s.heap := hZ
  have hF : ∀ q, va_A (wld w σ) H.size q → A q := sub_A (hD σ) hA hV
  have hr := va_runS (As := [iv n]) (rest := rst) (g := F0 m pc ls (iv n :: rst)) (locs := locs) (below := below) (e := e) (meth := meth) ⟨hx, hb, hml, hown, hts⟩ hM ⟨callB_of 1 hts (good_ws m4) rfl rfl rfl (hts _ m3) (hts _ mlX11_382) ⟨m6, m7, m8⟩ ⟨hf, hlo⟩, hts _ m1⟩ ⟨PcS_blind w ad _ σ _, fun U hU hW => ⟨rfl, ⟨by rw [hU], by rw [hU]; exact hP, va_K.moved hW.alike hK, (hD σ).weaken (fun _ _ _ _ => trivial), hnst.warm hW⟩, Str.next hZ' hV hU hW hF⟩⟩ rfl rfl hl.1 rfl (by show 2 * 0 + _ ≤ 8; omega) hd ⟨Nat.zero_le _, Nat.zero_le _⟩
  intro T hT XX
  obtain ⟨v, st₀, t, T', LL, h0, X', hL, e1, e2, ⟨hv, hP1, hK1, hz, hk⟩, st⟩ := hr T hT XX
  injection hv with hv
  subst hv
  rw [h0] at hz hk
  obtain ⟨t2, a1, b1⟩ := kk h T'.heap (locs ++ LL) ls (by rw [e1]; exact hP1)
    ⟨Nat.le_trans hV.1 (by rw [e1]; exact hz), fun q h1 h2 => by rw [e1, hk q (Nat.lt_of_lt_of_le h1 hV.1) (fun z => h2 (hF q z))]; exact hV.2.1 q h1 h2, fun q hq => by
      rcases List.mem_append.mp hq with h | h
      · exact hV.2.2 q h
      · exact hF _ (hL q h)⟩ hl T' rfl X'
  exact ⟨t2, st t2 a1, b1⟩
