/-! ===== composite rows of the two great constructors ===== -/
theorem mid_get {α : Type} (x y : α) (rs zs : List α) : (x :: (rs ++ y :: zs))[rs.length + 1]? = some y := by
  rw [List.getElem?_cons_succ, List.getElem?_append_right (Nat.le_refl _), Nat.sub_self]; rfl
theorem mid_set {α : Type} (x y y' : α) (rs zs : List α) : (x :: (rs ++ y :: zs)).set (rs.length + 1) y' = x :: (rs ++ y' :: zs) := by
  rw [List.set_cons_succ, List.set_append_right _ _ (Nat.le_refl _), Nat.sub_self]; rfl
section GM
variable {X : Cg} {R : Room} {κ : Kd} {b : Nat} {fin : List va_E} {pc : Nat} {L : List (Option Value)} {st : List Value} {rs : List va_E} {cn sn : Nat} {cc : ByteArray} {own : String}
/-- one State into an array of States that stands behind rs -/
theorem g_img1 (hS : StdG X R κ b cc own) {j n c0 s0 i1 i2 cn' sn' : Nat} {x0 : va_E} (hlen : rs.length = c0) (hj : j < n) (hn : n ≤ 100) (d0 : decode cc pc = .ok (.dup, 1)) (d1 : decode cc (pc + 1) = .ok (.iconst (j : Int), 1)) (d2 : decode cc (pc + 2) = .ok (.new i1, 3)) (d3 : decode cc (pc + 5) = .ok (.dup, 1)) (d4 : decode cc (pc + 6) = .ok (.invokespecial i2, 3)) (d5 : decode cc (pc + 9) = .ok (.aastore, 1)) (h1 : Cond.classLink own i1 RX8 ∈ WL) (h2 : (own, i2, yX8_init) ∈ NW) (hf : 4 ≤ R.frames) (hlo : 75 ≤ R.locals) (hrc : cn + 25 ≤ R.cells) (hrs : sn + 1004 ≤ R.slots) (hst : (st.map fun v => v.category).sum ≤ 4) (hcn0 : cn = c0 + 1 + 25 * j) (hcn : cn + 25 = cn') (hsn : sn + 1004 = sn')
    (kk : Sg X R κ b fin (pc + 10) L (.ref (b + (c0 + 1)) :: st) (x0 :: (rs ++ (rgC κ b (c0 + 2) (j + 1) n :: stasC κ b (c0 + 2) (j + 1)))) cn' sn') : Sg X R κ b fin pc L (.ref (b + (c0 + 1)) :: st) (x0 :: (rs ++ (rgC κ b (c0 + 2) j n :: stasC κ b (c0 + 2) j))) cn sn := by
  subst hcn; subst hsn; subst hlen
  have hw : wr (j : Int) = (j : Int) := wr_id (by omega) (by omega)
  have hl : (x0 :: (rs ++ (rgC κ b (rs.length + 2) j n :: stasC κ b (rs.length + 2) j)) : List va_E).length = rs.length + 2 + 25 * j := by
    rw [List.length_cons, List.length_append, List.length_cons, stasC_len]; omega
  refine g_dup hS rfl d0 ?_
  refine g_iconst hS d1 ?_
  refine g_new hS (C := RX8) (T := TX8) (N := 5) (ci := 8) (ty := tyX8) (fs := dfX8) rfl inlX8 tyX8_ok h1 isX8 izX8 dfX8_ok (by rw [hl]; omega) (by omega) (by omega) d2 ?_
  refine g_dup hS rfl d3 ?_
  refine g_initN hS (As := []) (rst := .ref (b + (x0 :: (rs ++ (rgC κ b (rs.length + 2) j n :: stasC κ b (rs.length + 2) j)) : List va_E).length) :: iv (j : Int) :: .ref (b + (rs.length + 1)) :: .ref (b + (rs.length + 1)) :: st) (cs0 := x0 :: (rs ++ (rgC κ b (rs.length + 2) j n :: stasC κ b (rs.length + 2) j))) (c_sta_init X.2.1 κ _) mgX8 h2 rfl (by rw [hl]; omega) (by show 3 + 1 ≤ R.frames; omega) (by show 8 + (1 + 11) + 55 ≤ R.locals; omega) (by show cn + 1 + 24 ≤ R.cells; omega) (by show sn + 5 + 999 ≤ R.slots; omega) ?_ rfl rfl d4 ?_
  · show 1 + (1 + (1 + (1 + (st.map fun v => v.category).sum))) ≤ 8
    omega
  rw [hl]
  have hk : (x0 :: (rs ++ (rgC κ b (rs.length + 2) j n :: stasC κ b (rs.length + 2) j)) ++ staC κ (b + (rs.length + 2 + 25 * j)) : List va_E)[rs.length + 2 + 25 * j]? = (staC κ (b + (rs.length + 2 + 25 * j)))[0]? := by
    rw [List.getElem?_append_right (by rw [hl]; exact Nat.le_refl _), hl, Nat.sub_self]
  have e : (x0 :: (rs ++ (rgC κ b (rs.length + 2) j n :: stasC κ b (rs.length + 2) j)) ++ staC κ (b + (rs.length + 2 + 25 * j)) : List va_E) = x0 :: (rs ++ (rgC κ b (rs.length + 2) j n :: stasC κ b (rs.length + 2) (j + 1))) := by
    show x0 :: ((rs ++ (rgC κ b (rs.length + 2) j n :: stasC κ b (rs.length + 2) j)) ++ staC κ (b + (rs.length + 2 + 25 * j))) = _
    rw [List.append_assoc]
    rfl
  rw [e] at hk
  rw [e]
  refine g_aast hS (j := rs.length + 1) (N := n) (f := rgF b (rs.length + 2) j) (k := rs.length + 2 + 25 * j) (i := (j : Int)) (vs := [.ref (b + (rs.length + 2 + 25 * j) + 1), .ref (b + (rs.length + 2 + 25 * j) + 10), iv 4, iv 0, iv 35]) (mid_get _ _ _ _) (by rw [hk]; rfl) (by rw [hw]; omega) d5 (cs' := x0 :: (rs ++ (rgC κ b (rs.length + 2) (j + 1) n :: stasC κ b (rs.length + 2) (j + 1)))) ?_ kk
  rw [mid_set, hw, show ((j : Int)).toNat = j by omega, rg_up]
  rfl
/-- this.f = new int[N] -/
theorem g_arrI (hS : StdG X R κ b cc own) {ci k N p2 i3 cn' sn' : Nat} {fs fs' : List Value} {rs' : List va_E} (hN : N ≤ 100000) (hL : L[0]? = some (some (.ref b))) (d0 : decode cc pc = .ok (.aload_n 0, 1))
    (hpush : ∀ (st' : List Value) (cs' : List va_E) (c2 s2 : Nat), Sg X R κ b fin p2 L (iv (N : Int) :: st') cs' c2 s2 → Sg X R κ b fin (pc + 1) L st' cs' c2 s2) (d3 : decode cc p2 = .ok (.newarray .int, 2)) (d4 : decode cc (p2 + 2) = .ok (.putfield i3, 3)) (hp : PG own i3 ci k (.array .int)) (hk : k < fs.length) (hlen : rs.length = cn) (hrc : cn + 1 ≤ R.cells) (hrs : sn + N ≤ R.slots) (hcn : cn + 1 = cn') (hsn : sn + N = sn') (hfs : fs.set k (.ref (b + (cn + 1))) = fs') (hrs' : rs ++ [.inl (κ.2.1, N, .inl (fun _ => I3 0))] = rs')
    (kk : Sg X R κ b fin (p2 + 5) L [] (.inr (ci, fs') :: rs') cn' sn') : Sg X R κ b fin pc L [] (.inr (ci, fs) :: rs) cn sn := by
  subst hfs; subst hcn; subst hsn; subst hrs'
  have hl : (.inr (ci, fs) :: rs : List va_E).length = cn + 1 := by rw [List.length_cons, hlen]
  refine g_aload hS d0 hL (hpush _ _ _ _ ?_)
  refine g_newaI hS arI (wr_id (by omega) (by omega)) hN hl hrc hrs d3 ?_
  rw [hl]
  refine g_put hS hp rfl rfl rfl hk d4 rfl ?_
  exact kk
theorem g_arrZ (hS : StdG X R κ b cc own) {ci k N p2 i3 cn' sn' : Nat} {fs fs' : List Value} {rs' : List va_E} (hN : N ≤ 100000) (hL : L[0]? = some (some (.ref b))) (d0 : decode cc pc = .ok (.aload_n 0, 1))
    (hpush : ∀ (st' : List Value) (cs' : List va_E) (c2 s2 : Nat), Sg X R κ b fin p2 L (iv (N : Int) :: st') cs' c2 s2 → Sg X R κ b fin (pc + 1) L st' cs' c2 s2) (d3 : decode cc p2 = .ok (.newarray .boolean, 2)) (d4 : decode cc (p2 + 2) = .ok (.putfield i3, 3)) (hp : PG own i3 ci k (.array .boolean)) (hk : k < fs.length) (hlen : rs.length = cn) (hrc : cn + 1 ≤ R.cells) (hrs : sn + N ≤ R.slots) (hcn : cn + 1 = cn') (hsn : sn + N = sn') (hfs : fs.set k (.ref (b + (cn + 1))) = fs') (hrs' : rs ++ [.inl (κ.2.2.1, N, .inl (fun _ => I3 0))] = rs')
    (kk : Sg X R κ b fin (p2 + 5) L [] (.inr (ci, fs') :: rs') cn' sn') : Sg X R κ b fin pc L [] (.inr (ci, fs) :: rs) cn sn := by
  subst hfs; subst hcn; subst hsn; subst hrs'
  have hl : (.inr (ci, fs) :: rs : List va_E).length = cn + 1 := by rw [List.length_cons, hlen]
  refine g_aload hS d0 hL (hpush _ _ _ _ ?_)
  refine g_newaZ hS arZ (wr_id (by omega) (by omega)) hN hl hrc hrs d3 ?_
  rw [hl]
  refine g_put hS hp rfl rfl rfl hk d4 rfl ?_
  exact kk
/-- an array of ints written down one by one -/
def ltI (l : List Int) : Nat → Int32 := fun k => I3 (l.getD k 0)
theorem ltI_0 : (fun _ => I3 0) = ltI [] := rfl
theorem ltI_up (l : List Int) (v : Int) : upd (ltI l) l.length (I3 v) = ltI (l ++ [v]) := by
  funext k
  unfold upd ltI
  by_cases h : k = l.length
  · subst h
    simp
  · by_cases h2 : k < l.length
    · simp [h, h2, List.getElem?_append_left h2]
    · have h3 : l.length ≤ k := by omega
      have h4 : (l ++ [v])[k]? = none := List.getElem?_eq_none (by rw [List.length_append]; show l.length + 1 ≤ k; omega)
      have h5 : l[k]? = none := List.getElem?_eq_none h3
      simp [h, List.getD, h4, h5]
theorem g_elt (hS : StdG X R κ b cc own) {N c0 p2 p3 : Nat} {x0 : va_E} {l l' : List Int} {v : Int} (hlen : rs.length = c0) (hN : l.length < N) (hN2 : N ≤ 100000) (d0 : decode cc pc = .ok (.dup, 1)) (hp1 : ∀ (st' : List Value) (cs' : List va_E), Sg X R κ b fin p2 L (iv (l.length : Int) :: st') cs' cn sn → Sg X R κ b fin (pc + 1) L st' cs' cn sn) (hp2 : ∀ (st' : List Value) (cs' : List va_E), Sg X R κ b fin p3 L (iv v :: st') cs' cn sn → Sg X R κ b fin p2 L st' cs' cn sn) (d1 : decode cc p3 = .ok (.iastore, 1)) (hl' : l ++ [v] = l')
    (kk : Sg X R κ b fin (p3 + 1) L (.ref (b + (c0 + 1)) :: st) (x0 :: (rs ++ [.inl (κ.2.1, N, .inl (ltI l'))])) cn sn) : Sg X R κ b fin pc L (.ref (b + (c0 + 1)) :: st) (x0 :: (rs ++ [.inl (κ.2.1, N, .inl (ltI l))])) cn sn := by
  subst hlen; subst hl'
  have hw : wr (l.length : Int) = (l.length : Int) := wr_id (by omega) (by omega)
  refine g_dup hS rfl d0 (hp1 _ _ (hp2 _ _ ?_))
  refine g_iast hS (j := rs.length + 1) (N := N) (f := ltI l) (mid_get _ _ _ _) (by rw [hw]; omega) d1 (cs' := x0 :: (rs ++ [.inl (κ.2.1, N, .inl (ltI (l ++ [v])))])) ?_ kk
  rw [mid_set, hw, show ((l.length : Int)).toNat = l.length by omega, ltI_up]
end GM
