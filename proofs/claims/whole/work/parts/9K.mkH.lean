/-! ===== History's constructor: a loop ===== -/
section GROW3
variable {X : Cg} {R : Room} {κ : Kd} {b : Nat} {fin : List va_E} {pc : Nat} {L : List (Option Value)} {st : List Value} {cs : List va_E} {cn sn : Nat} {cc : ByteArray} {own : String}
theorem g_goto (hS : StdG X R κ b cc own) {off : Int} {tgt : Nat} (hd : decode cc pc = .ok (.goto off, 3)) (ht : (pc : Int) + off = (tgt : Int)) (k : Sg X R κ b fin tgt L st cs cn sn) : Sg X R κ b fin pc L st cs cn sn := by
  obtain ⟨p, l, e, s, m, args, below, meth, c, nX⟩ := X
  obtain ⟨hx, hb, hml, hown, hts, hK, hsz, hr, hlk2, hin2, hnst, hf⟩ := hS
  intro H locs ls hP hV hl
  exact lv_goto hx hb hd ht (k H locs ls hP hV hl)
theorem g_icmpge (hS : StdG X R κ b cc own) {a a2 : Int} {off : Int} {tgt : Nat} (hd : decode cc pc = .ok (.if_icmp .ge off, 3)) (ht : (pc : Int) + off = (tgt : Int)) (k1 : wr a2 ≤ wr a → Sg X R κ b fin tgt L st cs cn sn) (k2 : wr a < wr a2 → Sg X R κ b fin (pc + 3) L st cs cn sn) : Sg X R κ b fin pc L (iv a2 :: iv a :: st) cs cn sn := by
  obtain ⟨p, l, e, s, m, args, below, meth, c, nX⟩ := X
  obtain ⟨hx, hb, hml, hown, hts, hK, hsz, hr, hlk2, hin2, hnst, hf⟩ := hS
  intro H locs ls hP hV hl
  refine lv_icmp_ge hx hb hd ht (fun q => ?_) (fun q => ?_)
  · have q : wr a2 ≤ wr a := by have q2 := q; simp only [I3_lt, I3_eq, I3_le, wr_0] at q2; omega
    exact k1 q H locs ls hP hV hl
  · have q : wr a < wr a2 := by have q2 := q; simp only [I3_lt, I3_eq, I3_le, wr_0] at q2; omega
    exact k2 q H locs ls hP hV hl
theorem g_istore_n (hS : StdG X R κ b cc own) {j : Fin 4} {n : Int} {L' : List (Option Value)} (hd : decode cc pc = .ok (.istore_n j, 1)) {nL : Nat} (hN : cgn X = nL) (hn : j.val < nL) (hp : prv L j.val = true) (hL : L.set j.val (some (iv n)) = L') (k : Sg X R κ b fin (pc + 1) L' st cs cn sn) : Sg X R κ b fin pc L (iv n :: st) cs cn sn := by
  obtain ⟨p, l, e, s, m, args, below, meth, c, nX⟩ := X
  obtain ⟨hx, hb, hml, hown, hts, hK, hsz, hr, hlk2, hin2, hnst, hf⟩ := hS
  intro H locs ls hP hV hl
  subst hL; subst hN
  exact lv_istore_n hx hb hd rfl (lvh_has hl) hn rfl (fun ls' hl' => k H locs ls' hP hV (lvh_st1 hl' hp))
theorem g_iinc (hS : StdG X R κ b cc own) {i : Nat} {n d : Int} {L' : List (Option Value)} (hd : decode cc pc = .ok (.iinc i d, 3)) (hi : L[i]? = some (some (iv n))) {nL : Nat} (hN : cgn X = nL) (hn : i < nL) (hp : prv L i = true) (hL : L.set i (some (iv (n + d))) = L') (k : Sg X R κ b fin (pc + 3) L' st cs cn sn) : Sg X R κ b fin pc L st cs cn sn := by
  obtain ⟨p, l, e, s, m, args, below, meth, c, nX⟩ := X
  obtain ⟨hx, hb, hml, hown, hts, hK, hsz, hr, hlk2, hin2, hnst, hf⟩ := hS
  intro H locs ls hP hV hl
  subst hL; subst hN
  obtain ⟨q, hq⟩ := List.getElem?_of_mem (lvl_mem hi)
  exact lv_iinc hx hb hd (lvh_has hl) hq (v := I3 (n + d)) (by rw [I3_add]; rfl) hn rfl (fun ls' hl' => k H locs ls' hP hV (lvh_st1 hl' hp))
end GROW3
/-- the array of States, j of them there, the first at offset o, 25 cells each -/
def rgF (q o j : Nat) : Nat → Option Nat := fun k => if k < j then some (q + (o + 25 * k)) else none
def rgC (κ : Kd) (q o j n : Nat) : va_E := .inl (κ.2.2.2, n, .inr (.inr (.inr (.inr (rgF q o j)))))
def stasC (κ : Kd) (q o : Nat) : Nat → List va_E
  | 0 => []
  | j + 1 => stasC κ q o j ++ staC κ (q + (o + 25 * j))
theorem staC_len (κ : Kd) (q : Nat) : (staC κ q).length = 25 := rfl
theorem stasC_len (κ : Kd) (q o : Nat) : ∀ j, (stasC κ q o j).length = 25 * j
  | 0 => rfl
  | j + 1 => by
    show (stasC κ q o j ++ staC κ (q + (o + 25 * j))).length = _
    rw [List.length_append, stasC_len κ q o j, staC_len]; omega
theorem rg_up (q o j : Nat) : va_up (rgF q o j) j (some (q + (o + 25 * j))) = rgF q o (j + 1) := by
  funext k
  unfold va_up rgF
  by_cases h : k = j
  · subst h; rw [if_pos rfl, if_pos (by omega)]
  · rw [if_neg h]
    by_cases h2 : k < j
    · rw [if_pos h2, if_pos (by omega)]
    · rw [if_neg h2, if_neg (by omega)]
theorem rg_0 (q o : Nat) : (fun _ => none : Nat → Option Nat) = rgF q o 0 := by
  funext k
  unfold rgF
  rw [if_neg (by omega)]
theorem sta_0 (κ : Kd) (q : Nat) : ∃ vs, (staC κ q)[0]? = some (.inr (8, vs)) := ⟨_, rfl⟩
def hisC (κ : Kd) (q : Nat) : List va_E := .inr (2, [iv 0, iv 0, .ref (q + 1)]) :: (rgC κ q 2 8 8 :: stasC κ q 2 8)
set_option maxRecDepth 100000 in
theorem k_his {X : Cg} {κ : Kd} {q : Nat} (hS : StdG X { frames := 4, cells := 201, slots := 8040, locals := 75 } κ q cX2_init RX2) (hN : cgn X = 2) : ∀ (m j : Nat), j + m = 8 → Sg X { frames := 4, cells := 201, slots := 8040, locals := 75 } κ q (hisC κ q) 25 [some (.ref q), some (iv (j : Int))] [] (.inr (2, [iv 0, iv 0, .ref (q + 1)]) :: (rgC κ q 2 j 8 :: stasC κ q 2 j)) (1 + 25 * j) (8 + 1004 * j) := by
  intro m
  induction m with
  | zero =>
    intro j hj
    have hj8 : j = 8 := by omega
    subst hj8
    refine g_iload hS dX2_init_25 rfl ?_
    refine g_aload hS dX2_init_26 rfl ?_
    refine g_get hS flX2_20 rfl rfl dX2_init_27 ?_
    refine g_alenR hS (j := 1) (N := 8) (f := rgF q 2 8) rfl dX2_init_30 ?_
    refine g_icmpge hS (tgt := 53) dX2_init_31 (by decide) (fun _ => ?_) (fun h => absurd h (by decide))
    exact g_ret hS rfl rfl rfl dX2_init_53
  | succ m ih =>
    intro j hj
    have hw : wr (j : Int) = (j : Int) := wr_id (by omega) (by omega)
    refine g_iload hS dX2_init_25 rfl ?_
    refine g_aload hS dX2_init_26 rfl ?_
    refine g_get hS flX2_20 rfl rfl dX2_init_27 ?_
    refine g_alenR hS (j := 1) (N := 8) (f := rgF q 2 j) rfl dX2_init_30 ?_
    refine g_icmpge hS (tgt := 53) dX2_init_31 (by decide) (fun h => absurd h (by rw [hw, show wr ((8 : Nat) : Int) = 8 from by decide]; omega)) (fun _ => ?_)
    refine g_aload hS dX2_init_34 rfl ?_
    refine g_get hS flX2_20 rfl rfl dX2_init_35 ?_
    refine g_iload hS dX2_init_38 rfl ?_
    have hlen : (.inr (2, [iv 0, iv 0, .ref (q + 1)]) :: (rgC κ q 2 j 8 :: stasC κ q 2 j) : List va_E).length = 2 + 25 * j := by
      rw [List.length_cons, List.length_cons, stasC_len]; omega
    refine g_new hS (C := RX8) (T := TX8) (N := 5) (ci := 8) (ty := tyX8) (fs := dfX8) rfl inlX8 tyX8_ok clX2_18 isX8 izX8 dfX8_ok (by rw [hlen]; omega) (by show 1 + 25 * j + 1 ≤ 201; omega) (by show 8 + 1004 * j + 5 ≤ 8040; omega) dX2_init_39 ?_
    refine g_dup hS rfl dX2_init_42 ?_
    refine g_initN hS (As := []) (rst := [.ref (q + (.inr (2, [iv 0, iv 0, .ref (q + 1)]) :: (rgC κ q 2 j 8 :: stasC κ q 2 j) : List va_E).length), iv (j : Int), .ref (q + 1)]) (cs0 := .inr (2, [iv 0, iv 0, .ref (q + 1)]) :: (rgC κ q 2 j 8 :: stasC κ q 2 j)) (c_sta_init X.2.1 κ _) mgX8 nwX2_24 rfl (by rw [hlen]; omega) (Nat.le_of_ble_eq_true rfl) (Nat.le_of_ble_eq_true rfl) (by show 1 + 25 * j + 1 + 24 ≤ 201; omega) (by show 8 + 1004 * j + 5 + 999 ≤ 8040; omega) (Nat.le_of_ble_eq_true rfl) rfl rfl dX2_init_43 ?_
    rw [hlen]
    have hk : (.inr (2, [iv 0, iv 0, .ref (q + 1)]) :: (rgC κ q 2 j 8 :: stasC κ q 2 j) ++ staC κ (q + (2 + 25 * j)) : List va_E)[2 + 25 * j]? = (staC κ (q + (2 + 25 * j)))[0]? := by
      rw [List.getElem?_append_right (by rw [hlen]; exact Nat.le_refl _), hlen, Nat.sub_self]
    refine g_aast hS (j := 1) (N := 8) (f := rgF q 2 j) (k := 2 + 25 * j) (i := (j : Int)) (vs := [.ref (q + (2 + 25 * j) + 1), .ref (q + (2 + 25 * j) + 10), iv 4, iv 0, iv 35]) rfl (by rw [hk]; rfl) (by rw [hw]; omega) dX2_init_46 (cs' := .inr (2, [iv 0, iv 0, .ref (q + 1)]) :: (rgC κ q 2 (j + 1) 8 :: stasC κ q 2 (j + 1))) ?_ ?_
    · rw [hw, show ((j : Int)).toNat = j by omega, rg_up]
      rfl
    · refine g_iinc hS (L' := [some (.ref q), some (iv ((j : Int) + 1))]) dX2_init_47 rfl hN (Nat.le_of_ble_eq_true rfl) rfl rfl ?_
      refine g_goto hS (tgt := 25) dX2_init_50 (by decide) ?_
      have := ih (j + 1) (by omega)
      rw [show (((j + 1 : Nat)) : Int) = (j : Int) + 1 by omega, show 1 + 25 * (j + 1) = 1 + 25 * j + 1 + 24 by omega, show 8 + 1004 * (j + 1) = 8 + 1004 * j + 5 + 999 by omega] at this
      exact this
set_option maxRecDepth 100000 in
theorem c_his_init (l : Launch) (κ : Kd) (q : Nat) : CtrG l κ q yX2_init cX2_init 2 { frames := 4, cells := 201, slots := 8040, locals := 75 } 2 dfX2 [.ref q] (hisC κ q) := by
  refine met_ofG (own := RX2) (by decide) rfl rfl (Nat.le_of_ble_eq_true rfl) (Nat.le_of_ble_eq_true rfl) (fun X hXl hN2 hS => ⟨[some (.ref q), none], ⟨1, rfl⟩, ?_⟩)
  refine g_aload hS dX2_init_0 rfl ?_
  refine g_obj hS obX2 obI obC dX2_init_1 (Nat.le_of_ble_eq_true rfl) ?_
  refine g_aload hS dX2_init_4 rfl ?_
  refine g_iconst hS dX2_init_5 ?_
  refine g_put hS (pg_of (ty0 := tyX2) flX2_9 rfl tyX2_ok nmX2 (Or.inl rfl) rfl) rfl rfl rfl (Nat.le_of_ble_eq_true rfl) dX2_init_6 (cs' := [.inr (2, [iv 0, iv 0, .null])]) rfl ?_
  refine g_aload hS dX2_init_9 rfl ?_
  refine g_iconst hS dX2_init_10 ?_
  refine g_put hS (pg_of (ty0 := tyX2) flX2_15 rfl tyX2_ok nmX2 (Or.inl rfl) rfl) rfl rfl rfl (Nat.le_of_ble_eq_true rfl) dX2_init_11 (cs' := [.inr (2, [iv 0, iv 0, .null])]) rfl ?_
  refine g_aload hS dX2_init_14 rfl ?_
  refine g_bipush hS dX2_init_15 rfl ?_
  refine g_anew hS (N := 8) clX2_18 (by decide) (by decide) rfl (Nat.le_of_ble_eq_true rfl) (Nat.le_of_ble_eq_true rfl) dX2_init_17 ?_
  rw [rg_0 q 2]
  refine g_put hS (pg_of (ty0 := tyX2) flX2_20 rfl tyX2_ok nmX2 (Or.inr ⟨rfl, rfl⟩) rfl) rfl rfl rfl (Nat.le_of_ble_eq_true rfl) dX2_init_20 (cs' := .inr (2, [iv 0, iv 0, .ref (q + 1)]) :: (rgC κ q 2 0 8 :: stasC κ q 2 0)) rfl ?_
  refine g_iconst hS dX2_init_23 ?_
  refine g_istore_n hS (L' := [some (.ref q), some (iv ((0 : Nat) : Int))]) dX2_init_24 hN2 (Nat.le_of_ble_eq_true rfl) rfl rfl ?_
  exact k_his hS hN2 8 0 (by omega)
