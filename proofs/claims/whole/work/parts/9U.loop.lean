/-! ===== the law's loop, and its start (written by gen11.py) ===== -/
def tgs : List Nat := [252, 275, 288, 311, 334, 357, 390, 413, 456, 479, 512, 525, 548, 571, 604, 627, 650, 673, 696, 719, 782, 825, 868, 891, 914, 937, 960, 973, 1006, 1019, 1032, 1045, 1068, 1101, 1134, 1167, 1200, 1233, 1256, 1289, 1322, 1355, 1368, 1381, 1394, 1407, 1430, 1443, 1466, 1489, 1522]
theorem sw_ok : ∀ j, j < 51 → (#[219, 242, 255, 278, 301, 324, 357, 380, 423, 446, 479, 492, 515, 538, 571, 594, 617, 640, 663, 686, 749, 792, 835, 858, 881, 904, 927, 940, 973, 986, 999, 1012, 1035, 1068, 1101, 1134, 1167, 1200, 1223, 1256, 1289, 1322, 1335, 1348, 1361, 1374, 1397, 1410, 1433, 1456, 1489] : Array Int)[j]? = some (((tgs.getD j 0 : Nat) : Int) - 33) := by decide +kernel
section LOOP
variable {X : Cl} {κ : Kd} {ad : Ad} {n : Nat} {xs : Nat → Int32} {σ τ : Mem}
theorem l_head (hS : StdL X κ ad n xs) (hn : n ≤ 3072) {i : Nat} (hi : i ≤ n) (k1 : n < i + 6 → Sl X κ 1542 (LL X κ i) [] σ τ) (k2 : i + 6 ≤ n → Sl X κ 27 (LL X κ i) [] σ τ) : Sl X κ 18 (LL X κ i) [] σ τ := by
  obtain ⟨p, l, e, s, m, b, below, meth, c⟩ := X
  obtain ⟨hx, hb, hml, hown, hts, hK, hr, hlk, hnst, hX, hbl, hZ⟩ := hS
  intro H locs ls hP hP2 hV hl
  have hbA : ¬ (fun q : Nat => s.heap.size ≤ q) b := Nat.not_le.mpr hbl
  have h1 : wr (i : Int) = (i : Int) := wr_id (by omega) (by omega)
  have h2 : wr ((n : Int) - 6) = (n : Int) - 6 := wr_id (by omega) (by omega)
  refine lv_iload_n hx hb dL_law_18 rfl (hl.2.2 3 (iv (i : Int)) rfl) ?_
  refine lv_aload_n hx hb dL_law_19 rfl (hl.2.2 0 (.ref b) rfl) ?_
  refine va_slen hx hb hX hbl hbA hV dL_law_20 ?_
  rw [show Int32.ofNat n = I3 (n : Int) from rfl]
  refine lv_bipush (v := I3 6) hx hb dL_law_21 rfl ?_
  refine lv_isub hx hb dL_law_23 ?_
  rw [← I3_sub]
  refine lv_icmp_gt (tgt := 1542) hx hb dL_law_24 (by decide) (fun q => ?_) (fun q => ?_)
  · rw [I3_lt, h1, h2] at q
    exact k1 (by omega) H locs ls hP hP2 hV hl
  · rw [I3_lt, h1, h2] at q
    exact k2 (by omega) H locs ls hP hP2 hV hl
theorem l_switch (hS : StdL X κ ad n xs) (hn : n ≤ 3072) {i : Nat} (hi : i + 6 ≤ n) (kd : Sl X κ 1536 (LL X κ i) [] σ τ) (k : ∀ j, j < 51 → Sl X κ (tgs.getD j 0) (LL X κ i) [] σ τ) : Sl X κ 27 (LL X κ i) [] σ τ := by
  obtain ⟨p, l, e, s, m, b, below, meth, c⟩ := X
  obtain ⟨hx, hb, hml, hown, hts, hK, hr, hlk, hnst, hX, hbl, hZ⟩ := hS
  intro H locs ls hP hP2 hV hl
  have hbA : ¬ (fun q : Nat => s.heap.size ≤ q) b := Nat.not_le.mpr hbl
  have h1 : wr (i : Int) = (i : Int) := wr_id (by omega) (by omega)
  refine lv_aload_n hx hb dL_law_27 rfl (hl.2.2 0 (.ref b) rfl) ?_
  refine lv_iload_n hx hb dL_law_28 rfl (hl.2.2 3 (iv (i : Int)) rfl) ?_
  refine va_sld hx hb hX hbl hbA hV (i := I3 (i : Int)) (I3_in (by rw [h1]; omega)) dL_law_29 ?_
  refine lv_bipush (v := I3 63) hx hb dL_law_30 rfl ?_
  refine lv_iand hx hb dL_law_32 ?_
  generalize xs (I3 (i : Int)).toNatClampNeg &&& I3 63 = v
  by_cases hv : v.toInt < 0 ∨ 50 < v.toInt
  · exact lv_tableOut (tgt := 1536) hx hb dL_law_33 hv (by decide) (kd H locs ls hP hP2 hV hl)
  · obtain ⟨j, hj⟩ : ∃ j : Nat, v.toInt = (j : Int) := ⟨v.toInt.toNat, by omega⟩
    have hj51 : j < 51 := by omega
    refine lv_tableIn (tgt := tgs.getD j 0) (off := ((tgs.getD j 0 : Nat) : Int) - 33) hx hb dL_law_33 (by omega) (by omega) ?_ (by omega) (k j hj51 H locs ls hP hP2 hV hl)
    rw [hj, show ((j : Int) - 0).toNat = j by omega]
    exact sw_ok j hj51
theorem l_tail (hS : StdL X κ ad n xs) {i : Nat} (k : Sl X κ 18 (LL X κ (i + 6)) [] σ τ) : Sl X κ 1536 (LL X κ i) [] σ τ := by
  obtain ⟨p, l, e, s, m, b, below, meth, c⟩ := X
  obtain ⟨hx, hb, hml, hown, hts, hK, hr, hlk, hnst, hX, hbl, hZ⟩ := hS
  intro H locs ls hP hP2 hV hl
  have e6 : ((i + 6 : Nat) : Int) = (i : Int) + 6 := by omega
  unfold LL at k hl
  rw [e6] at k
  obtain ⟨q, hq⟩ := List.getElem?_of_mem (lvl_mem (L := [some (Value.ref b), some (rf (wAl κ s.heap.size) 0), some (rf (wBl κ s.heap.size) 0), some (iv (i : Int))]) (j := 3) rfl)
  exact lv_iinc hx hb dL_law_1536 (lvh_has hl) hq (v := I3 ((i : Int) + 6)) (by rw [I3_add]; rfl) (by decide) rfl (fun ls1 hl1 => lv_goto (tgt := 18) hx hb dL_law_1539 (by decide) (k H locs ls1 hP hP2 hV (lvh_st1 hl1 rfl)))
theorem l_cases (hS : StdL X κ ad n xs) (hn : n ≤ 3072) {i : Nat} (hi : i + 6 ≤ n) (hI : Inv σ τ) (kk : ∀ σ' τ', Inv σ' τ' → Sl X κ 1536 (LL X κ i) [] σ' τ') : ∀ j, j < 51 → Sl X κ (tgs.getD j 0) (LL X κ i) [] σ τ := by
  intro j hj
  match j, hj with
  | 0, _ => exact l_k0 hS hn hi hI kk
  | 1, _ => exact l_k1 hS hn hi hI kk
  | 2, _ => exact l_k2 hS hn hi hI kk
  | 3, _ => exact l_k3 hS hn hi hI kk
  | 4, _ => exact l_k4 hS hn hi hI kk
  | 5, _ => exact l_k5 hS hn hi hI kk
  | 6, _ => exact l_k6 hS hn hi hI kk
  | 7, _ => exact l_k7 hS hn hi hI kk
  | 8, _ => exact l_k8 hS hn hi hI kk
  | 9, _ => exact l_k9 hS hn hi hI kk
  | 10, _ => exact l_k10 hS hn hi hI kk
  | 11, _ => exact l_k11 hS hn hi hI kk
  | 12, _ => exact l_k12 hS hn hi hI kk
  | 13, _ => exact l_k13 hS hn hi hI kk
  | 14, _ => exact l_k14 hS hn hi hI kk
  | 15, _ => exact l_k15 hS hn hi hI kk
  | 16, _ => exact l_k16 hS hn hi hI kk
  | 17, _ => exact l_k17 hS hn hi hI kk
  | 18, _ => exact l_k18 hS hn hi hI kk
  | 19, _ => exact l_k19 hS hn hi hI kk
  | 20, _ => exact l_k20 hS hn hi hI kk
  | 21, _ => exact l_k21 hS hn hi hI kk
  | 22, _ => exact l_k22 hS hn hi hI kk
  | 23, _ => exact l_k23 hS hn hi hI kk
  | 24, _ => exact l_k24 hS hn hi hI kk
  | 25, _ => exact l_k25 hS hn hi hI kk
  | 26, _ => exact l_k26 hS hn hi hI kk
  | 27, _ => exact l_k27 hS hn hi hI kk
  | 28, _ => exact l_k28 hS hn hi hI kk
  | 29, _ => exact l_k29 hS hn hi hI kk
  | 30, _ => exact l_k30 hS hn hi hI kk
  | 31, _ => exact l_k31 hS hn hi hI kk
  | 32, _ => exact l_k32 hS hn hi hI kk
  | 33, _ => exact l_k33 hS hn hi hI kk
  | 34, _ => exact l_k34 hS hn hi hI kk
  | 35, _ => exact l_k35 hS hn hi hI kk
  | 36, _ => exact l_k36 hS hn hi hI kk
  | 37, _ => exact l_k37 hS hn hi hI kk
  | 38, _ => exact l_k38 hS hn hi hI kk
  | 39, _ => exact l_k39 hS hn hi hI kk
  | 40, _ => exact l_k40 hS hn hi hI kk
  | 41, _ => exact l_k41 hS hn hi hI kk
  | 42, _ => exact l_k42 hS hn hi hI kk
  | 43, _ => exact l_k43 hS hn hi hI kk
  | 44, _ => exact l_k44 hS hn hi hI kk
  | 45, _ => exact l_k45 hS hn hi hI kk
  | 46, _ => exact l_k46 hS hn hi hI kk
  | 47, _ => exact l_k47 hS hn hi hI kk
  | 48, _ => exact l_k48 hS hn hi hI kk
  | 49, _ => exact l_k49 hS hn hi hI kk
  | 50, _ => exact l_k50 hS hn hi hI kk
  | j + 51, hj => omega
theorem l_loop (hS : StdL X κ ad n xs) (hn : n ≤ 3072) : ∀ (m i : Nat) (σ τ : Mem), n < i + 6 * m → i ≤ n → Inv σ τ → Sl X κ 18 (LL X κ i) [] σ τ
  | 0, i, σ, τ, h1, h2, _ => by omega
  | m + 1, i, σ, τ, h1, h2, hI => by
    refine l_head hS hn h2 (fun _ => l_end hS dL_law_1542 dL_law_1543) (fun hi => ?_)
    have kk : ∀ σ' τ', Inv σ' τ' → Sl X κ 1536 (LL X κ i) [] σ' τ' := fun σ' τ' h => l_tail hS (l_loop hS hn m (i + 6) σ' τ' (by omega) hi h)
    exact l_switch hS hn hi (kk σ τ hI) (l_cases hS hn hi hI kk)
end LOOP
