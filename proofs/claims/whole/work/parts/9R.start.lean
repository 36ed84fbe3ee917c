/-! ===== what holds at the law's start (written by gen10.py) ===== -/
def tmS (i : Nat) : Term := .string RX11 (396 + 2 * i)
def bsN : List Nat := [9, 15, 21, 28, 36, 47, 57, 72, 86, 102, 118, 134, 151, 170, 188, 210]
def nrF : List Cond := flatC (Jvm.Cond.and given_1 narrow_1)
theorem nr_ex : ∀ i, i < 16 → nrF[bsN.getD i 0]? = some (.exactly (tmS i) "java/lang/String") := by decide +kernel
theorem nr_co : ∀ i, i < 16 → nrF[bsN.getD i 0 + 1]? = some (.eq (.field (tmS i) "java/lang/String" "coder" "B") (.int 0)) := by decide +kernel
theorem nr_ar : ∀ i, i < 16 → nrF[bsN.getD i 0 + 2]? = some (.arrayOf (.field (tmS i) "java/lang/String" "value" "[B") .byte) := by decide +kernel
theorem nr_le : ∀ i, i < 16 → nrF[bsN.getD i 0 + 3]? = some (.eq (.length (.field (tmS i) "java/lang/String" "value" "[B")) (.int (Int32.ofNat (sLn.getD i 0)))) := by decide +kernel
theorem nr_el : ∀ i, i < 16 → ∀ j, j < sLn.getD i 0 → nrF[bsN.getD i 0 + 4 + j]? = some (.eq (.elem (.field (tmS i) "java/lang/String" "value" "[B") (.int (Int32.ofNat j))) (.int ((sBy.getD i []).getD j 0))) := by decide +kernel
theorem nr_ne : ∀ i, i < 16 → ∀ j, j < i → nrF[bsN.getD i 0 + 4 + sLn.getD i 0 + j]? = some (.not (.eq (tmS j) (tmS i))) := by decide +kernel
theorem nr_cs : nrF[4]? = some (.eq (.static RJ0 "COMPACT_STRINGS" "Z") (.int 1)) := by decide +kernel
theorem nr_fm : nrF[5]? = some (.isRef (.static RJ3 "SIOOBE_FORMATTER" "Ljava/util/function/BiFunction;")) := by decide +kernel
theorem nr_ref : ∀ i, i < 16 → tables_1_5[42 + i]? = some (.stringRef RX11 (396 + 2 * i) (sTx.getD i "")) := by decide +kernel
theorem sLn_lt : ∀ i, i < 16 → sLn.getD i 0 < 2 ^ 31 := by decide +kernel
theorem st_str {b : Nat} {s : State} (hts : ∀ w ∈ lw_tbl, w.before #[Value.ref b] s = true) (hgv : (Jvm.Cond.and given_1 narrow_1).before #[Value.ref b] s = true) : ∃ ad : Ad, Str ad (fun q => s.heap.size ≤ q) s s.heap := by
  have hf : ∀ c ∈ nrF, c.before #[Value.ref b] s = true := flat_of_before _ hgv
  have hA : ∀ a : Nat, a < s.heap.size → ¬ (fun q : Nat => s.heap.size ≤ q) a := fun a h => Nat.not_le.mpr h
  have hne : ∀ i j : Nat, i < 16 → j < 16 → i ≠ j → (Cond.not (Cond.eq (tmS i) (tmS j))).before #[Value.ref b] s = true ∨ (Cond.not (Cond.eq (tmS j) (tmS i))).before #[Value.ref b] s = true := by
    intro i j hi hj hn
    rcases Nat.lt_or_gt_of_ne hn with q | q
    · exact Or.inl (hf _ (List.mem_of_getElem? (nr_ne j hj i q)))
    · exact Or.inr (hf _ (List.mem_of_getElem? (nr_ne i hi j q)))
  obtain ⟨adK, adV, h1, h2⟩ := vk_Sof (args := #[Value.ref b]) (s := s) (N := 16) (tm := tmS) (len := sLn) (byt := sBy) (A := fun q => s.heap.size ≤ q) sLn_lt (fun i hi => hf _ (List.mem_of_getElem? (nr_ex i hi))) (fun i hi => hf _ (List.mem_of_getElem? (nr_co i hi))) (fun i hi => hf _ (List.mem_of_getElem? (nr_ar i hi))) (fun i hi => hf _ (List.mem_of_getElem? (nr_le i hi))) (fun i hi j hj => hf _ (List.mem_of_getElem? (nr_el i hi j hj))) hne hA
  refine ⟨(adK, adV), h1, fun i hi => vk_R.of (hts _ (tb5 (List.mem_of_getElem? (nr_ref i hi)))) (h2 i hi), ?_, ?_⟩
  · exact va_Zof (hts _ (tb5 (List.mem_of_getElem? (i := 67) rfl))) (hts _ (tb1 (List.mem_of_getElem? (i := 17) rfl))) (va_eqt (hf _ (List.mem_of_getElem? nr_cs))) hA
  · exact va_Zqof (hts _ (tb5 (List.mem_of_getElem? (i := 83) rfl))) (hts _ (tb1 (List.mem_of_getElem? (i := 19) rfl))) (hf _ (List.mem_of_getElem? nr_fm)) hA
theorem aoS : Cond.arrayOver (.object "AutoIndenter$State") ∈ lw_tbl := tb1 (List.mem_of_getElem? (i := 187) rfl)
theorem st_N {b : Nat} {s : State} (hts : ∀ w ∈ lw_tbl, w.before #[Value.ref b] s = true) : NsA s := ⟨fun q hq => va_Nw.of rfl (hts _ (NW_tbl q hq)), va_AO.of (hts _ aoS)⟩
theorem st_C {b : Nat} {s : State} (hts : ∀ u ∈ WL, u.before #[Value.ref b] s = true) : ∀ (k : Nat) (q : vw_C), vwCl[k]? = some q → ∃ (cC : ClassId) (iS : Nat → Nat), u_Kn s q.1 q.2.1 q.2.2 cC iS := by
  intro k q hq
  match k, hq with
  | 0, hq =>
    have e : (RX0, TX0, 14) = q := Option.some.inj hq
    subst e
    exact u_known (C := RX0) (T := TX0) (N := 14) (n := 14) hts inlX0 (hts _ isX0)
  | 1, hq =>
    have e : (RX1, TX1, 2) = q := Option.some.inj hq
    subst e
    exact u_known (C := RX1) (T := TX1) (N := 2) (n := 2) hts inlX1 (hts _ isX1)
  | 2, hq =>
    have e : (RX2, TX2, 3) = q := Option.some.inj hq
    subst e
    exact u_known (C := RX2) (T := TX2) (N := 3) (n := 3) hts inlX2 (hts _ isX2)
  | 3, hq =>
    have e : (RX3, TX3, 5) = q := Option.some.inj hq
    subst e
    exact u_known (C := RX3) (T := TX3) (N := 5) (n := 5) hts inlX3 (hts _ isX3)
  | 4, hq =>
    have e : (RX4, TX4, 6) = q := Option.some.inj hq
    subst e
    exact u_known (C := RX4) (T := TX4) (N := 6) (n := 6) hts inlX4 (hts _ isX4)
  | 5, hq =>
    have e : (RX5, TX5, 1) = q := Option.some.inj hq
    subst e
    exact u_known (C := RX5) (T := TX5) (N := 1) (n := 1) hts inlX5 (hts _ isX5)
  | 6, hq =>
    have e : (RX6, TX6, 3) = q := Option.some.inj hq
    subst e
    exact u_known (C := RX6) (T := TX6) (N := 3) (n := 3) hts inlX6 (hts _ isX6)
  | 7, hq =>
    have e : (RX7, TX7, 7) = q := Option.some.inj hq
    subst e
    exact u_known (C := RX7) (T := TX7) (N := 7) (n := 7) hts inlX7 (hts _ isX7)
  | 8, hq =>
    have e : (RX8, TX8, 5) = q := Option.some.inj hq
    subst e
    exact u_known (C := RX8) (T := TX8) (N := 5) (n := 5) hts inlX8 (hts _ isX8)
  | 9, hq =>
    have e : (RX9, TX9, 10) = q := Option.some.inj hq
    subst e
    exact u_known (C := RX9) (T := TX9) (N := 10) (n := 10) hts inlX9 (hts _ isX9)
  | 10, hq =>
    have e : (RX10, TX10, 3) = q := Option.some.inj hq
    subst e
    exact u_known (C := RX10) (T := TX10) (N := 3) (n := 3) hts inlX10 (hts _ isX10)
  | 11, hq =>
    have e : (RX11, TX11, 12) = q := Option.some.inj hq
    subst e
    exact u_known (C := RX11) (T := TX11) (N := 12) (n := 12) hts inlX11 (hts _ isX11)
  | 12, hq =>
    have e : (RX12, TX12, 41) = q := Option.some.inj hq
    subst e
    exact u_known (C := RX12) (T := TX12) (N := 41) (n := 41) hts inlX12 (hts _ isX12)
  | k + 13, hq => exact absurd hq (by rw [List.getElem?_eq_none (by show 13 ≤ k + 13; omega)]; intro h; cases h)
theorem st_K {b : Nat} {s : State} (hts : ∀ w ∈ lw_tbl, w.before #[Value.ref b] s = true) : ∃ κ : Kd, va_K κ.1 vwCl (tyK κ) s := by
  have hW : ∀ u ∈ WL, u.before #[Value.ref b] s = true := fun u hu => hts u (WL_tbl hu)
  obtain ⟨c0, i0, -⟩ := st_C hW 0 _ rfl
  have h : ∀ k : Nat, ∃ z : ClassId × (Nat → Nat), ∀ q : vw_C, vwCl[k]? = some q → u_Kn s q.1 q.2.1 q.2.2 z.1 z.2 := by
    intro k
    cases hk : vwCl[k]? with
    | none => exact ⟨(c0, i0), fun q h => by cases h⟩
    | some q =>
      obtain ⟨c, i, h⟩ := st_C hW k q hk
      exact ⟨(c, i), fun q' h' => by cases h'; exact h⟩
  obtain ⟨z, hz⟩ := Classical.axiomOfChoice h
  obtain ⟨cI, kI, pI, a1, a2, a3⟩ := Cond.arrayClass_spec (hW _ arI)
  obtain ⟨cZ, kZ, pZ, b1, b2, b3⟩ := Cond.arrayClass_spec (hW _ arZ)
  obtain ⟨comp, cS, kS, d1, d2, d3, d4, d5⟩ := Cond.arrayOver_spec (hts _ aoS)
  refine ⟨((fun k => (z k).1, fun k => (z k).2), cI, cZ, cS), fun c q hq => hz c q hq, fun k q hq => ?_⟩
  match k, hq with
  | 0, hq =>
    have e : (cI, FieldType.int) = q := Option.some.inj hq
    subst e
    exact ⟨fun n z => ⟨fun k h => (by cases h), kI, a2, pI, a3⟩, a1⟩
  | 1, hq =>
    have e : (cZ, FieldType.boolean) = q := Option.some.inj hq
    subst e
    exact ⟨fun n z => ⟨fun k h => (by cases h), kZ, b2, pZ, b3⟩, b1⟩
  | 2, hq =>
    have e : (cS, FieldType.object "AutoIndenter$State") = q := Option.some.inj hq
    subst e
    exact ⟨fun n z => ⟨fun k h => (by cases h), kS, d3, comp, d4⟩, kS, comp, d3, d4, d1, d5⟩
  | k + 3, hq => exact absurd hq (by rw [List.getElem?_eq_none (by show 3 ≤ k + 3; omega)]; intro h; cases h)
