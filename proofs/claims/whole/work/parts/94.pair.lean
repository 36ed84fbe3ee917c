/-! ===== pair, starter, joiner: the calls ===== -/
section PA
variable {σ τ : Mem}
theorem mk_core {σ1 τ1 σ3 τ3 : Mem} {r N due : Nat} {b : Nat → Int} {P E : Nat → Nat} {so pr st mo cl : Int} (hI : Inv σ1 τ1) (h11 : σ1 0 11 = 0) (hr : r < 12) (hd : (so = 1 ∧ due = 2) ∨ ((so = 2 ∨ so = 3) ∧ due = 1)) (hpr : 0 ≤ pr ∧ pr ≤ 9) (hst : -4 ≤ st ∧ st ≤ 4) (h1 : so = 1 → 0 ≤ st ∧ (mo = 0 ∨ mo = 1) ∧ 0 ≤ cl ∧ cl ≤ 2) (hPE : ∀ j, j < due → P j < E j ∧ E j ≤ N ∧ E j - P j ≤ 8) (hb : ∀ k, k < N → 32 ≤ b k ∧ b k ≤ 126)
    (hF : Fr (FRu r) σ1 σ3) (c13 : σ3 13 r = so) (c15 : σ3 15 r = pr) (c17 : σ3 17 r = st) (cw : ∀ j, j < due → wrP r σ3 j (P j) (E j) b) (c0 : ∀ j, due ≤ j → j < 2 → σ3 23 (2 * r + j) = 0) (c19 : so = 1 → σ3 19 r = mo ∧ σ3 21 r = cl)
    (hG : Fr (FRm r) τ1 τ3) (m1 : τ3 1 (701 + 23 * r) = so) (m2 : τ3 1 (702 + 23 * r) = pr) (m3 : τ3 1 (703 + 23 * r) = st) (m4 : τ3 1 (704 + 23 * r) = mo) (m5 : τ3 1 (705 + 23 * r) = cl) (mw : ∀ j, j < due → τ3 1 (706 + 23 * r + 9 * j) = ((E j - P j : Nat) : Int) ∧ ∀ k, k < E j - P j → τ3 1 (707 + 23 * r + 9 * j + k) = b (P j + k)) : Inv σ3 τ3 := by
  have p0 := hPE 0 (by omega)
  have w0 := cw 0 (by omega)
  have v0 := mw 0 (by omega)
  have e23 : σ3 23 (2 * r) = ((E 0 - P 0 : Nat) : Int) := w0.1
  refine Inv_rule hI h11 hr hF hG ⟨by rw [m1, c13], by rw [c13]; omega, fun z1 z2 => ?_, fun z => ⟨⟨by rw [m2, c15], by rw [c15]; exact hpr⟩, ⟨by rw [m3, c17], by rw [c17]; exact hst⟩, ⟨by rw [e23]; exact v0.1, by rw [e23]; omega⟩, fun k hk => ?_⟩, fun z => ?_⟩
  · rw [c13] at z2
    exact c0 1 (by omega) (by omega)
  · rw [e23] at hk
    have a1 : σ3 25 (16 * r + k) = b (P 0 + k) := w0.2 k (by omega)
    have a2 : τ3 1 (707 + 23 * r + k) = b (P 0 + k) := v0.2 k (by omega)
    rw [a1, a2]
    have := hb (P 0 + k) (by omega)
    exact ⟨rfl, by omega, by omega⟩
  · rw [c13] at z
    have hdue : due = 2 := by omega
    subst hdue
    have p1 := hPE 1 (by omega)
    have w1 := cw 1 (by omega)
    have v1 := mw 1 (by omega)
    have e231 : σ3 23 (2 * r + 1) = ((E 1 - P 1 : Nat) : Int) := w1.1
    obtain ⟨x1, x2, x3⟩ := h1 z
    obtain ⟨y1, y2⟩ := c19 z
    refine ⟨by rw [c17]; exact x1, ⟨by rw [m4, y1], by rw [y1]; exact x2⟩, ⟨by rw [m5, y2], by rw [y2]; exact x3⟩, ⟨by rw [e231, ← v1.1, show 706 + 23 * r + 9 * 1 = 715 + 23 * r by omega], by rw [e231]; omega⟩, fun k hk => ?_⟩
    rw [e231] at hk
    have a1 : σ3 25 (16 * r + 8 + k) = b (P 1 + k) := by have := w1.2 k (by omega); rwa [show 16 * r + 8 * 1 + k = 16 * r + 8 + k by omega] at this
    have a2 : τ3 1 (716 + 23 * r + k) = b (P 1 + k) := by have := v1.2 k (by omega); rwa [show 707 + 23 * r + 9 * 1 + k = 716 + 23 * r + k by omega] at this
    rw [a1, a2]
    have := hb (P 1 + k) (by omega)
    exact ⟨rfl, by omega, by omega⟩
/-- both make the rule, or refuse alike -/
theorem mk_two (h : Inv σ τ) {r due : Nat} {so pr st mo cl : Int} (hr : r < 12) (hd : (so = 1 ∧ due = 2) ∨ ((so = 2 ∨ so = 3) ∧ due = 1)) (hpr : 0 ≤ pr ∧ pr ≤ 9) (hst : -4 ≤ st ∧ st ≤ 4) (h1 : so = 1 → 0 ≤ st ∧ (mo = 0 ∨ mo = 1) ∧ 0 ≤ cl ∧ cl ≤ 2) {G : Int × Mem → Option (Int × Mem)}
    (hG : ∀ (v : Int) (σ2 : Mem), ∃ σ3, G (v, σ2) = some (v, σ3) ∧ Fr (fun o k => (o = 19 ∨ o = 21) ∧ k = r) σ2 σ3 ∧ (so = 1 → σ3 19 r = mo ∧ σ3 21 r = cl)) :
    Ex ((Tex_find due σ).bind fun q6 => if wr q6.1 = 0 then ((Ai_beginChange q6.2).bind fun q7 => (Ai_makeRule r so pr st q7.2).bind G) else (some (q6.1, q6.2))) (fun v σ' => Ex (Md_makes r so pr st mo cl τ) (fun v' τ' => v' = v ∧ Inv σ' τ')) := by
  obtain ⟨N, flt, σa, τa, e1, e2, hf, hIa, bC, bM, ok⟩ := rd_all h (due := due) (by omega)
  have eM : Md_makes r so pr st mo cl τ = Md_makes_11 r so pr st mo cl due τ := by
    unfold Md_makes
    rcases hd with ⟨rfl, rfl⟩ | ⟨hso, rfl⟩
    · rw [wr_1, if_pos rfl]; rfl
    · have hne : ¬ wr so = 1 := by rcases hso with rfl | rfl <;> decide
      rw [if_neg hne]; rfl
  rw [eM, e1]
  unfold Md_makes_11
  rw [e2]
  simp only [Option.bind_some]
  by_cases q : flt = -9
  · subst q
    obtain ⟨h29, htx⟩ := ok rfl
    rw [if_pos rfl, wr_0, if_pos rfl, show wr (-9) = -9 from by decide, if_pos rfl]
    obtain ⟨r1, σ1, e3, r2, τ1, e4, hI, h11, hF1, hF2⟩ := hIa.begin
    rw [e3, e4]
    simp only [Option.bind_some]
    have hPE : ∀ j, j < due → (σa 31 j).toNat < (σa 33 j).toNat ∧ (σa 33 j).toNat ≤ N ∧ (σa 33 j).toNat - (σa 31 j).toNat ≤ 8 := fun j hj => by
      obtain ⟨s, e, x1, x2, x3, x4, x5, x6, x7⟩ := htx j hj
      rw [x1, x2]; omega
    have h31 : ∀ j, j < due → σ1 31 j = ((σa 31 j).toNat : Int) ∧ σ1 33 j = ((σa 33 j).toNat : Int) := fun j hj => by
      obtain ⟨s, e, x1, x2, x3, x4, x5, x6, x7⟩ := htx j hj
      rw [hF1 31 j (by unfold FBg; omega), hF1 33 j (by unfold FBg; omega), x1, x2]; omega
    have h17 : ∀ j, j < due → τ1 17 j = ((σa 31 j).toNat : Int) ∧ τ1 18 j = ((σa 33 j).toNat : Int) := fun j hj => by
      obtain ⟨s, e, x1, x2, x3, x4, x5, x6, x7⟩ := htx j hj
      rw [hF2 17 j (by unfold FBm; omega), hF2 18 j (by unfold FBm; omega), x1, x2, x3, x4]; omega
    have bC1 : bfC σ1 (τ 3) N := bfC_fr hF1 (fun o k z => by unfold FBg at z; omega) bC
    have bM1 : bfM τ1 (τ 3) N := ⟨by rw [hF2 0 4 (by unfold FBm; omega)]; exact bM.1, bM.2.1, fun k hk => by rw [hF2 3 k (by unfold FBm; omega)]; exact bM.2.2 k hk⟩
    have hru := hI.ru hr
    have hb13 := hru.2.1
    obtain ⟨v, σ2, e5, y1, y2, y3, y4, y5, y6, y7⟩ := ai_makeRule (σ := σ1) (r := r) (N := N) (due := due) (b := τ 3) (P := fun j => (σa 31 j).toNat) (E := fun j => (σa 33 j).toNat) (so := so) (pr := pr) (st := st) hr (by omega) hPE (by rw [hF1 29 2 (by unfold FBg; omega)]; exact h29) bC1 h31 hru.2.1
    rw [e5]
    simp only [Option.bind_some]
    obtain ⟨σ3, e6, g1, g2⟩ := hG v σ2
    rw [e6]
    refine Ex.ret ?_
    rw [if_pos (inb (by omega) (by omega) (by omega)), wrn (n := 701 + 23 * r) (by omega) (by omega), hru.1, wr_id (n := σ1 13 r) (by omega) (by omega)]
    have fin : ∀ u : Int, u = v → Ex (Md_makes_60 so pr st mo cl (701 + 23 * (r : Int)) u τ1) (fun v' τ' => v' = v ∧ Inv σ3 τ') := by
      intro u hu
      refine (md_makes_60 (τ := τ1) (r := r) (N := N) (due := due) (b := τ 3) (P := fun j => (σa 31 j).toNat) (E := fun j => (σa 33 j).toNat) hr hd hPE bM1 h17).mono (fun v' τ3 z => ?_)
      obtain ⟨z1, z2, z3, z4, z5, z6, z7, z8⟩ := z
      refine ⟨by rw [z1, hu], ?_⟩
      have k3 : ∀ o k, o ≠ 19 → o ≠ 21 → σ3 o k = σ2 o k := fun o k a1 a2 => g1 o k (by omega)
      refine mk_core hI h11 hr hd hpr hst h1 hPE (fun k hk => (bC.2.2 k hk).2) (y2.tr (g1.mono (fun o k z => by unfold FRu; omega))) (by rw [k3 13 r (by omega) (by omega)]; exact y3) (by rw [k3 15 r (by omega) (by omega)]; exact y4) (by rw [k3 17 r (by omega) (by omega)]; exact y5) (fun j hj => ?_) (fun j h2 h3 => by rw [k3 23 _ (by omega) (by omega)]; exact y7 j h2 h3) g2 z2 z3 z4 z5 z6 z7 z8
      have := y6 j hj
      exact ⟨by rw [k3 23 _ (by omega) (by omega)]; exact this.1, fun k hk => by rw [k3 25 _ (by omega) (by omega)]; exact this.2 k hk⟩
    by_cases q0 : 0 < σ1 13 r
    · rw [if_pos q0] at y1 ⊢; exact fin 1 y1.symm
    · rw [if_neg q0] at y1 ⊢; exact fin 0 y1.symm
  · have hf2 : 0 ≤ flt ∧ flt ≤ 80 := by omega
    rw [if_neg q, wr_id (n := -10 - flt) (by omega) (by omega), if_neg (by omega), wr_id (n := flt) (by omega) (by omega), if_neg q]
    exact Ex.ret (Ex.ret ⟨rfl, hIa⟩)
theorem md_isRule {a b : Int} (ha : RI a) (hb : RI b) : Md_isRule a b τ = some (if (0 ≤ a ∧ a ≤ 11) ∧ 0 ≤ b ∧ b ≤ 9 then 1 else 0, τ) := by
  unfold Md_isRule
  rw [md_wi ha (by omega) (by omega)]
  simp only [Option.bind_some]
  by_cases q : 0 ≤ a ∧ a ≤ 11
  · rw [if_pos q, wr_1, if_neg n10, md_wi hb (by omega) (by omega)]
    simp only [Option.bind_some]
    by_cases q2 : 0 ≤ b ∧ b ≤ 9
    · rw [if_pos q2, wr_1, if_neg n10, if_pos ⟨q, q2⟩]
    · rw [if_neg q2, wr_0, if_pos rfl, if_neg (fun z => q2 z.2)]
  · rw [if_neg q, wr_0, if_pos rfl, if_neg (fun z => q z.1)]
theorem one_two (h : Inv σ τ) {so : Int} (hso : so = 2 ∨ so = 3) {a b c : Int} (ha : RI a) (hb : RI b) (hc : RI c) : Ex ((Ai_refusalOfOneText a b c σ).bind fun q1 => if wr q1.1 = 0 then ((Ai_beginChange q1.2).bind fun q2 => (Ai_makeRule a so b c q2.2).bind fun q3 => some (q3.1, q3.2)) else (some (q1.1, q1.2))) (fun v σ' => Ex ((Md_isRule a b τ).bind fun q1 => if wr q1.1 = 0 then (some ((-1), q1.2)) else ((Md_in c (-4) 4 q1.2).bind fun q2 => if wr q2.1 = 0 then (some ((-1), q2.2)) else ((Md_makes a so b c 0 0 q2.2).bind fun q3 => some (q3.1, q3.2)))) (fun v' τ' => v' = v ∧ Inv σ' τ')) := by
  have bad : ∀ {C : Option (Int × Mem)}, C = some (-1, τ) → Ex ((some ((-1 : Int), σ)).bind fun q1 => if wr q1.1 = 0 then ((Ai_beginChange q1.2).bind fun q2 => (Ai_makeRule a so b c q2.2).bind fun q3 => some (q3.1, q3.2)) else (some (q1.1, q1.2))) (fun v σ' => Ex C (fun v' τ' => v' = v ∧ Inv σ' τ')) := by
    intro C hC
    simp only [Option.bind_some]
    rw [show wr (-1) = -1 from by decide, if_neg (by decide), hC]
    exact Ex.ret (Ex.ret ⟨rfl, h⟩)
  unfold Ai_refusalOfOneText
  rw [ai_isRuleNumber ha, md_isRule ha hb]
  simp only [Option.bind_some]
  by_cases q : 0 ≤ a ∧ a ≤ 11
  · rw [if_pos q, wr_1, if_neg n10, ai_wi hb (by omega) (by omega)]
    simp only [Option.bind_some]
    by_cases q2 : 0 ≤ b ∧ b ≤ 9
    · rw [if_pos q2, wr_1, if_neg n10, ai_wi hc (by omega) (by omega), if_pos (show (0 ≤ a ∧ a ≤ 11) ∧ 0 ≤ b ∧ b ≤ 9 from ⟨q, q2⟩), wr_1, if_neg n10, md_wi hc (by omega) (by omega)]
      simp only [Option.bind_some]
      by_cases q3 : -4 ≤ c ∧ c ≤ 4
      · rw [if_pos q3, wr_1, if_neg n10, if_neg n10]
        obtain ⟨r, rfl⟩ : ∃ z : Nat, a = (z : Int) := ⟨a.toNat, by omega⟩
        have := mk_two h (r := r) (due := 1) (so := so) (pr := b) (st := c) (mo := 0) (cl := 0) (by omega) (Or.inr ⟨hso, rfl⟩) q2 q3 (fun z => by omega) (G := fun q3 => some (q3.1, q3.2)) (fun v σ2 => ⟨σ2, rfl, Fr.rf, fun z => by omega⟩)
        obtain ⟨v, σ', e1, hv⟩ := this
        refine ⟨v, σ', ?_, Ex.bnd (hv.mono (fun v' τ' z => Ex.ret z))⟩
        rw [← e1]
        show ((Tex_find 1 σ).bind fun q4 => some (q4.1, q4.2)).bind _ = (Tex_find ((1 : Nat) : Int) σ).bind _
        rw [show ((1 : Nat) : Int) = 1 from rfl]
        cases Tex_find 1 σ with
        | none => rfl
        | some x => rfl
      · rw [if_neg q3, wr_0, if_pos rfl, if_pos rfl]
        exact bad rfl
    · rw [if_neg q2, wr_0, if_pos rfl, if_neg (show ¬ ((0 ≤ a ∧ a ≤ 11) ∧ 0 ≤ b ∧ b ≤ 9) from fun z => q2 z.2), wr_0, if_pos rfl]
      exact bad rfl
  · rw [if_neg q, wr_0, if_pos rfl, if_neg (show ¬ ((0 ≤ a ∧ a ≤ 11) ∧ 0 ≤ b ∧ b ≤ 9) from fun z => q z.1), wr_0, if_pos rfl]
    exact bad rfl
theorem t_starter (h : Inv σ τ) {a b c : Int} (ha : RI a) (hb : RI b) (hc : RI c) : Two (Ai_starter a b c σ) (Md_starter a b c τ) := one_two h (Or.inl rfl) ha hb hc
theorem t_joiner (h : Inv σ τ) {a b c : Int} (ha : RI a) (hb : RI b) (hc : RI c) : Two (Ai_joiner a b c σ) (Md_joiner a b c τ) := one_two h (Or.inr rfl) ha hb hc
theorem t_pair (h : Inv σ τ) {a b c d e : Int} (ha : RI a) (hb : RI b) (hc : RI c) (hd : RI d) (he : RI e) : Two (Ai_pair a b c d e σ) (Md_pair a b c d e τ) := by
  have bad : Ex (some ((-1 : Int), σ)) (fun v σ' => Ex (Md_pair_42 a b c d e 0 τ) (fun v' τ' => v' = v ∧ Inv σ' τ')) := by
    unfold Md_pair_42
    rw [wr_0, if_pos rfl]
    exact Ex.ret (Ex.ret ⟨rfl, h⟩)
  unfold Ai_pair Md_pair Two
  rw [ai_isRuleNumber ha, md_isRule ha hb]
  simp only [Option.bind_some]
  by_cases q : 0 ≤ a ∧ a ≤ 11
  · rw [if_pos q, wr_1, if_neg n10, ai_wi hb (by omega) (by omega)]
    simp only [Option.bind_some]
    by_cases q2 : 0 ≤ b ∧ b ≤ 9
    · rw [if_pos q2, wr_1, if_neg n10, ai_wi hc (by omega) (by omega), if_pos (show (0 ≤ a ∧ a ≤ 11) ∧ 0 ≤ b ∧ b ≤ 9 from ⟨q, q2⟩), wr_1, if_neg n10, md_wi hc (by omega) (by omega)]
      simp only [Option.bind_some]
      by_cases q3 : 0 ≤ c ∧ c ≤ 4
      · rw [if_pos q3, wr_1, if_neg n10, if_neg n10, ai_wi hd (by omega) (by omega), md_wi hd (by omega) (by omega)]
        simp only [Option.bind_some]
        by_cases q4 : 0 ≤ d ∧ d ≤ 1
        · rw [if_pos q4, wr_1, if_neg n10, if_neg n10, ai_wi he (by omega) (by omega), md_wi he (by omega) (by omega)]
          simp only [Option.bind_some]
          by_cases q5 : 0 ≤ e ∧ e ≤ 2
          · rw [if_pos q5, wr_1, if_neg n10, if_neg n10]
            obtain ⟨r, rfl⟩ : ∃ z : Nat, a = (z : Int) := ⟨a.toNat, by omega⟩
            have := mk_two h (r := r) (due := 2) (so := 1) (pr := b) (st := c) (mo := d) (cl := e) (by omega) (Or.inl ⟨rfl, rfl⟩) q2 (by omega) (fun z => ⟨q3.1, by omega, q5⟩) (G := fun q8 => (Row_set 18 r d q8.2).bind fun q9 => (Row_set 20 r e q9.2).bind fun q10 => some (q8.1, q10.2)) (fun v σ2 => by
              rw [rs_18 (by omega) (by omega)]
              simp only [Option.bind_some]
              rw [rs_20 (by omega) (by omega)]
              simp only [Option.bind_some]
              rw [show ((r : Int)).toNat = r by omega]
              exact ⟨_, rfl, Fr.up (Fr.up Fr.rf (by omega)) (by omega), fun _ => ⟨by simp [upM], by simp [upM]⟩⟩)
            unfold Md_pair_42
            rw [wr_1, if_neg n10]
            refine this.mono (fun v σ' z => Ex.bnd (z.mono (fun v' τ' y => Ex.ret y)))
          · rw [if_neg q5, wr_0, if_pos rfl, if_pos rfl]
            exact bad
        · rw [if_neg q4, wr_0, if_pos rfl, if_pos rfl]
          exact bad
      · rw [if_neg q3, wr_0, if_pos rfl, if_pos rfl]
        exact bad
    · rw [if_neg q2, wr_0, if_pos rfl, if_neg (show ¬ ((0 ≤ a ∧ a ≤ 11) ∧ 0 ≤ b ∧ b ≤ 9) from fun z => q2 z.2), wr_0, if_pos rfl]
      exact bad
  · rw [if_neg q, wr_0, if_pos rfl, if_neg (show ¬ ((0 ≤ a ∧ a ≤ 11) ∧ 0 ≤ b ∧ b ≤ 9) from fun z => q z.1), wr_0, if_pos rfl]
    exact bad
end PA
