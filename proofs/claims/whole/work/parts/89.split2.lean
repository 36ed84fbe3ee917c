/-! ===== splitLine, the call ===== -/
section SQ
variable {σ τ : Mem}
theorem in977 : 0 ≤ wr 977 ∧ wr 977 < (10780 : Int) := by decide
theorem in978 : 0 ≤ wr 978 ∧ wr 978 < (10780 : Int) := by decide
theorem Kw.sz {S σ1 : Mem} (hK : Kw S τ σ1) {j : Nat} (hj : j < nS S) : σ1 6 j = S 2 j := by
  have hn := hK.n
  have := aC_len (σ := σ1) (i := j) (by omega)
  rw [hK.1.2.2.1] at this; exact this.symm
/-- behind the split: the new line gets its wanted indentation -/
theorem sp_two (h : Inv σ τ) {i N : Nat} (hn : σ 2 0 = N) (hi : i + 1 < N) (h4 : σ 4 (i + 1) = 0) (h6 : σ 6 (i + 1) ≠ 0) : Ex ((Ai_study σ).bind fun q6 => (Pla_column ((i : Int) + 1) 3 (q6.2 1 2) (q6.2 1 3) q6.2).bind fun q7 => if wr q7.1 = (-9) then ((Row_set 3 ((i : Int) + 1) 0 q7.2).bind fun q10 => (Row_get 3 ((i : Int) + 1) q10.2).bind fun q11 => some (q11.1, q11.2)) else ((Row_set 3 ((i : Int) + 1) q7.1 q7.2).bind fun q8 => (Row_get 3 ((i : Int) + 1) q8.2).bind fun q9 => some (q9.1, q9.2))) (fun r σ' => Ex (spT i τ) (fun r' τ' => r' = r ∧ Inv σ' τ')) := by
  have hn1 := h.n
  have hS := h.1.2.1
  obtain ⟨r1, σ1, e1, hK, f1, f2⟩ := h.study
  obtain ⟨r2, τ1, e2, g1, g2, g3⟩ := h.useM
  have hin : i + 1 < nS (absM τ 0) := by omega
  rw [e1]
  simp only [Option.bind_some]
  rw [show (i : Int) + 1 = ((i + 1 : Nat) : Int) by omega, hK.col h f1 hin]
  simp only [Option.bind_some]
  have hw := wan_rng (S := absM τ 0) (rw := absM τ 0 1) (stp := τ 1 977) (bas := τ 1 978) (i := i + 1)
  have hrow : ∀ j : Nat, (j : Int) < τ 1 0 → τ 1 (1 + j) = σ1 4 j ∧ (0 ≤ σ1 4 j ∧ σ1 4 j ≤ 40) ∧ (σ1 6 j = 0 → σ1 4 j = 0) := fun j hj => by
    have hjn : j < nS (absM τ 0) := by omega
    have hl := hS.2.2.2.2.1 j (by rw [aM_n]; exact hj)
    rw [hK.rows j hjn, hK.sz hjn]
    exact ⟨(h.ind hjn).2.1, hl.1, hl.2.2.2.1⟩
  unfold spT
  rw [if_pos in977, if_pos in978, show (wr 977).toNat = 977 from by decide, show (wr 978).toNat = 978 from by decide, e2]
  simp only [Option.bind_some]
  rw [show (i : Int) + 1 = ((i + 1 : Nat) : Int) by omega, md_isFree g2 hin]
  simp only [Option.bind_some]
  have h41 : σ1 4 (i + 1) = 0 := by
    rw [hK.rows _ hin]
    have := (h.ind hin).1
    rw [← this]; exact h4
  have h61 : σ1 6 (i + 1) ≠ 0 := by
    rw [hK.sz hin]
    have := (h.len hin).1
    rw [← this]; exact h6
  by_cases q : frS (absM τ 0) (i + 1)
  · rw [cif_pos q, cif_pos q, wr_1, if_neg n10, wr_id (n := wanS (absM τ 0) (absM τ 0 1) (τ 1 977) (τ 1 978) (i + 1)) (by omega) (by omega), if_neg (by omega), rs_3 (by omega) (by omega)]
    simp only [Option.bind_some]
    rw [rg_3 (by omega) (by omega)]
    simp only [Option.bind_some]
    rw [show (((i + 1 : Nat) : Int)).toNat = i + 1 by omega]
    obtain ⟨r3, τ2, e3, x1, x2, x3, x4⟩ := md_decides g2 rfl hin
    rw [wan_congr hS g3 hin] at x2
    rw [e3]
    simp only [Option.bind_some]
    rw [if_pos (inb (by omega) (by omega) (by omega)), wrn (n := 1 + (i + 1)) (by omega) (by omega), x2]
    refine Ex.ret (Ex.lt ?_)
    rw [if_pos (inb (by omega) (by omega) (by omega))]
    refine Ex.ret ⟨by simp [upM], ?_⟩
    have hF : Fr FR τ τ2 := g1.tr (x1.mono (fun o k => FD_R))
    have hB : Inv σ1 τ2 := hK.2.2 σ1 τ2 Fr.rf hF
    have t1 : ∀ k, τ2 1 k = τ 1 k := fun k => hF 1 k (fun z => z (by omega))
    refine Inv_ind hB (Fr.up (F := fun o _ => o = 4) Fr.rf rfl) (Fr.up (F := fun o k => o = 1 ∧ 1 ≤ k ∧ k < 21) Fr.rf ⟨rfl, by omega, by omega⟩) (fun j hj => ?_)
    rw [t1] at hj
    by_cases e : j = i + 1
    · subst e
      simp only [upM]
      rw [if_pos ⟨trivial, trivial⟩, if_pos ⟨trivial, trivial⟩]
      exact ⟨rfl, hw, fun z => absurd z h61⟩
    · simp only [upM]
      rw [if_neg (by omega), if_neg (by omega), t1]
      exact hrow j hj
  · rw [cif_neg q, cif_neg q, wr_0, if_pos rfl, show wr (-9) = -9 from by decide, if_pos rfl, rs_3 (by omega) (by omega)]
    simp only [Option.bind_some]
    rw [rg_3 (by omega) (by omega)]
    simp only [Option.bind_some]
    rw [show (((i + 1 : Nat) : Int)).toNat = i + 1 by omega, if_pos (inb (by omega) (by omega) (by omega)), wrn (n := 1 + (i + 1)) (by omega) (by omega), upM_self h41]
    refine Ex.ret (Ex.ret ⟨?_, hK.2.2 σ1 τ1 Fr.rf g1⟩)
    rw [g1 1 (1 + (i + 1)) (fun z => z (by omega)), (hrow (i + 1) (by omega)).1]
theorem t_splitLine (h : Inv σ τ) {a b : Int} (ha : RI a) (hb : RI b) : Two (Ai_splitLine a b σ) (Md_splitLine a b τ) := by
  have hnb := h.nb
  have hn := h.n
  unfold Ai_splitLine Md_splitLine Two
  rw [lin_has ha hnb.1, md_isLine ha hnb.2]
  simp only [Option.bind_some]
  rw [hn.1]
  by_cases q : 0 ≤ a ∧ a < τ 1 0
  · obtain ⟨i, rfl⟩ : ∃ z : Nat, a = (z : Int) := ⟨a.toNat, by omega⟩
    obtain ⟨N, hN⟩ : ∃ z : Nat, τ 1 0 = (z : Int) := ⟨(τ 1 0).toNat, by omega⟩
    have l0 := h.lr (N := N) (by rw [hn.1, hN]) (j := i) (by omega)
    have s0 := l0.2.2.2.2.2.1
    obtain ⟨E, hE⟩ : ∃ z : Nat, σ 6 i = (z : Int) := ⟨(σ 6 i).toNat, by omega⟩
    rw [if_pos q, wr_1, if_neg n10, if_neg n10, rg_5 (by omega) (by omega), if_pos (inb (by omega) (by omega) (by omega)), wrn (n := 21 + i) (by omega) (by omega), l0.2.1]
    simp only [Option.bind_some]
    rw [show ((i : Int)).toNat = i by omega, hE, ai_wi hb (by omega) ⟨by omega, by omega⟩, md_wi hb (by omega) ⟨by omega, by omega⟩]
    simp only [Option.bind_some]
    by_cases q2 : 1 ≤ b ∧ b ≤ (E : Int) - 1
    · obtain ⟨k, rfl⟩ : ∃ z : Nat, b = (z : Int) := ⟨b.toNat, by omega⟩
      rw [if_pos q2, wr_1, if_neg n10, if_neg n10, if_pos in0, show (wr 0).toNat = 0 from by decide, hn.1, hN, wr_id (n := (N : Int)) (by omega) (by omega)]
      by_cases q3 : N < 20
      · rw [if_pos (by omega), if_neg (by omega)]
        obtain ⟨r1, σ1, e1, r2, τ1, e2, hI, h11, hF1, hF2⟩ := h.begin
        have n1 : σ1 2 0 = N := by rw [hF1 2 0 (by unfold FBg; omega), hn.1, hN]
        have n2 : τ1 1 0 = N := by rw [hF2 1 0 (by unfold FBm; omega), hN]
        have hE1 : σ1 6 i = E := by rw [hF1 6 i (by unfold FBg; omega)]; exact hE
        rw [e1, e2]
        simp only [Option.bind_some]
        unfold Lin_split
        rw [show (i : Int) + 1 = ((i + 1 : Nat) : Int) by omega]
        obtain ⟨r3, σ2, e3, gc1, gc2, gc3, gc4, gc5⟩ := lin_openGap (σ := σ1) (i := i + 1) (N := N) (by omega) q3 n1 (hI.sz n1)
        obtain ⟨r4, τ2, e4, gm1, gm2, gm3, gm4, gm5⟩ := md_parts (τ := τ1) (i := i + 1) (N := N) (by omega) q3 n2
        rw [e3, e4]
        simp only [Option.bind_some]
        have li := hI.lr n1 (j := i) (by omega)
        obtain ⟨a1, a2, a3, a4, x1, x2, x3, x4, x5, x6⟩ := li
        rw [hE1] at a2 a4 x2 x5 x6
        have x5' := x5 (by omega)
        simp only [] at x5'
        rw [show ((E : Int) - 1).toNat = E - 1 by omega, Nat.add_zero] at x5'
        obtain ⟨y1, y2, y3, y4⟩ := gc2 i (by omega)
        obtain ⟨z1, z2, z3, z4⟩ := gm2 i (by omega)
        rw [hE1] at y2 y4
        obtain ⟨f, f1, f2, f3, f4⟩ := exF (b := fun j => σ1 10 (32 * i + j)) (E := E) x5'.2 (E - 1 - k) k (by omega)
        obtain ⟨e, g1, g2, g3, g4⟩ := exE (b := fun j => σ1 10 (32 * i + j)) x5'.1 k (by omega)
        have bC : ∀ j, j < E → σ2 10 (32 * i + j) = σ1 10 (32 * i + j) := fun j hj => y4 j (by omega) (by omega)
        have bM : ∀ j, j < E → τ2 1 (61 + (32 * i + j)) = σ1 10 (32 * i + j) := fun j hj => by rw [z4 j (by omega), a4 j (by omega)]
        have L6 : τ2 1 (21 + i) = E := by rw [z2, a2]
        rw [lin_split_9 (σ := σ2) (i := i) (E := E) (f := f) (k := k) (by omega) y2 (by omega) f2 (fun j hj => by rw [bC j hj]; exact x6 j (by omega)) (by rw [bC f f2]; exact f3) (f - k) 100000 k (by omega) (by omega) (fun j h1 h2 => by rw [bC j (by omega)]; exact f4 j h1 h2)]
        rw [show (i : Int) + 1 = ((i + 1 : Nat) : Int) by omega]
        obtain ⟨r5, σ3, e5, p1, p2, p3⟩ := lin_appendFrom (σ := σ2) (a := i) (d := i + 1) (E := E) (x := f) (L := 0) (by omega) (by omega) (by omega) (by omega) (by omega) (by omega) gc4.2.1 y2
        rw [e5]
        simp only [Option.bind_some]
        have b3 : ∀ j, j < 32 → σ3 10 (32 * i + j) = σ2 10 (32 * i + j) := fun j hj => p1 10 _ (by unfold FAp; omega)
        rw [lin_split_44 (σ := σ3) (i := i) (E := E) (e := e) (by omega) (by rw [p1 6 i (by unfold FAp; omega)]; exact y2) (by omega) g1 (fun j hj => by rw [b3 j (by omega), bC j hj]; exact x6 j (by omega)) (by rw [b3 _ (by omega), bC _ (by omega)]; exact g3) (k - e) 100000 k (by omega) (by omega) (by omega) (fun j h1 h2 => by rw [b3 j (by omega), bC j (by omega)]; exact g4 j h1 h2)]
        simp only [Option.bind_some]
        rw [md_split_56 (τ := τ2) (i := i) (E := E) (f := f) (k := k) (by omega) L6 (by omega) f2 (fun j hj => by rw [bM j hj]; exact x6 j (by omega)) (by rw [bM f f2]; exact f3) (f - k) 100000 k (by omega) (by omega) (fun j h1 h2 => by rw [bM j (by omega)]; exact f4 j h1 h2)]
        have c3 : upM σ3 6 i (e : Int) 4 i = σ1 4 i ∧ upM σ3 6 i (e : Int) 6 i = e ∧ upM σ3 6 i (e : Int) 8 i = σ1 8 i ∧ ∀ k, k < e → upM σ3 6 i (e : Int) 10 (32 * i + k) = σ1 10 (32 * i + k) := by
          refine ⟨?_, by simp [upM], ?_, fun k hk => ?_⟩
          · simp only [upM]; rw [if_neg (by omega), p1 4 i (by unfold FAp; omega), y1]
          · simp only [upM]; rw [if_neg (by omega), p1 8 i (by unfold FAp; omega), y3]
          · simp only [upM]; rw [if_neg (by omega), b3 k (by omega), bC k (by omega)]
        have c4 : upM σ3 6 i (e : Int) 4 (i + 1) = 0 ∧ upM σ3 6 i (e : Int) 6 (i + 1) = ((E - f : Nat) : Int) ∧ upM σ3 6 i (e : Int) 8 (i + 1) = 0 ∧ ∀ k, k < E - f → upM σ3 6 i (e : Int) 10 (32 * (i + 1) + k) = σ1 10 (32 * i + (f + k)) := by
          refine ⟨?_, ?_, ?_, fun k hk => ?_⟩
          · simp only [upM]; rw [if_neg (by omega), p1 4 _ (by unfold FAp; omega), gc4.1]
          · simp only [upM]; rw [if_neg (by omega), p2, Nat.zero_add]
          · simp only [upM]; rw [if_neg (by omega), p1 8 _ (by unfold FAp; omega), gc4.2.2]
          · simp only [upM]; rw [if_neg (by omega)]
            have := p3 k hk
            rw [Nat.zero_add] at this
            rw [this, bC _ (by omega)]
        have cF : Fr FLs σ1 (upM σ3 6 i (e : Int)) := Fr.up (gc5.tr (p1.mono (fun o k z => FLc_s (FAp_c z)))) (by unfold FLs; omega)
        have cn : upM σ3 6 i (e : Int) 2 0 = ((N + 1 : Nat) : Int) := by simp only [upM]; rw [if_neg (by omega), p1 2 0 (by unfold FAp; omega), gc1, n1]; omega
        have c1 : ∀ j, j < i → lnQ (upM σ3 6 i (e : Int)) j σ1 j := fun j hj => lnQ_up ((gc2 j (by omega)).tr (lnQ_fr (p1.mono (fun o k z => FAp_c z)) (by omega))) (by omega)
        have c2 : ∀ j, i + 1 < j → j ≤ N → lnQ (upM σ3 6 i (e : Int)) j σ1 (j - 1) := fun j hj hj2 => lnQ_up ((gc3 j hj hj2).tr (lnQ_fr (p1.mono (fun o k z => FAp_c z)) (by omega))) (by omega)
        have key : ∀ τ5, Inv (upM σ3 6 i (e : Int)) τ5 → Ex ((Ai_study (upM σ3 6 i (e : Int))).bind fun q6 => (Pla_column ((i : Int) + 1) 3 (q6.2 1 2) (q6.2 1 3) q6.2).bind fun q7 => if wr q7.1 = (-9) then ((Row_set 3 ((i : Int) + 1) 0 q7.2).bind fun q10 => (Row_get 3 ((i : Int) + 1) q10.2).bind fun q11 => some (q11.1, q11.2)) else ((Row_set 3 ((i : Int) + 1) q7.1 q7.2).bind fun q8 => (Row_get 3 ((i : Int) + 1) q8.2).bind fun q9 => some (q9.1, q9.2))) (fun r σ' => Ex (spT i τ5) (fun r' τ' => r' = r ∧ Inv σ' τ')) := fun τ5 hI5 => sp_two hI5 (N := N + 1) cn (by omega) c4.1 (by rw [c4.2.1]; omega)
        have main : ∃ r σ' , ((Ai_study (upM σ3 6 i (e : Int))).bind fun q6 => (Pla_column ((i : Int) + 1) 3 (q6.2 1 2) (q6.2 1 3) q6.2).bind fun q7 => if wr q7.1 = (-9) then ((Row_set 3 ((i : Int) + 1) 0 q7.2).bind fun q10 => (Row_get 3 ((i : Int) + 1) q10.2).bind fun q11 => some (q11.1, q11.2)) else ((Row_set 3 ((i : Int) + 1) q7.1 q7.2).bind fun q8 => (Row_get 3 ((i : Int) + 1) q8.2).bind fun q9 => some (q9.1, q9.2))) = some (r, σ') ∧ Ex (Md_splitLine_89 100000 i k f ((E - f : Nat) : Int) 0 τ2) (fun r' τ' => r' = r ∧ Inv σ' τ') := by
          have all : ∀ τ5, Fr FLp τ1 τ5 → τ5 1 0 = ((N + 1 : Nat) : Int) → (∀ j, j < N + 1 → lnR (upM σ3 6 i (e : Int)) τ5 j) → Inv (upM σ3 6 i (e : Int)) τ5 := fun τ5 w1 w2 w3 => Inv_ln hI h11 cF (w1.mono (fun o k z => Or.inl z)) (N := N + 1) (by omega) cn w2 w3
          have run : ∀ (Q : Int → Mem → Prop), (∀ τ5, Inv (upM σ3 6 i (e : Int)) τ5 → Ex (spT i τ5) Q) → Ex (Md_splitLine_89 100000 i k f ((E - f : Nat) : Int) 0 τ2) Q := by
            intro Q hQ
            refine md_split_89 (i := i) (f := f) (k := k) (D := E - f) (by omega) (by omega) (E - f) 100000 0 τ2 (by omega) (by omega) (fun τ3 w1 w2 => ?_)
            have t3 : ∀ j, j < 32 → upM (upM (upM τ3 1 (21 + (i + 1)) ((E - f : Nat) : Int)) 1 (1 + (i + 1)) 0) 1 (21 + i) (k : Int) 1 (61 + (32 * i + j)) = τ2 1 (61 + (32 * i + j)) := fun j hj => by
              simp only [upM]; rw [if_neg (by omega), if_neg (by omega), if_neg (by omega)]; exact w1 1 _ (by omega)
            refine md_split_170 (i := i) (e := e) (by omega) g1 (k - e) 100000 k _ (by simp [upM]) (by omega) (by omega) (by omega) (fun j hj => by rw [t3 j (by omega), bM j (by omega)]; exact x6 j (by omega)) (fun j h1 h2 => by rw [t3 j (by omega), bM j (by omega)]; exact g4 j h1 h2) (by rw [t3 _ (by omega), bM _ (by omega)]; exact g3) (fun τ5 w3 w4 => hQ τ5 (all τ5 ?_ ?_ ?_))
            · intro o z q
              unfold FLp at q
              rw [w3 o z (by omega)]
              simp only [upM]; rw [if_neg (by omega), if_neg (by omega), if_neg (by omega), w1 o z (by omega)]
              exact gm5 o z (by unfold FLp; omega)
            · rw [w3 1 0 (by omega)]
              simp only [upM]; rw [if_neg (by omega), if_neg (by omega), if_neg (by omega), w1 1 0 (by omega), gm1, n2]; omega
            · have kk : ∀ z, z ≠ 21 + i → z ≠ 21 + (i + 1) → z ≠ 1 + (i + 1) → ¬ (61 + 32 * (i + 1) ≤ z ∧ z < 93 + 32 * (i + 1)) → τ5 1 z = τ2 1 z := fun z h1 h2 h3 h4 => by
                rw [w3 1 z (by omega)]
                simp only [upM]; rw [if_neg (by omega), if_neg (by omega), if_neg (by omega), w1 1 z (by omega)]
              have mv : ∀ j j', j < 20 → j ≠ i → j ≠ i + 1 → lnP τ2 j τ1 j' → lnP τ5 j τ1 j' := fun j j' h1 h2 h3 h4 => by
                obtain ⟨u1, u2, u3, u4⟩ := h4
                exact ⟨by rw [kk _ (by omega) (by omega) (by omega) (by omega)]; exact u1, by rw [kk _ (by omega) (by omega) (by omega) (by omega)]; exact u2, by rw [kk _ (by omega) (by omega) (by omega) (by omega)]; exact u3, fun k hk => by rw [kk _ (by omega) (by omega) (by omega) (by omega)]; exact u4 k hk⟩
              refine sp_R (fun j hj => hI.lr n1 hj) (by omega) q3 hE1 g1 (by omega) f2 g3 f3 c1 c2 c3 c4 (fun j hj => mv j j (by omega) (by omega) (by omega) (gm2 j (by omega))) (fun j hj hj2 => mv j (j - 1) (by omega) (by omega) (by omega) (gm3 j hj hj2)) ⟨?_, w4, ?_, fun k hk => ?_⟩ ⟨?_, ?_, ?_, fun k hk => ?_⟩
              · rw [kk _ (by omega) (by omega) (by omega) (by omega), z1]
              · rw [kk _ (by omega) (by omega) (by omega) (by omega), z3]
              · rw [kk _ (by omega) (by omega) (by omega) (by omega), z4 k (by omega)]
              · rw [w3 1 _ (by omega)]; simp only [upM]; rw [if_neg (by omega), if_pos ⟨trivial, trivial⟩]
              · rw [w3 1 _ (by omega)]; simp only [upM]; rw [if_neg (by omega), if_neg (by omega), if_pos ⟨trivial, trivial⟩]
              · rw [kk _ (by omega) (by omega) (by omega) (by omega), gm4]
              · rw [w3 1 _ (by omega)]; simp only [upM]; rw [if_neg (by omega), if_neg (by omega), if_neg (by omega), w2 k (by omega) hk, z4 _ (by omega)]
          obtain ⟨r0, τ0, -, hI0⟩ : Ex (Md_splitLine_89 100000 i k f ((E - f : Nat) : Int) 0 τ2) (fun _ _ => ∃ τ5, Inv (upM σ3 6 i (e : Int)) τ5) := run _ (fun τ5 hI5 => by
            obtain ⟨ra, σa, -, rb, τb, eb, -⟩ := key τ5 hI5
            exact ⟨rb, τb, eb, τ5, hI5⟩)
          obtain ⟨τ5, hI5⟩ := hI0
          obtain ⟨ra, σa, ea, -⟩ := key τ5 hI5
          refine ⟨ra, σa, ea, run _ (fun τ6 hI6 => ?_)⟩
          obtain ⟨rb, σb, eb, hb⟩ := key τ6 hI6
          rw [ea] at eb
          injection eb with eb
          injection eb with eb1 eb2
          subst eb1; subst eb2
          exact hb
        obtain ⟨r, σ', em, hm⟩ := main
        rw [show (i : Int) + 1 = ((i + 1 : Nat) : Int) by omega] at em
        exact ⟨r, σ', em, hm⟩
      · rw [if_neg (by omega), if_pos (by omega)]
        exact Ex.ret (Ex.ret ⟨rfl, h⟩)
    · rw [if_neg q2, wr_0, if_pos rfl, if_pos rfl]
      exact Ex.ret (Ex.ret ⟨rfl, h⟩)
  · rw [if_neg q, wr_0, if_pos rfl, if_pos rfl]
    exact Ex.ret (Ex.ret ⟨rfl, h⟩)
end SQ
