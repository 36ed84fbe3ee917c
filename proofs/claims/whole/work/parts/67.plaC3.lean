/-! ===== the plan of the class: decide(), make(), column(), study() ===== -/
def PlC (S : Mem) (m : Nat) (σ : Mem) : Prop := ∀ i, i < m → (frS S i → PlR S i σ) ∧ (¬ frS S i → σ 329 i = -9 ∧ σ 331 i = -1)
section PE
variable {S σ : Mem} {i : Nat}
theorem pla_167 (hX : PX S σ) (hi : i < nS S) {d w : Int} (h : DcP S i (fun rw stp bas => o3S S rw stp bas i) d w) (hw : w = 3 ∨ w = 4 ∨ w = 5) : Ex (Pla_decide_167 i (ldF S i).2 d w σ) (fun _ σ' => Fr (FP i) σ σ' ∧ PlR S i σ') := by
  have hS := hX.1
  have hfs := fsS_le hS (nS S) (Nat.le_refl _)
  have hmo := fsS_mono S (show i ≤ nS S by omega)
  have hN := hS.n
  have hl := ldF_ok (S := S) (i := i)
  have hd := h.d
  unfold Pla_decide_167
  rw [wr_id (n := d) (by omega) (by omega), wr_id (n := w) (by omega) (by omega)]
  by_cases q : d = -1
  · rw [if_pos q]; exact pla_201 hX hi h (Or.inl q)
  · rw [if_neg q]
    by_cases q2 : w = 3
    · rw [if_pos q2]
      rcases h with h | h | h
      · exact absurd h.1 q
      · obtain ⟨-, hc, hdo, hO⟩ := h
        have hc2 : 0 ≤ (ldF S i).2 ∧ (ldF S i).2.toNat < fsS S i ∧ 0 ≤ opn S (ldF S i).2.toNat := by omega
        have hop := opn_rng S (ldF S i).2.toNat
        have hs1 : S 5 d.toNat = 1 := by rw [hdo]; omega
        have hv := (hS.2.2.2.2.2 d.toNat (by omega)).2.2.2.1 hs1
        have hv6 := (hS.2.2.2.2.2 d.toNat (by omega)).2.2.1 (by omega)
        have e21 : σ 21 d.toNat = S 9 d.toNat := by
          have := aC_clos (σ := σ) (r := d.toNat) (by omega) (by rw [hX.2.2.1]; omega)
          rw [hX.2.2.1] at this; exact this.symm
        rw [rg_20 (by omega) (by omega)]
        simp only [Option.bind_some]
        rw [e21]
        unfold Pla_standByClosed
        refine Ex.bnd (Ex.bnd ((pla_ground hX hi (b := (ldF S i).2) (by omega)).mono (fun _ σ1 z => ?_)))
        obtain ⟨hF, -, g2, g3⟩ := z
        obtain ⟨f1, f2, f3, f4, f5⟩ := g2 hc
        have hu : (ldF S i).2.toNat < fsS S (nS S) := by omega
        have hk := tq_ok hS hu
        have hkl := hS.len hk.1
        have hof := of_rng hS hu (by omega)
        have hX1 := PX_Fr hF (fun o k q => by unfold FP at q; omega) hX
        have ht := tk_arr hX1.2.2.2.2.1 hu
        have hFF : ∀ o, (o = 329 ∨ o = 331 ∨ o = 333 ∨ o = 335 ∨ o = 337 ∨ o = 339) → FP i o i := fun o h => ⟨h, rfl⟩
        have e4 : ∀ rw stp bas, o4S S rw stp bas i = (S 6 d.toNat, ccS S rw stp (ldF S i).2.toNat, 3, d) := by
          intro rw stp bas
          have e3' : o3S S rw stp bas i = (S 6 d.toNat, ccS S rw stp (ldF S i).2.toNat, 3, d) := hO rw stp bas
          rw [o4_eq, e3']; unfold ofr; rw [if_neg (by simp only []; omega)]
        have fin : ∀ (σ' : Mem) (of sp : Int), Fr (FP i) σ σ' → σ' 329 i = 3 → σ' 331 i = d → σ' 333 i = (tq S (ldF S i).2.toNat).1 → σ' 335 i = of → σ' 337 i = sp → σ' 339 i = 0 → (0 ≤ of ∧ of ≤ 32 ∧ 0 ≤ sp ∧ sp ≤ 4) → (∀ (rw : Nat → Int) (stp bas : Int), (∀ j, j < nS S → 0 ≤ rw j ∧ rw j ≤ 40) → ccS S rw stp (ldF S i).2.toNat = grC rw stp bas (tq S (ldF S i).2.toNat).1 of sp) → Fr (FP i) σ σ' ∧ PlR S i σ' := by
          intro σ' of sp h0 h1 h2 h3 h4 h5 h6 h7 h8
          refine ⟨h0, ?_⟩
          unfold PlR
          rw [h1, h2, h3, h4, h5, h6]
          refine ⟨Or.inr ⟨by omega, by omega⟩, fun _ => h7, by omega, by omega, by omega, fun rw stp bas hr => ?_⟩
          rw [e4]
          refine ⟨rfl, rfl, ?_⟩
          rw [← h8 rw stp bas hr]
          simp
        rw [rs_328 (by omega) (by omega)]
        simp only [Option.bind_some]
        rw [show ((i : Int)).toNat = i by omega, wr_id (n := S 9 d.toNat) (by omega) (by omega)]
        have hF1 : Fr (FP i) σ (upM σ1 329 i 3) := Fr.up hF (hFF _ (by omega))
        by_cases q3 : S 9 d.toNat = 1
        · rw [if_pos q3]
          refine Ex.ret (Ex.ret (fin _ (ofS S (ldF S i).2.toNat) (spS S (ldF S i).2.toNat) hF1 (by simp [upM]) (by simp [upM, f2, hdo]) (by simp [upM, f3]) (by simp [upM, f4]) (by simp [upM, f5]) (by simp [upM, g3]) ⟨hof.1, hof.2.1, hof.2.2.1, hof.2.2.2.1⟩ (fun rw stp bas hr => ?_)))
          rw [cin_gr hS hu (by omega) hr stp bas]
          unfold ccS
          rw [← hdo, if_neg (by omega), if_pos q3]
        · rw [if_neg q3, rs_336 (by omega) (by omega)]
          simp only [Option.bind_some]
          rw [show ((i : Int)).toNat = i by omega]
          by_cases q4 : S 9 d.toNat = 0
          · rw [if_pos q4, rs_334 (by omega) (by omega)]
            simp only [Option.bind_some]
            rw [show ((i : Int)).toNat = i by omega]
            refine Ex.ret (Ex.ret (fin _ 0 0 (Fr.up (Fr.up hF1 (hFF _ (by omega))) (hFF _ (by omega))) (by simp [upM]) (by simp [upM, f2, hdo]) (by simp [upM, f3]) (by simp [upM]) (by simp [upM]) (by simp [upM, g3]) (by omega) (fun rw stp bas hr => ?_)))
            unfold ccS grC
            rw [← hdo, if_pos q4, if_neg (by omega), if_neg (by omega), show (((tq S (ldF S i).2.toNat).1 : Nat) : Int).toNat = (tq S (ldF S i).2.toNat).1 by omega]
            omega
          · rw [if_neg q4, rg_292 (by omega) (by omega)]
            simp only [Option.bind_some]
            rw [rs_334 (by omega) (by omega)]
            simp only [Option.bind_some]
            rw [show ((i : Int)).toNat = i by omega]
            have est : upM (upM σ1 329 i 3) 337 i 0 293 (ldF S i).2.toNat = (tq S (ldF S i).2.toNat).2.1 := by simp [upM, ht.2.1]
            rw [est]
            refine Ex.ret (Ex.ret (fin _ (tq S (ldF S i).2.toNat).2.1 0 (Fr.up (Fr.up hF1 (hFF _ (by omega))) (hFF _ (by omega))) (by simp [upM]) (by simp [upM, f2, hdo]) (by simp [upM, f3]) (by simp [upM]) (by simp [upM]) (by simp [upM, g3]) (by omega) (fun rw stp bas hr => ?_)))
            unfold ccS grC
            rw [← hdo, if_neg q4, if_neg q3, if_neg (by omega), if_neg (by omega), show (((tq S (ldF S i).2.toNat).1 : Nat) : Int).toNat = (tq S (ldF S i).2.toNat).1 by omega]
      · omega
    · rw [if_neg q2]; exact pla_201 hX hi h (Or.inr q2)
theorem pla_decide (hX : PX S σ) (hi : i < nS S) : Ex (Pla_decide i σ) (fun _ σ' => Fr (FP i) σ σ' ∧ PlR S i σ') := by
  have hS := hX.1
  have hfs := fsS_le hS (nS S) (Nat.le_refl _)
  have hmo := fsS_mono S (show i ≤ nS S by omega)
  have hmo1 := fsS_mono S (show i + 1 ≤ nS S by omega)
  have hmo2 := fsS_mono S (show i ≤ i + 1 by omega)
  have hN := hS.n
  have hl := ldF_ok (S := S) (i := i)
  have hT := hX.2.2.2.2.1
  have key : Ex (Pla_decide_53 i (fsS S i : Nat) (fsS S (i + 1) : Nat) (ldF S i).2 σ) (fun _ σ' => Fr (FP i) σ σ' ∧ PlR S i σ') := by
    have h1 : DcP S i (fun rw stp _ => o1S S rw stp i) (if (ldF S i).2 = -1 then -1 else opn S (ldF S i).2.toNat) 3 := by
      by_cases q : (ldF S i).2 = -1
      · rw [if_pos q]
        exact Or.inl ⟨rfl, fun rw stp bas => by show o1S S rw stp i = _; unfold o1S; rw [if_pos q]⟩
      · rw [if_neg q]
        have hop := opn_rng S (ldF S i).2.toNat
        have hv := ((hS.2.2.2.2.2 (opn S (ldF S i).2.toNat).toNat (by omega)).2.2.1 (by omega)).1
        exact Or.inr (Or.inl ⟨rfl, q, rfl, fun rw stp bas => by show o1S S rw stp i = _; unfold o1S ofr; rw [if_neg q, if_pos (by simp only []; omega)]⟩)
    have h75 : Ex (Pla_decide_75 i (fsS S i : Nat) (fsS S (i + 1) : Nat) (ldF S i).2 (if (ldF S i).2 = -1 then -1 else opn S (ldF S i).2.toNat) σ) (fun _ σ' => Fr (FP i) σ σ' ∧ PlR S i σ') := by
      generalize (if (ldF S i).2 = -1 then (-1 : Int) else opn S (ldF S i).2.toNat) = d at h1
      have hst : stS S i = -1 ∨ (0 ≤ stS S i ∧ stS S i < 12 ∧ S 5 (stS S i).toNat ≠ 0) := by
        unfold stS
        split
        · have := brS_rng S 2 (fsS S i) 12; omega
        · exact Or.inl rfl
      have hjn : jnS S i = -1 ∨ (0 ≤ jnS S i ∧ jnS S i < 12 ∧ S 5 (jnS S i).toNat ≠ 0) := by
        unfold jnS
        split
        · have := brS_rng S 3 (fsS S i - 1) 12; omega
        · exact Or.inl rfl
      have h147 : ∀ d w : Int, DcP S i (fun rw stp bas => o2S S rw stp bas i) d w → (w = 3 ∨ w = 4) → Ex (Pla_decide_147 i (ldF S i).2 d w (jnS S i) σ) (fun _ σ' => Fr (FP i) σ σ' ∧ PlR S i σ') := by
        intro d w h hw
        have h3 : DcP S i (fun rw stp bas => o3S S rw stp bas i) _ _ := DcP_step hS h hjn (Or.inr rfl)
        unfold Pla_decide_147
        rw [rul_beats hX hjn h.d]
        simp only [Option.bind_some]
        by_cases z : jnS S i ≠ -1 ∧ (d = -1 ∨ S 6 d.toNat < S 6 (jnS S i).toNat)
        · rw [if_pos z, if_pos z] at h3
          rw [if_pos z, wr_1, if_neg (by decide)]
          exact pla_167 hX hi h3 (by omega)
        · rw [if_neg z, if_neg z] at h3
          rw [if_neg z, wr_0, if_pos rfl]
          exact pla_167 hX hi h3 (by omega)
      have h126 : ∀ d w : Int, DcP S i (fun rw stp bas => o2S S rw stp bas i) d w → (w = 3 ∨ w = 4) → Ex (Pla_decide_126 i (fsS S i : Nat) (fsS S (i + 1) : Nat) (ldF S i).2 d w σ) (fun _ σ' => Fr (FP i) σ σ' ∧ PlR S i σ') := by
        intro d w h hw
        have := h147 d w h hw
        unfold Pla_decide_126
        rw [wr_id (n := ((fsS S i : Nat) : Int)) (by omega) (by omega), wr_id (n := ((fsS S (i + 1) : Nat) : Int)) (by omega) (by omega)]
        unfold jnS at this
        by_cases z : fsS S i < fsS S (i + 1)
        · rw [if_pos (by omega), pla_joiner hX (by omega)]
          simp only [Option.bind_some]
          by_cases y : 0 < fsS S i ∧ opn S (fsS S i - 1) = -1
          · rw [if_pos ⟨z, y⟩] at this
            rw [if_pos y]; exact this
          · rw [if_neg (fun q => y q.2)] at this
            rw [if_neg y]; exact this
        · rw [if_neg (fun q => z q.1)] at this
          rw [if_neg (by omega)]; exact this
      have h106 : Ex (Pla_decide_106 i (fsS S i : Nat) (fsS S (i + 1) : Nat) (ldF S i).2 d 3 (stS S i) σ) (fun _ σ' => Fr (FP i) σ σ' ∧ PlR S i σ') := by
        have h3 : DcP S i (fun rw stp bas => o2S S rw stp bas i) _ _ := DcP_step hS h1 hst (Or.inl rfl)
        unfold Pla_decide_106
        rw [rul_beats hX hst h1.d]
        simp only [Option.bind_some]
        by_cases z : stS S i ≠ -1 ∧ (d = -1 ∨ S 6 d.toNat < S 6 (stS S i).toNat)
        · rw [if_pos z, if_pos z] at h3
          rw [if_pos z, wr_1, if_neg (by decide)]
          exact h126 _ _ h3 (by omega)
        · rw [if_neg z, if_neg z] at h3
          rw [if_neg z, wr_0, if_pos rfl]
          exact h126 _ _ h3 (by omega)
      unfold Pla_decide_75
      rw [wr_id (n := ((fsS S i : Nat) : Int)) (by omega) (by omega), wr_id (n := ((fsS S (i + 1) : Nat) : Int)) (by omega) (by omega)]
      unfold stS at h106
      by_cases z : fsS S i < fsS S (i + 1)
      · obtain ⟨-, -, b3, -⟩ := bc_at hX (u := fsS S i) (by omega)
        rw [if_pos z] at h106
        rw [if_pos (by omega), rg_305 (by omega) (by omega)]
        simp only [Option.bind_some]
        rw [show (((fsS S i : Nat)) : Int).toNat = fsS S i by omega, b3, rul_best hS hX.2.2.1 (fsS S i) (by omega)]
        exact h106
      · rw [if_neg z] at h106
        rw [if_neg (by omega)]
        exact h106
    unfold Pla_decide_53
    by_cases q : (ldF S i).2 = -1
    · rw [if_pos q] at h75
      rw [q] at h75 ⊢
      rw [show wr (-1) = -1 from by decide, if_pos rfl]
      exact h75
    · rw [if_neg q] at h75
      obtain ⟨b1, -, -, -⟩ := bc_at hX (u := (ldF S i).2.toNat) (by omega)
      rw [wr_id (n := (ldF S i).2) (by omega) (by omega), if_neg q, rg_309 (by omega) (by omega)]
      simp only [Option.bind_some]
      rw [b1]
      exact h75
  unfold Pla_decide
  rw [rg_298 (by omega) (by omega)]
  simp only [Option.bind_some]
  rw [rg_298 (by omega) (by omega)]
  simp only [Option.bind_some]
  rw [show ((i : Int)).toNat = i by omega, show ((i : Int) + 1).toNat = i + 1 by omega, tk_fr hT (by omega), tk_fr hT (by omega)]
  obtain ⟨r, hr, hc⟩ := blk_last_5 hX hi (fsS S (i + 1) - fsS S i) 100000 (fsS S i) (skS S i).length (-1) (-1) (by omega) (by omega) (Or.inl ⟨rfl, rfl⟩)
  unfold Blk_lastLeadingCloser
  rw [hr]
  simp only [Option.bind_some]
  have hc' : ((ldF S i).2 = -1 ∧ r = -1) ∨ ((ldF S i).2 ≠ -1 ∧ 0 ≤ r ∧ r < fsS S (nS S) ∧ cls S r.toNat = (ldF S i).2) := hc
  by_cases q : (ldF S i).2 = -1
  · have : r = -1 := by omega
    rw [this, show wr (-1) = -1 from by decide, if_pos rfl]
    rw [q] at key
    exact key
  · have h2 : 0 ≤ r ∧ r < fsS S (nS S) ∧ cls S r.toNat = (ldF S i).2 := by omega
    obtain ⟨-, b2, -, -⟩ := bc_at hX (u := r.toNat) (by omega)
    rw [wr_id (n := r) (by omega) (by omega), if_neg (by omega), rg_311 (by omega) (by omega)]
    simp only [Option.bind_some]
    rw [b2, h2.2.2]
    exact key
theorem PlR_Fr {σ' : Mem} {j : Nat} (h : Fr (FP j) σ σ') (hj : i ≠ j) (hP : (frS S i → PlR S i σ) ∧ (¬ frS S i → σ 329 i = -9 ∧ σ 331 i = -1)) : (frS S i → PlR S i σ') ∧ (¬ frS S i → σ' 329 i = -9 ∧ σ' 331 i = -1) := by
  have e : ∀ o, σ' o i = σ o i := fun o => h o i (fun z => hj z.2)
  unfold PlR
  rw [e, e, e, e, e, e]
  exact hP
theorem pla_make_3 : ∀ (m n i : Nat) (σ : Mem), PX S σ → PlC S i σ → i + m = nS S → m < n → Ex (Pla_make_3 n i σ) (fun _ σ' => Fr FPA σ σ' ∧ PlC S (nS S) σ') := by
  intro m
  induction m with
  | zero =>
    intro n i σ hX hP him hn
    obtain ⟨n, rfl⟩ : ∃ z, n = z + 1 := ⟨n - 1, by omega⟩
    have hN := hX.1.n
    have en : σ 2 0 = S 0 0 := by rw [← hX.2.2.1]; rfl
    show Ex (Pla_make_3b (Pla_make_3 n) i σ) _
    unfold Pla_make_3b
    rw [en, wr_id (n := (i : Int)) (by omega) (by omega), wr_id (n := S 0 0) (by omega) (by omega), if_neg (by omega)]
    exact Ex.ret ⟨Fr.rf, by rw [show nS S = i by omega]; exact hP⟩
  | succ m ih =>
    intro n i σ hX hP him hn
    obtain ⟨n, rfl⟩ : ∃ z, n = z + 1 := ⟨n - 1, by omega⟩
    have hS := hX.1
    have hN := hS.n
    have hA := hX.2.2.1
    have en : σ 2 0 = S 0 0 := by rw [← hA]; rfl
    have el : σ 6 i = S 2 i := by rw [← hA]; simp [absC, mkS, en]; omega
    have hl := hS.len (i := i) (by omega)
    have eg : σ 301 i = hdS S i := hX.2.2.2.2.1.1.2.2.1 i (by omega)
    have nx : ∀ σ', Fr (FP i) σ σ' → ((frS S i → PlR S i σ') ∧ (¬ frS S i → σ' 329 i = -9 ∧ σ' 331 i = -1)) → Ex (Pla_make_3 n ((i : Int) + 1) σ') (fun _ σ' => Fr FPA σ σ' ∧ PlC S (nS S) σ') := by
      intro σ' hF hR
      have hF2 : Fr FPA σ σ' := hF.mono (fun o k z => by unfold FP at z; unfold FPA; omega)
      have := ih n (i + 1) σ' (PX_Fr hF2 (fun o k z => by unfold FPA at z; omega) hX) (fun j hj => by
        by_cases e : j = i
        · subst e; exact hR
        · exact PlR_Fr hF e (hP j (by omega))) (by omega) (by omega)
      rw [show (((i + 1 : Nat)) : Int) = (i : Int) + 1 by omega] at this
      exact this.mono (fun r ρ q => ⟨hF2.tr q.1, q.2⟩)
    have non : ¬ frS S i → Ex (Pla_make_42 (Pla_make_3 n) i σ) (fun _ σ' => Fr FPA σ σ' ∧ PlC S (nS S) σ') := by
      intro hf
      unfold Pla_make_42
      rw [rs_328 (by omega) (by omega)]
      simp only [Option.bind_some]
      rw [rs_330 (by omega) (by omega)]
      simp only [Option.bind_some]
      rw [show ((i : Int)).toNat = i by omega]
      exact nx _ (Fr.up (Fr.up Fr.rf ⟨by omega, rfl⟩) ⟨by omega, rfl⟩) ⟨fun z => absurd z hf, fun _ => ⟨by simp [upM], by simp [upM]⟩⟩
    show Ex (Pla_make_3b (Pla_make_3 n) i σ) _
    unfold Pla_make_3b
    rw [en, wr_id (n := (i : Int)) (by omega) (by omega), wr_id (n := S 0 0) (by omega) (by omega), if_pos (by omega), rg_5 (by omega) (by omega)]
    simp only [Option.bind_some]
    rw [show ((i : Int)).toNat = i by omega, el, wr_id (n := S 2 i) (by omega) (by omega)]
    by_cases q : S 2 i = 0
    · rw [if_pos q]; exact non (fun z => z.1 q)
    · rw [if_neg q, rg_300 (by omega) (by omega)]
      simp only [Option.bind_some]
      rw [show ((i : Int)).toNat = i by omega, eg]
      have hh : hdS S i = 0 ∨ hdS S i = 1 := by unfold hdS; split <;> omega
      rw [wr_id (n := hdS S i) (by omega) (by omega)]
      by_cases q2 : hdS S i = 0
      · rw [if_pos q2]
        refine Ex.bnd ((pla_decide hX (by omega)).mono (fun _ σ1 z => ?_))
        exact nx σ1 z.1 ⟨fun _ => z.2, fun y => absurd ⟨q, q2⟩ y⟩
      · rw [if_neg q2]; exact non (fun z => q2 z.2)
theorem pla_make (hX : PX S σ) : Ex (Pla_make σ) (fun _ σ' => Fr FPA σ σ' ∧ PlC S (nS S) σ') := by
  have hN := hX.1.n
  exact pla_make_3 (nS S) 100000 0 σ hX (fun j hj => by omega) (by omega) (by omega)
theorem pla_column (hN : nS S ≤ 20) (hi : i < nS S) (hP : (frS S i → PlR S i σ) ∧ (¬ frS S i → σ 329 i = -9 ∧ σ 331 i = -1)) {o : Nat} (ho : lnA (o + 1) = 20) (hr : ∀ j, j < nS S → 0 ≤ σ (o + 1) j ∧ σ (o + 1) j ≤ 40) {stp bas : Int} (hs : 1 ≤ stp ∧ stp ≤ 8) (hb : 0 ≤ bas ∧ bas ≤ 20) :
    Pla_column i o stp bas σ = some (cif (frS S i) (wanS S (σ (o + 1)) stp bas i) (-9), σ) := by
  unfold Pla_column
  rw [rg_328 (by omega) (by omega)]
  simp only [Option.bind_some]
  rw [show ((i : Int)).toNat = i by omega]
  by_cases q : frS S i
  · obtain ⟨h1, h2, h3, h4, h5, h6⟩ := hP.1 q
    obtain ⟨w1, w2, w3⟩ := h6 (σ (o + 1)) stp bas hr
    have hes : -32 ≤ σ 339 i * stp ∧ σ 339 i * stp ≤ 32 := by
      have : σ 339 i = -4 ∨ σ 339 i = -3 ∨ σ 339 i = -2 ∨ σ 339 i = -1 ∨ σ 339 i = 0 ∨ σ 339 i = 1 ∨ σ 339 i = 2 ∨ σ 339 i = 3 ∨ σ 339 i = 4 := by omega
      rcases this with z | z | z | z | z | z | z | z | z <;> rw [z] <;> omega
    have fin : ∀ g : Int, 0 ≤ g → g ≤ 200 → g = grC (σ (o + 1)) stp bas (σ 333 i) (σ 335 i) (σ 337 i) → Pla_column_63 o i stp g σ = some (cif (frS S i) (wanS S (σ (o + 1)) stp bas i) (-9), σ) := by
      intro g h0 h200 hg
      unfold Pla_column_63
      rw [rg_338 (by omega) (by omega)]
      simp only [Option.bind_some]
      rw [show ((i : Int)).toNat = i by omega, cif_pos q]
      unfold wanS mmaxI mminI
      rw [w3, ← hg]
      rw [wr_id (n := g + σ 339 i * stp) (by omega) (by omega), wr_id (n := 40) (by omega) (by omega), wr_0]
      by_cases z1 : g + σ 339 i * stp < 40
      · rw [if_pos z1, wr_id (n := g + σ 339 i * stp) (by omega) (by omega)]
        by_cases z2 : g + σ 339 i * stp < 0
        · rw [if_neg (by omega), if_pos z2]
        · rw [if_neg z2]
          by_cases z3 : 0 < g + σ 339 i * stp
          · rw [if_pos z3]
          · rw [if_neg z3]; congr 2; omega
      · rw [if_neg z1, wr_id (n := 40) (by omega) (by omega), if_pos (by omega), if_neg (by omega)]
    rw [wr_id (n := σ 329 i) (by omega) (by omega), if_neg (by omega), rg_332 (by omega) (by omega)]
    simp only [Option.bind_some]
    rw [show ((i : Int)).toNat = i by omega, wr_id (n := σ 333 i) (by omega) (by omega)]
    by_cases z : σ 333 i = -1
    · rw [if_pos z]
      exact fin bas (by omega) (by omega) (by unfold grC; rw [if_pos z])
    · have hv := h2 z
      have hrw := hr (σ 333 i).toNat (by omega)
      have hsp : 0 ≤ σ 337 i * stp ∧ σ 337 i * stp ≤ 32 := by
        have : σ 337 i = 0 ∨ σ 337 i = 1 ∨ σ 337 i = 2 ∨ σ 337 i = 3 ∨ σ 337 i = 4 := by omega
        rcases this with z | z | z | z | z <;> rw [z] <;> omega
      rw [if_neg z, row_get ho (by omega) (by omega) (by omega)]
      simp only [Option.bind_some]
      rw [rg_334 (by omega) (by omega)]
      simp only [Option.bind_some]
      rw [rg_336 (by omega) (by omega)]
      simp only [Option.bind_some]
      rw [show ((i : Int)).toNat = i by omega]
      unfold Ai_columnFrom
      rw [wr_id (n := σ 337 i) (by omega) (by omega)]
      unfold mminI
      rw [wr_id (n := 40) (by omega) (by omega), wr_id (n := σ (o + 1) (σ 333 i).toNat + σ 337 i * stp) (by omega) (by omega)]
      by_cases y : 0 < σ 337 i
      · rw [if_pos y]
        simp only [Option.bind_some]
        refine fin _ ?_ ?_ ?_
        · split <;> omega
        · split <;> omega
        · unfold grC; rw [if_neg z, if_pos y]
      · rw [if_neg y]
        simp only [Option.bind_some]
        refine fin _ (by omega) (by omega) ?_
        unfold grC; rw [if_neg z, if_neg y]
  · rw [(hP.2 q).1, show wr (-9) = -9 from by decide, if_pos rfl, cif_neg q]
end PE
