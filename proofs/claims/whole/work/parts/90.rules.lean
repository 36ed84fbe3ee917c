/-! ===== rules change; dropRule ===== -/
section RU
variable {σ τ : Mem}
/-- rule r of both, alike and as it must be -/
def ruR (σ τ : Mem) (r : Nat) : Prop := τ 1 (701 + 23 * r) = σ 13 r ∧ (0 ≤ σ 13 r ∧ σ 13 r ≤ 3) ∧ (σ 13 r ≠ 0 → σ 13 r ≠ 1 → σ 23 (2 * r + 1) = 0)
  ∧ (σ 13 r ≠ 0 → (τ 1 (702 + 23 * r) = σ 15 r ∧ 0 ≤ σ 15 r ∧ σ 15 r ≤ 9) ∧ (τ 1 (703 + 23 * r) = σ 17 r ∧ -4 ≤ σ 17 r ∧ σ 17 r ≤ 4) ∧ (τ 1 (706 + 23 * r) = σ 23 (2 * r) ∧ 1 ≤ σ 23 (2 * r) ∧ σ 23 (2 * r) ≤ 8) ∧ ∀ k : Nat, (k : Int) < σ 23 (2 * r) → τ 1 (707 + 23 * r + k) = σ 25 (16 * r + k) ∧ 0 ≤ σ 25 (16 * r + k) ∧ σ 25 (16 * r + k) ≤ 126)
  ∧ (σ 13 r = 1 → 0 ≤ σ 17 r ∧ (τ 1 (704 + 23 * r) = σ 19 r ∧ (σ 19 r = 0 ∨ σ 19 r = 1)) ∧ (τ 1 (705 + 23 * r) = σ 21 r ∧ 0 ≤ σ 21 r ∧ σ 21 r ≤ 2) ∧ (τ 1 (715 + 23 * r) = σ 23 (2 * r + 1) ∧ 1 ≤ σ 23 (2 * r + 1) ∧ σ 23 (2 * r + 1) ≤ 8) ∧ ∀ k : Nat, (k : Int) < σ 23 (2 * r + 1) → τ 1 (716 + 23 * r + k) = σ 25 (16 * r + 8 + k) ∧ 0 ≤ σ 25 (16 * r + 8 + k) ∧ σ 25 (16 * r + 8 + k) ≤ 126)
theorem Inv.ru (h : Inv σ τ) {r : Nat} (hr : r < 12) : ruR σ τ r := by
  have hA := h.1.1
  have hc := h.1.2.2.1
  obtain ⟨v1, v2, v3, v4, v5⟩ := h.1.2.1.2.2.2.2.2 r hr
  have s1 := aM_sort (τ := τ) hr
  have s2 := aC_sort (σ := σ) hr
  rw [hA] at s2
  refine ⟨by rw [← s1, ← s2], by rw [← s2]; exact ⟨v1, v2⟩, fun a b => hc r hr a b, fun z => ?_, fun z => ?_⟩
  · have z0 : absM τ 0 5 r ≠ 0 := by rw [s2]; exact z
    have z0' : absC σ 1 5 r ≠ 0 := by rw [hA]; exact z0
    obtain ⟨w1, w2, w3⟩ := v3 z0
    have p1 := aM_prec hr z0
    have p2 := aC_prec hr z0'
    have q1 := aM_sp hr z0
    have q2 := aC_sp hr z0'
    have t1 := aM_ts (w := 0) hr (by omega) z0 (Or.inl rfl)
    have t2 := aC_ts (w := 0) hr (by omega) hc z0'
    rw [hA] at p2 q2 t2
    rw [Nat.add_zero] at t1 t2
    rw [show 701 + 23 * r + (5 + 9 * 0) = 706 + 23 * r by omega] at t1
    refine ⟨⟨by rw [← p1, ← p2], by rw [← p2]; exact w1⟩, ⟨by rw [← q1, ← q2], by rw [← q2]; exact w2⟩, ⟨by rw [← t1, ← t2], by rw [← t2]; exact w3⟩, fun k hk => ?_⟩
    rw [← t2] at hk
    have b1 := aM_tb (w := 0) (k := k) hr (by omega) (by omega) z0 (Or.inl rfl) (by rw [Nat.add_zero]; exact hk)
    have b2 := aC_tb (w := 0) (k := k) hr (by omega) (by omega) z0' (Or.inl rfl) (by rw [Nat.add_zero, ← t2]; exact hk)
    rw [hA] at b2
    rw [show 16 * r + 8 * 0 + k = 16 * r + k by omega] at b1 b2
    rw [show 701 + 23 * r + (5 + 9 * 0) + 1 + k = 707 + 23 * r + k by omega] at b1
    exact ⟨by rw [← b1, ← b2], by rw [← b2]; exact v5 k (by omega)⟩
  · have z0 : absM τ 0 5 r = 1 := by rw [s2]; exact z
    have z0' : absC σ 1 5 r = 1 := by rw [hA]; exact z0
    have zn : absM τ 0 5 r ≠ 0 := by rw [z0]; decide
    have zn' : absC σ 1 5 r ≠ 0 := by rw [z0']; decide
    obtain ⟨w0, w1, w2, w3⟩ := v4 z0
    have p1 := aM_mode hr z0
    have p2 := aC_mode hr z0'
    have q1 := aM_clos hr z0
    have q2 := aC_clos hr z0'
    have u2 := aC_sp hr zn'
    have t1 := aM_ts (w := 1) hr (by omega) zn (Or.inr z0)
    have t2 := aC_ts (w := 1) hr (by omega) hc zn'
    rw [hA] at p2 q2 t2 u2
    rw [show 701 + 23 * r + (5 + 9 * 1) = 715 + 23 * r by omega] at t1
    refine ⟨by rw [← u2]; exact w0, ⟨by rw [← p1, ← p2], by rw [← p2]; exact w1⟩, ⟨by rw [← q1, ← q2], by rw [← q2]; exact w2⟩, ⟨by rw [← t1, ← t2], by rw [← t2]; exact w3⟩, fun k hk => ?_⟩
    rw [← t2] at hk
    have b1 := aM_tb (w := 1) (k := k) hr (by omega) (by omega) zn (Or.inr z0) hk
    have b2 := aC_tb (w := 1) (k := k) hr (by omega) (by omega) zn' (Or.inr z0') (by rw [← t2]; exact hk)
    rw [hA] at b2
    rw [show 16 * r + 8 * 1 + k = 16 * r + 8 + k by omega] at b1 b2
    rw [show 701 + 23 * r + (5 + 9 * 1) + 1 + k = 716 + 23 * r + k by omega] at b1
    have := v5 (8 + k) (by omega)
    rw [show 16 * r + (8 + k) = 16 * r + 8 + k by omega] at this
    exact ⟨by rw [← b1, ← b2], by rw [← b2]; exact this⟩
/-- the cells of rule r -/
def FRu (r o k : Nat) : Prop := ((o = 13 ∨ o = 15 ∨ o = 17 ∨ o = 19 ∨ o = 21) ∧ k = r) ∨ (o = 23 ∧ (k = 2 * r ∨ k = 2 * r + 1)) ∨ (o = 25 ∧ 16 * r ≤ k ∧ k < 16 * r + 16)
def FRm (r o k : Nat) : Prop := o = 1 ∧ 701 + 23 * r ≤ k ∧ k < 724 + 23 * r
theorem ruR_keep {σ' τ' : Mem} {r : Nat} (h : ruR σ τ r) (hc : ∀ o k, FRu r o k → σ' o k = σ o k) (hm : ∀ k, 701 + 23 * r ≤ k → k < 724 + 23 * r → τ' 1 k = τ 1 k) : ruR σ' τ' r := by
  obtain ⟨a, b, c, d, e⟩ := h
  unfold ruR
  rw [hc 13 r (by unfold FRu; omega), hc 15 r (by unfold FRu; omega), hc 17 r (by unfold FRu; omega), hc 19 r (by unfold FRu; omega), hc 21 r (by unfold FRu; omega), hc 23 (2 * r) (by unfold FRu; omega), hc 23 (2 * r + 1) (by unfold FRu; omega), hm (701 + 23 * r) (by omega) (by omega), hm (702 + 23 * r) (by omega) (by omega), hm (703 + 23 * r) (by omega) (by omega), hm (704 + 23 * r) (by omega) (by omega), hm (705 + 23 * r) (by omega) (by omega), hm (706 + 23 * r) (by omega) (by omega), hm (715 + 23 * r) (by omega) (by omega)]
  refine ⟨a, b, c, fun z => ?_, fun z => ?_⟩
  · obtain ⟨d1, d2, d3, d4⟩ := d z
    exact ⟨d1, d2, d3, fun k hk => by rw [hm _ (by omega) (by omega), hc 25 _ (by unfold FRu; omega)]; exact d4 k hk⟩
  · obtain ⟨d0, d1, d2, d3, d4⟩ := e z
    exact ⟨d0, d1, d2, d3, fun k hk => by rw [hm _ (by omega) (by omega), hc 25 _ (by unfold FRu; omega)]; exact d4 k hk⟩
theorem SV_rule {S S' : Mem} (hS : SV S) (e : ∀ c, c ≤ 4 → S' c = S c) (h : ∀ r : Nat, r < 12 → 0 ≤ S' 5 r ∧ S' 5 r ≤ 3 ∧ (S' 5 r ≠ 0 → (0 ≤ S' 6 r ∧ S' 6 r ≤ 9) ∧ (-4 ≤ S' 7 r ∧ S' 7 r ≤ 4) ∧ (1 ≤ S' 10 (2 * r) ∧ S' 10 (2 * r) ≤ 8)) ∧ (S' 5 r = 1 → 0 ≤ S' 7 r ∧ (S' 8 r = 0 ∨ S' 8 r = 1) ∧ (0 ≤ S' 9 r ∧ S' 9 r ≤ 2) ∧ (1 ≤ S' 10 (2 * r + 1) ∧ S' 10 (2 * r + 1) ≤ 8)) ∧ ∀ k : Nat, k < 16 → 0 ≤ S' 11 (16 * r + k) ∧ S' 11 (16 * r + k) ≤ 126) : SV S' := by
  obtain ⟨s0, s1, s2, s3, s4, -⟩ := hS
  have e0 := e 0 (by omega)
  have e1 := e 1 (by omega)
  have e2 := e 2 (by omega)
  have e3 := e 3 (by omega)
  have e4 := e 4 (by omega)
  refine ⟨by rw [e0]; exact s0, by rw [e0]; exact s1, by rw [e0]; exact s2, by rw [e0]; exact s3, fun i hi => ?_, h⟩
  rw [e0] at hi
  rw [e1, e2, e3, e4]
  exact s4 i hi
theorem SV_ru (hS : SV (absC σ 1)) {σ' : Mem} (e : ∀ c, c ≤ 4 → absC σ' 1 c = absC σ 1 c) (h : ∀ r, r < 12 → ruR σ' τ r) : SV (absC σ' 1) := by
  have hc : CI σ' 1 := fun r hr => (h r hr).2.2.1
  refine SV_rule hS e (fun r hr => ?_)
  obtain ⟨a, b, c, d, f⟩ := h r hr
  have s := aC_sort (σ := σ') hr
  refine ⟨by rw [s]; exact b.1, by rw [s]; exact b.2, fun z => ?_, fun z => ?_, fun k hk => ?_⟩
  · have z' : σ' 13 r ≠ 0 := by rw [← s]; exact z
    obtain ⟨d1, d2, d3, d4⟩ := d z'
    have t2 := aC_ts (w := 0) hr (by omega) hc z
    rw [Nat.add_zero] at t2
    rw [aC_prec hr z, aC_sp hr z, t2]
    exact ⟨d1.2, d2.2, d3.2⟩
  · have z' : σ' 13 r = 1 := by rw [← s]; exact z
    obtain ⟨d0, d1, d2, d3, d4⟩ := f z'
    have zn : absC σ' 1 5 r ≠ 0 := by rw [z]; decide
    rw [aC_mode hr z, aC_clos hr z, aC_sp hr zn, aC_ts (w := 1) hr (by omega) hc zn]
    exact ⟨d0, d1.2, d2.2, d3.2⟩
  · show 0 ≤ (if 16 * r + k < 192 ∧ σ' 13 ((16 * r + k) / 16) ≠ 0 ∧ ((16 * r + k) / 8 % 2 = 0 ∨ σ' 13 ((16 * r + k) / 16) = 1) ∧ (((16 * r + k) % 8 : Nat) : Int) < σ' 23 ((16 * r + k) / 8) then σ' 25 (16 * r + k) else 0) ∧ (if 16 * r + k < 192 ∧ σ' 13 ((16 * r + k) / 16) ≠ 0 ∧ ((16 * r + k) / 8 % 2 = 0 ∨ σ' 13 ((16 * r + k) / 16) = 1) ∧ (((16 * r + k) % 8 : Nat) : Int) < σ' 23 ((16 * r + k) / 8) then σ' 25 (16 * r + k) else 0) ≤ 126
    split
    · rename_i q
      obtain ⟨q1, q2, q3, q4⟩ := q
      rw [show (16 * r + k) / 16 = r by omega] at q2 q3
      by_cases lt : k < 8
      · rw [show (16 * r + k) / 8 = 2 * r by omega, show (16 * r + k) % 8 = k by omega] at q4
        exact ((d q2).2.2.2 k q4).2
      · have q5 : σ' 13 r = 1 := by
          rcases q3 with y | y
          · omega
          · exact y
        rw [show (16 * r + k) / 8 = 2 * r + 1 by omega, show (16 * r + k) % 8 = k - 8 by omega] at q4
        have := ((f q5).2.2.2.2 (k - 8) q4).2
        rw [show 16 * r + 8 + (k - 8) = 16 * r + k by omega] at this
        exact this
    · omega
theorem Inv_rule {σ' τ' : Mem} {r : Nat} (h : Inv σ τ) (h11 : σ 0 11 = 0) (hr : r < 12) (hσ : Fr (FRu r) σ σ') (hτ : Fr (FRm r) τ τ') (hR : ruR σ' τ' r) : Inv σ' τ' := by
  have hn := h.n
  have all : ∀ r', r' < 12 → ruR σ' τ' r' := fun r' hr' => by
    by_cases e : r' = r
    · subst e; exact hR
    · exact ruR_keep (h.ru hr') (fun o k q => hσ o k (by unfold FRu at *; omega)) (fun k h1 h2 => hτ 1 k (by unfold FRm; omega))
  have kσ : ∀ o k, o < 13 ∨ 26 ≤ o → σ' o k = σ o k := fun o k q => hσ o k (by unfold FRu; omega)
  have kτ : ∀ k, k < 701 ∨ 977 ≤ k → τ' 1 k = τ 1 k := fun k q => hτ 1 k (by unfold FRm; omega)
  have es : ∀ o, o < 13 → σ' o = σ o := fun o q => by funext k; exact kσ o k (by omega)
  have lo : ∀ j : Nat, (j : Int) < τ 1 0 → lnR σ τ j := fun j hj => h.lnok (by omega)
  have e04 : ∀ c, c ≤ 4 → absC σ' 1 c = absC σ 1 c := by
    intro c hc
    unfold absC
    rw [es (1 + 1) (by omega), es 1 (by omega), es (1 + 3) (by omega), es (1 + 5) (by omega), es (1 + 7) (by omega), es (1 + 9) (by omega)]
    match c, hc with
    | 0, _ => rfl
    | 1, _ => rfl
    | 2, _ => rfl
    | 3, _ => rfl
    | 4, _ => rfl
  have e : absC σ' 1 = absM τ' 0 := by
    unfold absC
    rw [aM0, kτ 0 (by omega), kτ 977 (by omega), kτ 978 (by omega), kτ 979 (by omega), show σ' (1 + 1) 0 = τ 1 0 by rw [kσ 2 0 (by omega)]; exact hn.1, show σ' 1 2 = τ 1 977 by rw [kσ 1 2 (by omega)]; exact h.stp.1, show σ' 1 3 = τ 1 978 by rw [kσ 1 3 (by omega)]; exact h.bas.1, show σ' 1 4 = τ 1 979 by rw [kσ 1 4 (by omega)]; exact h.cm]
    refine mkS_congr (fun k hk => ?_) (fun k hk => ?_) (fun k hk => ?_) (fun i k hi hk _ => ?_) (fun r' hr' => (all r' hr').1.symm) (fun r' hr' z => ?_) (fun r' hr' z => ?_)
    · rw [kσ (1 + 3) k (by omega), kτ (1 + k) (by omega)]; exact (lo k hk).1.symm
    · rw [kσ (1 + 5) k (by omega), kτ (21 + k) (by omega)]; exact (lo k hk).2.1.symm
    · rw [kσ (1 + 7) k (by omega), kτ (41 + k) (by omega)]; exact (lo k hk).2.2.1.symm
    · rw [kσ (1 + 5) i (by omega)] at hk
      rw [kσ (1 + 9) _ (by omega), kτ _ (by omega)]; exact ((lo i hi).2.2.2.1 k hk).symm
    · obtain ⟨d1, d2, d3, d4⟩ := (all r' hr').2.2.2.1 z
      refine ⟨d1.1.symm, d2.1.symm, ?_, fun k hk hk2 => ?_⟩
      · rw [show 701 + 23 * (2 * r' / 2) + (5 + 9 * (2 * r' % 2)) = 706 + 23 * r' by omega]; exact d3.1.symm
      · rw [show 701 + 23 * ((16 * r' + k) / 16) + (6 + 9 * ((16 * r' + k) / 8 % 2)) + (16 * r' + k) % 8 = 707 + 23 * r' + k by omega]; exact (d4 k hk2).1.symm
    · obtain ⟨d0, d1, d2, d3, d4⟩ := (all r' hr').2.2.2.2 z
      refine ⟨d1.1.symm, d2.1.symm, ?_, fun k hk hk2 => ?_⟩
      · rw [show 701 + 23 * ((2 * r' + 1) / 2) + (5 + 9 * ((2 * r' + 1) % 2)) = 715 + 23 * r' by omega]; exact d3.1.symm
      · rw [show 701 + 23 * ((16 * r' + 8 + k) / 16) + (6 + 9 * ((16 * r' + 8 + k) / 8 % 2)) + (16 * r' + 8 + k) % 8 = 716 + 23 * r' + k by omega]; exact (d4 k hk2).1.symm
  refine Inv_edit h (fun o k q => hσ o k (by unfold FN at q; unfold FRu; omega)) (fun o k q => hτ o k (by unfold FM at q; unfold FRm; omega)) ⟨e, ?_, fun r' hr' => (all r' hr').2.2.1, Or.inl (by rw [kσ 0 11 (by omega)]; exact h11)⟩
  rw [← e]
  exact SV_ru (by rw [h.1.1]; exact h.1.2.1) e04 all
theorem rul_hasR {r : Nat} (hr : r < 12) (h : 0 ≤ σ 13 r ∧ σ 13 r ≤ 3) : Rul_has r σ = some (if 0 < σ 13 r then 1 else 0, σ) := by
  unfold Rul_has
  rw [rg_12 (by omega) (by omega)]
  simp only [Option.bind_some]
  rw [show ((r : Int)).toNat = r by omega, wr_id (n := σ 13 r) (by omega) (by omega)]
  by_cases q : 0 < σ 13 r
  · rw [if_pos q, if_pos q]
  · rw [if_neg q, if_neg q]
theorem rul_size_4 (h : ∀ r, r < 12 → 0 ≤ σ 13 r ∧ σ 13 r ≤ 3) : ∀ (m n x c : Nat), x + m = 12 → m < n → Rul_size_4 n c x σ = some (((c + nbL (σ 13) m x : Nat) : Int), σ) := by
  intro m
  induction m with
  | zero =>
    intro n x c hx hn
    obtain ⟨n, rfl⟩ : ∃ z, n = z + 1 := ⟨n - 1, by omega⟩
    show Rul_size_4b (Rul_size_4 n) c x σ = _
    unfold Rul_size_4b
    rw [wr_id (n := (x : Int)) (by omega) (by omega), if_neg (by omega)]
    rfl
  | succ m ih =>
    intro n x c hx hn
    obtain ⟨n, rfl⟩ : ∃ z, n = z + 1 := ⟨n - 1, by omega⟩
    show Rul_size_4b (Rul_size_4 n) c x σ = _
    unfold Rul_size_4b
    rw [wr_id (n := (x : Int)) (by omega) (by omega), if_pos (by omega), rul_hasR (by omega) (h x (by omega)), nbL_s]
    simp only [Option.bind_some]
    by_cases q : 0 < σ 13 x
    · rw [if_pos q, if_pos q, wr_1, if_neg n10, show (c : Int) + 1 = ((c + 1 : Nat) : Int) by omega, show (x : Int) + 1 = ((x + 1 : Nat) : Int) by omega, ih n (x + 1) (c + 1) (by omega) (by omega), show c + 1 + nbL (σ 13) m (x + 1) = c + (1 + nbL (σ 13) m (x + 1)) by omega]
    · rw [if_neg q, if_neg q, wr_0, if_pos rfl, Int.add_zero, show (x : Int) + 1 = ((x + 1 : Nat) : Int) by omega, ih n (x + 1) c (by omega) (by omega), Nat.zero_add]
theorem md_dr_45 (h : ∀ r, r < 12 → 0 ≤ τ 1 (701 + 23 * r) ∧ τ 1 (701 + 23 * r) ≤ 3) : ∀ (m n x c : Nat), x + m = 12 → m < n → Md_dropRule_45 n c x τ = some (((c + nbL (fun r => τ 1 (701 + 23 * r)) m x : Nat) : Int), τ) := by
  intro m
  induction m with
  | zero =>
    intro n x c hx hn
    obtain ⟨n, rfl⟩ : ∃ z, n = z + 1 := ⟨n - 1, by omega⟩
    show Md_dropRule_45b (Md_dropRule_45 n) c x τ = _
    unfold Md_dropRule_45b
    rw [wr_id (n := (x : Int)) (by omega) (by omega), if_neg (by omega)]
    rfl
  | succ m ih =>
    intro n x c hx hn
    obtain ⟨n, rfl⟩ : ∃ z, n = z + 1 := ⟨n - 1, by omega⟩
    have hx3 := h x (by omega)
    have em : Md_ruleAt x 0 τ = some (τ 1 (701 + 23 * x), τ) := md_ruleAt (r := x) (w := 0) (by omega) (by omega)
    show Md_dropRule_45b (Md_dropRule_45 n) c x τ = _
    unfold Md_dropRule_45b
    rw [wr_id (n := (x : Int)) (by omega) (by omega), if_pos (by omega), em, nbL_s]
    simp only [Option.bind_some]
    rw [wr_id (n := τ 1 (701 + 23 * x)) (by omega) (by omega)]
    by_cases q : 0 < τ 1 (701 + 23 * x)
    · rw [if_pos q, if_pos q, show (c : Int) + 1 = ((c + 1 : Nat) : Int) by omega, show (x : Int) + 1 = ((x + 1 : Nat) : Int) by omega, ih n (x + 1) (c + 1) (by omega) (by omega), show c + 1 + nbL (fun r => τ 1 (701 + 23 * r)) m (x + 1) = c + (1 + nbL (fun r => τ 1 (701 + 23 * r)) m (x + 1)) by omega]
    · rw [if_neg q, if_neg q, Int.add_zero, show (x : Int) + 1 = ((x + 1 : Nat) : Int) by omega, ih n (x + 1) c (by omega) (by omega), Nat.zero_add]
theorem ai_isRuleNumber {a : Int} (ha : RI a) : Ai_isRuleNumber a σ = some (if 0 ≤ a ∧ a ≤ 11 then 1 else 0, σ) := by
  unfold Ai_isRuleNumber
  rw [ai_wi ha (by omega) (by omega)]
  simp only [Option.bind_some]
  split
  · rw [if_pos (Or.inr rfl)]
  · rw [if_pos (Or.inl rfl)]
theorem t_dropRule (h : Inv σ τ) {a : Int} (ha : RI a) : Two (Ai_dropRule a σ) (Md_dropRule a τ) := by
  unfold Ai_dropRule Md_dropRule Two
  rw [ai_isRuleNumber ha, md_wi ha (by omega) (by omega)]
  simp only [Option.bind_some]
  by_cases q : 0 ≤ a ∧ a ≤ 11
  · obtain ⟨i, rfl⟩ : ∃ z : Nat, a = (z : Int) := ⟨a.toNat, by omega⟩
    have hr := h.ru (r := i) (by omega)
    have em : Md_ruleAt i 0 τ = some (τ 1 (701 + 23 * i), τ) := md_ruleAt (r := i) (w := 0) (by omega) (by omega)
    rw [if_pos q, wr_1, if_neg n10, if_neg n10, rul_hasR (by omega) hr.2.1, em, hr.1]
    simp only [Option.bind_some]
    have hb := hr.2.1
    rw [wr_id (n := σ 13 i) (by omega) (by omega)]
    by_cases q2 : 0 < σ 13 i
    · rw [if_pos q2, wr_1, if_neg n10, if_neg (show ¬ σ 13 i = 0 by omega)]
      obtain ⟨r1, σ1, e1, r2, τ1, e2, hI, h11, hF1, hF2⟩ := h.begin
      rw [e1, e2]
      simp only [Option.bind_some]
      rw [rs_12 (by omega) (by omega), if_pos (inb (by omega) (by omega) (by omega)), wrn (n := 701 + 23 * i) (by omega) (by omega)]
      simp only [Option.bind_some]
      rw [show ((i : Int)).toNat = i by omega]
      have hI2 : Inv (upM σ1 13 i 0) (upM τ1 1 (701 + 23 * i) 0) := by
        refine Inv_rule (r := i) hI h11 (by omega) (Fr.up Fr.rf (by unfold FRu; omega)) (Fr.up Fr.rf (by unfold FRm; omega)) ⟨by simp [upM], by simp [upM], fun z => absurd (by simp [upM]) z, fun z => absurd (by simp [upM]) z, fun z => ?_⟩
        simp [upM] at z
      have hs : ∀ r, r < 12 → 0 ≤ upM σ1 13 i 0 13 r ∧ upM σ1 13 i 0 13 r ≤ 3 := fun r hr => (hI2.ru hr).2.1
      have ht : ∀ r, r < 12 → 0 ≤ upM τ1 1 (701 + 23 * i) 0 1 (701 + 23 * r) ∧ upM τ1 1 (701 + 23 * i) 0 1 (701 + 23 * r) ≤ 3 := fun r hr => by rw [(hI2.ru hr).1]; exact (hI2.ru hr).2.1
      unfold Rul_size
      have eA : Rul_size_4 100000 0 0 (upM σ1 13 i 0) = some (((0 + nbL (upM σ1 13 i 0 13) 12 0 : Nat) : Int), upM σ1 13 i 0) := rul_size_4 hs 12 100000 0 0 (by omega) (by omega)
      have eB : Md_dropRule_45 100000 0 0 (upM τ1 1 (701 + 23 * i) 0) = some (((0 + nbL (fun r => upM τ1 1 (701 + 23 * i) 0 1 (701 + 23 * r)) 12 0 : Nat) : Int), upM τ1 1 (701 + 23 * i) 0) := md_dr_45 ht 12 100000 0 0 (by omega) (by omega)
      rw [eA]
      simp only [Option.bind_some]
      refine Ex.ret (Ex.lt (Ex.of eB ⟨?_, hI2⟩))
      rw [nbL_congr 12 0 (L' := upM σ1 13 i 0 13) (fun j h1 h2 => (hI2.ru (by omega)).1)]
    · rw [if_neg q2, wr_0, if_pos rfl, if_pos (show σ 13 i = 0 by omega)]
      exact Ex.ret (Ex.ret ⟨rfl, h⟩)
  · rw [if_neg q, wr_0, if_pos rfl, if_pos rfl]
    exact Ex.ret (Ex.ret ⟨rfl, h⟩)
end RU
