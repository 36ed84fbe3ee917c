/-! ===== the class follows the blocks ===== -/
def P0 (S : Mem) (T r : Nat) : Prop := S 5 r ≠ 0 ∧ hasT S r 0 T
def P1 (S : Mem) (T r : Nat) : Prop := S 5 r ≠ 0 ∧ hasT S r 1 T
def grt (S : Mem) (b : Int) : Int := if b = -1 then -1 else S 6 b.toNat
theorem rul_best_8 {S σ : Mem} (hS : SV S) (hA : absC σ 1 = S) (T : Nat) {sort : Int} (hs : 1 ≤ sort ∧ sort ≤ 3) : ∀ (m n r : Nat), r + m = 12 → m < n → Rul_best_8 n sort (mk (P0 S T) 12 : Nat) (brS S sort T r) (grt S (brS S sort T r)) r σ = some (brS S sort T 12, σ) := by
  intro m
  induction m with
  | zero =>
    intro n r hrm hn
    obtain ⟨n, rfl⟩ : ∃ z, n = z + 1 := ⟨n - 1, by omega⟩
    show Rul_best_8b (Rul_best_8 n) _ _ _ _ _ σ = _
    unfold Rul_best_8b
    rw [wr_id (n := (r : Int)) (by omega) (by omega), if_neg (by omega), show r = 12 by omega]
  | succ m ih =>
    intro n r hrm hn
    obtain ⟨n, rfl⟩ : ∃ z, n = z + 1 := ⟨n - 1, by omega⟩
    have hr : r < 12 := by omega
    have hso := hS.sort hr
    have hbr := brS_rng S sort T r
    have eso : σ 13 r = S 5 r := by rw [← hA, aC_sort hr]
    have nxt := ih n (r + 1) (by omega) (by omega)
    rw [show (((r + 1 : Nat)) : Int) = (r : Int) + 1 by omega] at nxt
    have h42 : brS S sort T (r + 1) = brS S sort T r → Rul_best_42 (Rul_best_8 n) sort (mk (P0 S T) 12 : Nat) (brS S sort T r) (grt S (brS S sort T r)) r 0 σ = some (brS S sort T 12, σ) := by
      intro e
      unfold Rul_best_42
      rw [wr_0, if_pos rfl]
      rw [e] at nxt
      exact nxt
    show Rul_best_8b (Rul_best_8 n) _ _ _ _ _ σ = _
    unfold Rul_best_8b
    rw [wr_id (n := (r : Int)) (by omega) (by omega), if_pos (by omega), mk_test hr]
    by_cases q : P0 S T r
    · rw [cif_pos q, if_neg (by decide), rg_12 (by omega) (by omega)]
      simp only [Option.bind_some]
      rw [show ((r : Int)).toNat = r by omega, eso, wr_id (n := S 5 r) (by omega) (by omega), wr_id (n := sort) (by omega) (by omega)]
      by_cases q1 : S 5 r = sort
      · have hp := hS.prec hr q.1
        have ep : σ 15 r = S 6 r := by have := aC_prec (σ := σ) hr (by rw [hA]; exact q.1); rw [hA] at this; exact this.symm
        rw [if_pos q1]
        unfold Rul_best_42
        rw [wr_1, if_neg (by decide), rg_14 (by omega) (by omega)]
        simp only [Option.bind_some]
        have hgr : -1 ≤ grt S (brS S sort T r) ∧ grt S (brS S sort T r) ≤ 9 := by
          unfold grt
          by_cases z : brS S sort T r = -1
          · rw [if_pos z]; omega
          · rw [if_neg z]
            have := hS.prec (r := (brS S sort T r).toNat) (by omega) (by omega)
            omega
        rw [show ((r : Int)).toNat = r by omega, ep, wr_id (n := S 6 r) (by omega) (by omega), wr_id (n := grt S (brS S sort T r)) (by omega) (by omega)]
        by_cases q2 : grt S (brS S sort T r) < S 6 r
        · have hz : brS S sort T r = -1 ∨ S 6 (brS S sort T r).toNat < S 6 r := by
            unfold grt at q2
            by_cases z : brS S sort T r = -1
            · exact Or.inl z
            · rw [if_neg z] at q2; exact Or.inr q2
          have e : brS S sort T (r + 1) = r := by
            unfold brS
            rw [cif_pos ⟨q1, q.2, hz⟩]
          rw [if_pos q2, rg_14 (by omega) (by omega)]
          simp only [Option.bind_some]
          rw [e] at nxt
          have e3 : grt S (r : Int) = S 6 r := by unfold grt; rw [if_neg (by omega), show ((r : Int)).toNat = r by omega]
          rw [e3] at nxt
          rw [show ((r : Int)).toNat = r by omega, ep]
          exact nxt
        · have e : brS S sort T (r + 1) = brS S sort T r := by
            conv => lhs; unfold brS
            rw [cif_neg]
            rintro ⟨-, -, z⟩
            unfold grt at q2
            by_cases y : brS S sort T r = -1
            · rw [if_pos y] at q2; omega
            · rw [if_neg y] at q2; exact z.elim y q2
          rw [if_neg q2]
          rw [e] at nxt
          exact nxt
      · rw [if_neg q1]
        exact h42 (by conv => lhs; unfold brS
                      rw [cif_neg (fun z => q1 z.1)])
    · rw [cif_neg q, if_pos rfl]
      exact h42 (by conv => lhs; unfold brS
                    rw [cif_neg (fun z => q ⟨by omega, z.2.1⟩)])
theorem rul_best {S σ : Mem} (hS : SV S) (hA : absC σ 1 = S) (T : Nat) {sort : Int} (hs : 1 ≤ sort ∧ sort ≤ 3) : Rul_best sort (mk (P0 S T) 12 : Nat) σ = some (brS S sort T 12, σ) :=
  rul_best_8 hS hA T hs 12 100000 0 (by omega) (by omega)
theorem blk_findRules_58 {S σ : Mem} (hS : SV S) (hA : absC σ 1 = S) (hc : CI σ 1) {T : Nat} (hTn : T < fsS S (nS S)) {qd : Int} (hq : (qd = 0 ∧ (tq S T).2.2.2 < 2) ∨ (qd = 1 ∧ (tq S T).2.2.2 = 2)) : ∀ (m n r : Nat), r + m = 12 → m < n →
    Blk_findRules_58 n T (tq S T).1 (tq S T).2.1 (tq S T).2.2.1 qd (mk (P0 S T) r : Nat) (mk (P1 S T) r : Nat) r σ = some (0, upM (upM σ 306 T (mk (P0 S T) 12 : Nat)) 308 T (mk (P1 S T) 12 : Nat)) := by
  have hN := hS.n
  have hfs := fsS_le hS (nS S) (Nat.le_refl _)
  intro m
  induction m with
  | zero =>
    intro n r hrm hn
    obtain ⟨n, rfl⟩ : ∃ z, n = z + 1 := ⟨n - 1, by omega⟩
    show Blk_findRules_58b (Blk_findRules_58 n) _ _ _ _ _ _ _ _ σ = _
    unfold Blk_findRules_58b
    rw [wr_id (n := (r : Int)) (by omega) (by omega), if_neg (by omega), rs_305 (by omega) (by omega)]
    simp only [Option.bind_some]
    rw [rs_307 (by omega) (by omega)]
    simp only [Option.bind_some]
    rw [show r = 12 by omega, show ((T : Int)).toNat = T by omega]
  | succ m ih =>
    intro n r hrm hn
    obtain ⟨n, rfl⟩ : ∃ z, n = z + 1 := ⟨n - 1, by omega⟩
    have hr : r < 12 := by omega
    have nxt := ih n (r + 1) (by omega) (by omega)
    rw [show (((r + 1 : Nat)) : Int) = (r : Int) + 1 by omega] at nxt
    show Blk_findRules_58b (Blk_findRules_58 n) _ _ _ _ _ _ _ _ σ = _
    unfold Blk_findRules_58b
    rw [wr_id (n := (r : Int)) (by omega) (by omega), if_pos (by omega)]
    rcases hq with ⟨rfl, hk⟩ | ⟨rfl, hk⟩
    · rw [wr_0, if_pos rfl, rul_has hS hA hr]
      simp only [Option.bind_some]
      by_cases q0 : S 5 r = 0
      · rw [if_pos q0, wr_0, if_pos rfl]
        rw [mk_nor (P := P0 S T) (fun z => z.1 q0), mk_nor (P := P1 S T) (fun z => z.1 q0)] at nxt
        exact nxt
      · have t0 := rul_hasText hS hA hc hTn hk (w := 0) hr (by omega) q0
        have t1 := rul_hasText hS hA hc hTn hk (w := 1) hr (by omega) q0
        have t0' : Rul_hasText r 0 (tq S T).1 (tq S T).2.1 (tq S T).2.2.1 σ = _ := t0
        have t1' : Rul_hasText r 1 (tq S T).1 (tq S T).2.1 (tq S T).2.2.1 σ = _ := t1
        have h117 : ∀ x8 : Int, x8 = (mk (P0 S T) (r + 1) : Nat) → Blk_findRules_117 (Blk_findRules_58 n) T (tq S T).1 (tq S T).2.1 (tq S T).2.2.1 0 x8 (mk (P1 S T) r : Nat) r σ = some (0, upM (upM σ 306 T (mk (P0 S T) 12 : Nat)) 308 T (mk (P1 S T) 12 : Nat)) := by
          intro x8 h8
          subst h8
          unfold Blk_findRules_117
          rw [t1']
          simp only [Option.bind_some]
          by_cases y : hasT S r 1 T
          · rw [cif_pos y, wr_1, if_neg (by decide), mk_or hr (show P1 S T r from ⟨q0, y⟩)]
            exact nxt
          · rw [cif_neg y, wr_0, if_pos rfl]
            rw [mk_nor (P := P1 S T) (fun z => y z.2)] at nxt
            exact nxt
        rw [if_neg q0, wr_1, if_neg (by decide), t0']
        simp only [Option.bind_some]
        by_cases y : hasT S r 0 T
        · rw [cif_pos y, wr_1, if_neg (by decide)]
          exact h117 _ (mk_or hr (show P0 S T r from ⟨q0, y⟩))
        · rw [cif_neg y, wr_0, if_pos rfl]
          exact h117 _ (by rw [mk_nor (P := P0 S T) (fun z => y z.2)])
    · rw [wr_1, if_neg (by decide)]
      rw [mk_nor (P := P0 S T) (fun z => by have := z.2.1; omega), mk_nor (P := P1 S T) (fun z => by have := z.2.1; omega)] at nxt
      exact nxt
theorem blk_findRules {S σ : Mem} (hS : SV S) (hA : absC σ 1 = S) (hc : CI σ 1) (hT : TkC S σ) {T : Nat} (hTn : T < fsS S (nS S)) : Blk_findRules T σ = some (0, upM (upM σ 306 T (mk (P0 S T) 12 : Nat)) 308 T (mk (P1 S T) 12 : Nat)) := by
  have hN := hS.n
  have hfs := fsS_le hS (nS S) (Nat.le_refl _)
  have ht := tk_arr hT hTn
  have hk := tq_ok hS hTn
  unfold Blk_findRules
  rw [rg_290 (by omega) (by omega)]
  simp only [Option.bind_some]
  rw [rg_292 (by omega) (by omega)]
  simp only [Option.bind_some]
  rw [rg_294 (by omega) (by omega)]
  simp only [Option.bind_some]
  rw [rg_296 (by omega) (by omega)]
  simp only [Option.bind_some]
  rw [show ((T : Int)).toNat = T by omega, ht.1, ht.2.1, ht.2.2.1, ht.2.2.2, wr_id (n := (tq S T).2.2.2) (by omega) (by omega)]
  by_cases q : (tq S T).2.2.2 = 2
  · rw [if_pos q]
    exact blk_findRules_58 hS hA hc hTn (Or.inr ⟨rfl, q⟩) 12 100000 0 (by omega) (by omega)
  · rw [if_neg q]
    exact blk_findRules_58 hS hA hc hTn (Or.inl ⟨rfl, by omega⟩) 12 100000 0 (by omega) (by omega)
/-- an abstract state knows a second text of pairs alone -/
def SN (S : Mem) : Prop := ∀ r, r < 12 → S 5 r ≠ 1 → S 10 (2 * r + 1) = 0
theorem SN_C (σ : Mem) : SN (absC σ 1) := by
  intro r hr h
  rw [aC_sort hr] at h
  simp only [absC, mkS]
  rw [if_neg]
  rintro ⟨-, -, z | z⟩
  · omega
  · rw [show (2 * r + 1) / 2 = r by omega] at z; exact h z
theorem P1_iff {S : Mem} (hS : SV S) (hn : SN S) {T r : Nat} (hTn : T < fsS S (nS S)) (hr : r < 12) : P1 S T r ↔ S 5 r = 1 ∧ hasT S r 1 T := by
  refine ⟨fun h => ⟨?_, h.2⟩, fun h => ⟨by omega, h.2⟩⟩
  by_cases q : S 5 r = 1
  · exact q
  · have h1 := hn r hr q
    have h2 := h.2.2.1
    have := tq_ok hS hTn
    omega
theorem P1_zero {S : Mem} (hS : SV S) (hn : SN S) {T : Nat} (hTn : T < fsS S (nS S)) : (mk (P1 S T) 12 = 0) = ¬ isCl S T 12 := by
  rw [mk_zero]
  simp only [eq_iff_iff]
  exact ⟨fun h ⟨r, h1, h2, h3⟩ => h ⟨r, h1, (P1_iff hS hn hTn h1).mpr ⟨h2, h3⟩⟩, fun h ⟨r, h1, h2⟩ => h ⟨r, h1, (P1_iff hS hn hTn h1).mp h2⟩⟩
theorem fnd_skip {S : Mem} {T : Nat} {op : Nat → Int} {st : List Nat} {m : Nat} : ∀ h, m ≤ h → (∀ j, m ≤ j → j < h → ¬ hasT S (op (st.getD j 0)).toNat 1 T) → fnd S T op st h = fnd S T op st m
  | 0, hm, _ => by rw [show m = 0 by omega]
  | h + 1, hm, hn => by
    by_cases e : m = h + 1
    · rw [e]
    · conv => lhs; unfold fnd
      rw [cif_neg (hn h (by omega) (by omega))]
      exact fnd_skip h (by omega) (fun j h1 h2 => hn j h1 (by omega))
def BC (U : Nat) (b : BSt) (σ : Mem) : Prop := σ 304 11 = b.1.length ∧ (∀ k, k < b.1.length → σ 326 k = (b.1.getD k 0 : Nat)) ∧ (∀ u, u < U → σ 310 u = b.2.1 u ∧ σ 312 u = b.2.2.1 u ∧ σ 314 u = b.2.2.2.1 u) ∧ σ 304 12 = b.2.2.2.2.1 ∧ σ 304 13 = b.2.2.2.2.2
section SH2
variable {S σ : Mem} {T : Nat} {b : BSt}
theorem stk_atC (hb : bOk S T b) (hB : BC T b σ) {k : Nat} (hk : k < b.1.length) : σ 326 k = (b.1.getD k 0 : Nat) ∧ b.1.getD k 0 < T ∧ σ 310 (b.1.getD k 0) = b.2.1 (b.1.getD k 0) ∧ 0 ≤ b.2.1 (b.1.getD k 0) ∧ b.2.1 (b.1.getD k 0) < 12 ∧ S 5 (b.2.1 (b.1.getD k 0)).toNat = 1 := by
  have hm := getD_mem hk
  obtain ⟨h1, h2⟩ := hb.2.1 _ hm
  have h3 := hb.2.2.1 (b.1.getD k 0)
  have h4 := (hB.2.2.1 (b.1.getD k 0) (by omega)).1
  refine ⟨hB.2.1 k hk, h1, h4, h2, by omega, ?_⟩
  rcases h3 with z | z
  · omega
  · exact z.2.2.1
theorem blk_level (hS : SV S) (hn : SN S) (hA : absC σ 1 = S) (hTn : T < fsS S (nS S)) (hb : bOk S T b) (hB : BC T b σ) : ∀ (m n : Nat) (x3 : Int), m ≤ b.1.length → m < n → (∀ j, m ≤ j → j < b.1.length → ¬ hasT S (b.2.1 (b.1.getD j 0)).toNat 1 T ∧ S 6 (b.2.1 (b.1.getD j 0)).toNat ≤ x3) → (x3 = -1 ∨ ∃ j, m ≤ j ∧ j < b.1.length ∧ x3 = S 6 (b.2.1 (b.1.getD j 0)).toNat) → -1 ≤ x3 → x3 ≤ 9 →
    Blk_levelThatCloses_10 n (mk (P1 S T) 12 : Nat) x3 ((m : Int) - 1) σ = some (cif (mayS S b.2.1 b.1 (fnd S T b.2.1 b.1 b.1.length)) (fnd S T b.2.1 b.1 b.1.length) (-1), σ) := by
  have hN := hS.n
  have hfs := fsS_le hS (nS S) (Nat.le_refl _)
  have h12 := hb.1
  intro m
  induction m with
  | zero =>
    intro n x3 hm hn2 hj he h1 h9
    obtain ⟨n, rfl⟩ : ∃ z, n = z + 1 := ⟨n - 1, by omega⟩
    have e := fnd_skip (S := S) (T := T) (op := b.2.1) (st := b.1) (m := 0) b.1.length (by omega) (fun j h1 h2 => (hj j h1 h2).1)
    have e0 : fnd S T b.2.1 b.1 b.1.length = -1 := e
    rw [cif_neg (fun z => by have := z.1; omega)]
    show Blk_levelThatCloses_10b (Blk_levelThatCloses_10 n) (mk (P1 S T) 12 : Nat) x3 (((0 : Nat) : Int) - 1) σ = _
    unfold Blk_levelThatCloses_10b
    rw [wr_id (by omega) (by omega), if_pos (by omega)]
  | succ m ih =>
    intro n x3 hm hn2 hj he h1 h9
    obtain ⟨n, rfl⟩ : ∃ z, n = z + 1 := ⟨n - 1, by omega⟩
    obtain ⟨a1, a2, a3, a4, a5, a6⟩ := stk_atC hb hB (k := m) (by omega)
    obtain ⟨r, hr⟩ : ∃ z : Nat, b.2.1 (b.1.getD m 0) = (z : Int) := ⟨(b.2.1 (b.1.getD m 0)).toNat, by omega⟩
    have hr12 : r < 12 := by omega
    rw [hr] at a3 a6
    rw [show ((r : Int)).toNat = r by omega] at a6
    have hp := hS.prec hr12 (by omega)
    have ep : σ 15 r = S 6 r := by have := aC_prec (σ := σ) hr12 (by rw [hA]; omega); rw [hA] at this; exact this.symm
    have hop : (b.2.1 (b.1.getD m 0)).toNat = r := by omega
    rw [show (((m + 1 : Nat)) : Int) - 1 = (m : Int) by omega]
    show Blk_levelThatCloses_10b (Blk_levelThatCloses_10 n) _ _ m σ = _
    unfold Blk_levelThatCloses_10b
    rw [wr_id (n := (m : Int)) (by omega) (by omega), if_neg (by omega), rg_325 (by omega) (by omega)]
    simp only [Option.bind_some]
    rw [show ((m : Int)).toNat = m by omega, a1, rg_309 (by omega) (by omega)]
    simp only [Option.bind_some]
    rw [show (((b.1.getD m 0 : Nat)) : Int).toNat = b.1.getD m 0 by omega, a3, mk_test hr12]
    by_cases q : P1 S T r
    · have hh := ((P1_iff hS hn hTn hr12).mp q).2
      rw [cif_pos q, if_neg (by decide), rg_14 (by omega) (by omega)]
      simp only [Option.bind_some]
      rw [show ((r : Int)).toNat = r by omega, ep, wr_id (n := x3) (by omega) (by omega), wr_id (n := S 6 r) (by omega) (by omega)]
      have e := fnd_skip (S := S) (T := T) (op := b.2.1) (st := b.1) (m := m + 1) b.1.length (by omega) (fun j h1 h2 => (hj j h1 h2).1)
      have e0 : fnd S T b.2.1 b.1 b.1.length = m := by
        rw [e]; unfold fnd; rw [cif_pos (by rw [hop]; exact hh)]
      rw [e0]
      by_cases q2 : x3 < S 6 r
      · rw [if_pos q2, cif_pos ⟨by omega, fun j h1 h2 => by
          rw [show ((m : Int)).toNat = m by omega, hop]
          have := (hj j (by omega) h2).2
          omega⟩]
      · rw [if_neg q2, cif_neg]
        intro z
        rcases he with y | ⟨j, h1, h2, h3⟩
        · omega
        · have := z.2 j (by omega) h2
          rw [show ((m : Int)).toNat = m by omega, hop] at this
          omega
    · have hh : ¬ hasT S r 1 T := fun z => q ((P1_iff hS hn hTn hr12).mpr ⟨a6, z⟩)
      rw [cif_neg q, if_pos rfl, rg_14 (by omega) (by omega)]
      simp only [Option.bind_some]
      rw [show ((r : Int)).toNat = r by omega, ep, mmaxI_eq (wr_id (by omega) (by omega)) (wr_id (by omega) (by omega)), show (m : Int) + -1 = (m : Int) - 1 by omega]
      refine ih n _ (by omega) (by omega) (fun j h1 h2 => ?_) ?_ (by split <;> omega) (by split <;> omega)
      · by_cases e : j = m
        · subst e; rw [hop]; exact ⟨hh, by split <;> omega⟩
        · have := hj j (by omega) h2
          exact ⟨this.1, by have := this.2; split <;> omega⟩
      · split
        · right; exact ⟨m, Nat.le_refl _, by omega, by rw [hop]⟩
        · rcases he with y | ⟨j, h1, h2, h3⟩
          · exact Or.inl y
          · right; exact ⟨j, by omega, h2, h3⟩
end SH2
