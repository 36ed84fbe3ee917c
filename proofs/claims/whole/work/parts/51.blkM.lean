/-! ===== the reference's rules and blocks ===== -/
def e9 (x : Int) : Int := if x = -1 then -9 else x
theorem aM_sort {τ : Mem} {r : Nat} (hr : r < 12) : absM τ 0 5 r = τ 1 (701 + 23 * r) := by rw [aM0]; simp [mkS, hr]
theorem aM_prec {τ : Mem} {r : Nat} (hr : r < 12) (h : absM τ 0 5 r ≠ 0) : absM τ 0 6 r = τ 1 (702 + 23 * r) := by
  rw [aM_sort hr] at h; rw [aM0]; simp [mkS, hr, h]
theorem aM_sp {τ : Mem} {r : Nat} (hr : r < 12) (h : absM τ 0 5 r ≠ 0) : absM τ 0 7 r = τ 1 (703 + 23 * r) := by
  rw [aM_sort hr] at h; rw [aM0]; simp [mkS, hr, h]
theorem aM_mode {τ : Mem} {r : Nat} (hr : r < 12) (h : absM τ 0 5 r = 1) : absM τ 0 8 r = τ 1 (704 + 23 * r) := by
  rw [aM_sort hr] at h; rw [aM0]; simp [mkS, hr, h]
theorem aM_clos {τ : Mem} {r : Nat} (hr : r < 12) (h : absM τ 0 5 r = 1) : absM τ 0 9 r = τ 1 (705 + 23 * r) := by
  rw [aM_sort hr] at h; rw [aM0]; simp [mkS, hr, h]
theorem aM_ts {τ : Mem} {r w : Nat} (hr : r < 12) (hw : w < 2) (h0 : absM τ 0 5 r ≠ 0) (h1 : w = 0 ∨ absM τ 0 5 r = 1) : absM τ 0 10 (2 * r + w) = τ 1 (701 + 23 * r + (5 + 9 * w)) := by
  rw [aM_sort hr] at h0 h1
  rw [aM0]
  simp only [mkS]
  have e1 : (2 * r + w) / 2 = r := by omega
  have e2 : (2 * r + w) % 2 = w := by omega
  rw [e1, e2, if_pos ⟨by omega, h0, h1⟩]
theorem aM_tb {τ : Mem} {r w k : Nat} (hr : r < 12) (hw : w < 2) (hk : k < 8) (h0 : absM τ 0 5 r ≠ 0) (h1 : w = 0 ∨ absM τ 0 5 r = 1) (h2 : (k : Int) < absM τ 0 10 (2 * r + w)) : absM τ 0 11 (16 * r + 8 * w + k) = τ 1 (701 + 23 * r + (5 + 9 * w) + 1 + k) := by
  rw [aM_ts hr hw h0 h1] at h2
  rw [aM_sort hr] at h0 h1
  rw [aM0]
  simp only [mkS]
  have e1 : (16 * r + 8 * w + k) / 16 = r := by omega
  have e2 : (16 * r + 8 * w + k) / 8 % 2 = w := by omega
  have e3 : (16 * r + 8 * w + k) % 8 = k := by omega
  have e4 : (16 * r + 8 * w + k) / 8 / 2 = r := by omega
  rw [e1, e2, e3, e4, if_pos ⟨by omega, h0, h1, h2⟩]
  congr 1
  omega
theorem md_ruleAt {τ : Mem} {r w : Nat} (hr : r < 12) (hw : w < 23) : Md_ruleAt r w τ = some (τ 1 (701 + 23 * r + w), τ) := by
  unfold Md_ruleAt
  rw [if_pos (inb (by omega) (by omega) (by omega)), wrn (n := 701 + 23 * r + w) (by omega) (by omega)]
theorem md_ra0 {τ : Mem} {r : Nat} (hr : r < 12) : Md_ruleAt r 0 τ = some (τ 1 (701 + 23 * r + 0), τ) := md_ruleAt (w := 0) hr (by omega)
theorem md_ra1 {τ : Mem} {r : Nat} (hr : r < 12) : Md_ruleAt r 1 τ = some (τ 1 (701 + 23 * r + 1), τ) := md_ruleAt (w := 1) hr (by omega)
theorem md_ra2 {τ : Mem} {r : Nat} (hr : r < 12) : Md_ruleAt r 2 τ = some (τ 1 (701 + 23 * r + 2), τ) := md_ruleAt (w := 2) hr (by omega)
theorem md_ra3 {τ : Mem} {r : Nat} (hr : r < 12) : Md_ruleAt r 3 τ = some (τ 1 (701 + 23 * r + 3), τ) := md_ruleAt (w := 3) hr (by omega)
theorem md_ra4 {τ : Mem} {r : Nat} (hr : r < 12) : Md_ruleAt r 4 τ = some (τ 1 (701 + 23 * r + 4), τ) := md_ruleAt (w := 4) hr (by omega)
abbrev TkM (S τ : Mem) : Prop := TkOK S (τ 4) (τ 5) (τ 6) (τ 7) (τ 11) (τ 12) (τ 0 12)
theorem gM_eq {S τ : Mem} (hA : absM τ 0 = S) (hS : SV S) {i : Nat} (hi : i < nS S) : gM τ i = gS S i := by
  subst hA
  exact gM_gS (by have := hS.n; rw [aM_n] at this; omega) (LnV_of hS hi).2.1
theorem md_hasText_48 {S τ : Mem} (hS : SV S) (hA : absM τ 0 = S) (hT : TkM S τ) {T : Nat} (hTn : T < fsS S (nS S)) {a L : Nat} (ha : a < 10000) (hL : τ 1 a = L) (hL8 : L ≤ 8) (hb : ∀ j, j < L → 0 ≤ τ 1 (a + 1 + j) ∧ τ 1 (a + 1 + j) ≤ 126) :
    ∀ (m n k : Nat), k + m = L → m < n → Md_hasText_48 n T a 1 k τ = some (cif (∀ j, k ≤ j → j < L → gS S (tq S T).1 ((tq S T).2.1 + (j : Int)) = τ 1 (a + 1 + j)) 1 0, τ) := by
  have hN := hS.n
  have ht := tk_arr hT hTn
  have hk := tq_ok hS hTn
  have hl := hS.len hk.1
  have hfs := fsS_le hS (nS S) (Nat.le_refl _)
  have hv : LnV τ (tq S T).1 := LnV_of (by rw [hA]; exact hS) (by rw [hA]; exact hk.1)
  have eg : gM τ (tq S T).1 = gS S (tq S T).1 := gM_eq hA hS hk.1
  intro m
  induction m with
  | zero =>
    intro n k hkm hn
    obtain ⟨n, rfl⟩ : ∃ z, n = z + 1 := ⟨n - 1, by omega⟩
    show Md_hasText_48b (Md_hasText_48 n) T a 1 k τ = _
    unfold Md_hasText_48b
    rw [if_pos (inb (by omega) (by omega) (by omega)), wrn (a := (a : Int)) rfl (by omega), hL, wr_id (n := (k : Int)) (by omega) (by omega), wr_id (n := (L : Int)) (by omega) (by omega), if_neg (by omega), if_pos (Or.inr rfl), cif_pos (fun j h1 h2 => by omega)]
  | succ m ih =>
    intro n k hkm hn
    obtain ⟨n, rfl⟩ : ∃ z, n = z + 1 := ⟨n - 1, by omega⟩
    have hbk := hb k (by omega)
    have hgr := gM_rng hv ((tq S T).2.1 + (k : Int))
    rw [eg] at hgr
    show Md_hasText_48b (Md_hasText_48 n) T a 1 k τ = _
    unfold Md_hasText_48b
    rw [if_pos (inb (by omega) (by omega) (by omega)), wrn (a := (a : Int)) rfl (by omega), hL, wr_id (n := (k : Int)) (by omega) (by omega), wr_id (n := (L : Int)) (by omega) (by omega), if_pos (by omega), wr_1, if_neg (by decide), if_pos (inb (by omega) (by omega) (by omega)), if_pos (inb (by omega) (by omega) (by omega)), wrn (a := (T : Int)) rfl (by omega), ht.1, ht.2.1, md_contentAt (by omega) hv (by omega) (by omega), eg]
    simp only [Option.bind_some]
    rw [if_pos (inb (by omega) (by omega) (by omega)), wrn (n := a + 1 + k) (by omega) (by omega), wr_id (n := gS S (tq S T).1 ((tq S T).2.1 + (k : Int))) (by omega) (by omega), wr_id (n := τ 1 (a + 1 + k)) (by omega) (by omega)]
    by_cases q : gS S (tq S T).1 ((tq S T).2.1 + (k : Int)) = τ 1 (a + 1 + k)
    · rw [if_pos q]
      have := ih n (k + 1) (by omega) (by omega)
      rw [show ((k : Int) + 1) = ((k + 1 : Nat) : Int) by omega, this]
      by_cases z : ∀ j, k + 1 ≤ j → j < L → gS S (tq S T).1 ((tq S T).2.1 + (j : Int)) = τ 1 (a + 1 + j)
      · rw [cif_pos z, cif_pos (fun j h1 h2 => by
          by_cases e : j = k
          · subst e; exact q
          · exact z j (by omega) h2)]
      · rw [cif_neg z, cif_neg (fun y => z (fun j h1 h2 => y j (by omega) h2))]
    · rw [if_neg q, cif_neg (fun y => q (y k (Nat.le_refl _) (by omega)))]
      obtain ⟨n2, rfl⟩ : ∃ z, n = z + 1 := ⟨n - 1, by omega⟩
      show Md_hasText_48b (Md_hasText_48 n2) T a 0 ((k : Int) + 1) τ = _
      unfold Md_hasText_48b
      rw [if_pos (inb (by omega) (by omega) (by omega)), wrn (a := (a : Int)) rfl (by omega), wr_0, if_pos rfl, if_pos (Or.inl rfl)]
      split <;> rfl
theorem md_hasText {S τ : Mem} (hS : SV S) (hA : absM τ 0 = S) (hT : TkM S τ) {T : Nat} (hTn : T < fsS S (nS S)) {r w : Nat} (hr : r < 12) (hw : w < 2) (h0 : S 5 r ≠ 0) (h1 : w = 0 ∨ S 5 r = 1) : Md_hasText T r (5 + 9 * (w : Int)) τ = some (cif (hasT S r w T) 1 0, τ) := by
  have hN := hS.n
  have ht := tk_arr hT hTn
  have hk := tq_ok hS hTn
  have hl := hS.len hk.1
  have hfs := fsS_le hS (nS S) (Nat.le_refl _)
  have hru := hS.2.2.2.2.2
  obtain ⟨s1, s2, s3, s4, s5⟩ := hru r hr
  have hSz : 1 ≤ S 10 (2 * r + w) ∧ S 10 (2 * r + w) ≤ 8 := by
    by_cases e : w = 0
    · subst e; exact (s3 h0).2.2
    · rw [show w = 1 by omega]; exact (s4 (h1.elim (fun z => absurd z e) id)).2.2.2
  have ets : S 10 (2 * r + w) = τ 1 (701 + 23 * r + (5 + 9 * w)) := by rw [← hA] at h0 h1 ⊢; exact aM_ts hr hw h0 h1
  have etb : ∀ k : Nat, (k : Int) < S 10 (2 * r + w) → S 11 (16 * r + 8 * w + k) = τ 1 (701 + 23 * r + (5 + 9 * w) + 1 + k) := by
    intro k hk2
    have hk8 : k < 8 := by omega
    rw [← hA] at h0 h1 hk2 ⊢; exact aM_tb hr hw hk8 h0 h1 hk2
  generalize ha : 701 + 23 * r + (5 + 9 * w) = a at ets etb
  have hLe : τ 1 a = ((S 10 (2 * r + w)).toNat : Int) := by omega
  have hb : ∀ j, j < (S 10 (2 * r + w)).toNat → 0 ≤ τ 1 (a + 1 + j) ∧ τ 1 (a + 1 + j) ≤ 126 := by
    intro j hj
    rw [← etb j (by omega)]
    have := s5 (8 * w + j) (by omega)
    rw [show 16 * r + (8 * w + j) = 16 * r + 8 * w + j by omega] at this
    exact this
  have zero : ∀ k : Nat, Md_hasText_48 100000 T a 0 k τ = some (0, τ) := by
    intro k
    show Md_hasText_48b (Md_hasText_48 99999) T a 0 k τ = _
    unfold Md_hasText_48b
    rw [if_pos (inb (by omega) (by omega) (by omega)), wr_0, if_pos rfl, if_pos (Or.inl rfl)]
    split <;> rfl
  have loop := md_hasText_48 hS hA hT hTn (a := a) (L := (S 10 (2 * r + w)).toNat) (by omega) hLe (by omega) hb (S 10 (2 * r + w)).toNat 100000 0 (by omega) (by omega)
  unfold Md_hasText
  rw [if_pos (inb (by omega) (by omega) (by omega)), wrn (a := (T : Int)) rfl (by omega), ht.2.2.2, ht.2.2.1, show ((701 + 23 * (r : Int)) + (5 + 9 * (w : Int))) = (a : Int) by omega]
  rw [wr_id (n := (tq S T).2.2.2) (by omega) (by omega)]
  by_cases q1 : (tq S T).2.2.2 < 2
  · rw [if_pos q1, if_pos (inb (by omega) (by omega) (by omega)), if_pos (inb (by omega) (by omega) (by omega)), wrn (a := (a : Int)) rfl (by omega), ← ets, wr_id (n := (tq S T).2.2.1) (by omega) (by omega), wr_id (n := S 10 (2 * r + w)) (by omega) (by omega)]
    by_cases q2 : (tq S T).2.2.1 = S 10 (2 * r + w)
    · rw [if_pos q2]
      have loop0 : Md_hasText_48 100000 T a 1 0 τ = _ := loop
      rw [loop0]
      by_cases z : ∀ j, 0 ≤ j → j < (S 10 (2 * r + w)).toNat → gS S (tq S T).1 ((tq S T).2.1 + (j : Int)) = τ 1 (a + 1 + j)
      · rw [cif_pos z, cif_pos ⟨q1, q2, fun k hk2 => by rw [etb k hk2]; exact z k (Nat.zero_le _) (by omega)⟩]
      · rw [cif_neg z, cif_neg (fun y => z (fun j _ hj => by rw [← etb j (by omega)]; exact y.2.2 j (by omega)))]
    · rw [if_neg q2, cif_neg (fun y => q2 y.2.1)]
      exact zero 0
  · rw [if_neg q1, cif_neg (fun y => q1 y.1)]
    exact zero 0
theorem SV.prec {S : Mem} (hS : SV S) {r : Nat} (hr : r < 12) (h : S 5 r ≠ 0) : 0 ≤ S 6 r ∧ S 6 r ≤ 9 := ((hS.2.2.2.2.2 r hr).2.2.1 h).1
theorem SV.sort {S : Mem} (hS : SV S) {r : Nat} (hr : r < 12) : 0 ≤ S 5 r ∧ S 5 r ≤ 3 := ⟨(hS.2.2.2.2.2 r hr).1, (hS.2.2.2.2.2 r hr).2.1⟩
theorem md_ruleFor_6 {S τ : Mem} (hS : SV S) (hA : absM τ 0 = S) (hT : TkM S τ) {T : Nat} (hTn : T < fsS S (nS S)) {sort : Int} (hs : 1 ≤ sort ∧ sort ≤ 3) : ∀ (m n r : Nat), r + m = 12 → m < n → Md_ruleFor_6 n T sort (e9 (brS S sort T r)) r τ = some (e9 (brS S sort T 12), τ) := by
  intro m
  induction m with
  | zero =>
    intro n r hrm hn
    obtain ⟨n, rfl⟩ : ∃ z, n = z + 1 := ⟨n - 1, by omega⟩
    show Md_ruleFor_6b (Md_ruleFor_6 n) T sort _ r τ = _
    unfold Md_ruleFor_6b
    rw [wr_id (n := (r : Int)) (by omega) (by omega), if_neg (by omega), show r = 12 by omega]
  | succ m ih =>
    intro n r hrm hn
    obtain ⟨n, rfl⟩ : ∃ z, n = z + 1 := ⟨n - 1, by omega⟩
    have hr : r < 12 := by omega
    have hso := hS.sort hr
    have hbr := brS_rng S sort T r
    have eso : τ 1 (701 + 23 * r + 0) = S 5 r := by rw [← hA, aM_sort hr]; rfl
    have nxt := ih n (r + 1) (by omega) (by omega)
    rw [show (((r + 1 : Nat)) : Int) = (r : Int) + 1 by omega] at nxt
    have h40n : ∀ y, y = 0 → (brS S sort T (r + 1) = brS S sort T r) → Md_ruleFor_40 (Md_ruleFor_6 n) T sort (e9 (brS S sort T r)) r y τ = some (e9 (brS S sort T 12), τ) := by
      intro y hy e
      subst hy
      unfold Md_ruleFor_40
      rw [wr_0, if_pos rfl, ← e]
      exact nxt
    show Md_ruleFor_6b (Md_ruleFor_6 n) T sort _ r τ = _
    unfold Md_ruleFor_6b
    rw [wr_id (n := (r : Int)) (by omega) (by omega), if_pos (by omega), md_ra0 hr, eso]
    simp only [Option.bind_some]
    rw [wr_id (n := S 5 r) (by omega) (by omega), wr_id (n := sort) (by omega) (by omega)]
    by_cases q1 : S 5 r = sort
    · have := md_hasText hS hA hT hTn hr (w := 0) (by omega) (by omega) (Or.inl rfl)
      rw [show (5 + 9 * ((0 : Nat) : Int)) = 5 from rfl] at this
      rw [if_pos q1, this]
      simp only [Option.bind_some]
      by_cases q2 : hasT S r 0 T
      · rw [cif_pos q2, wr_1, if_neg (by decide)]
        unfold Md_ruleFor_40
        rw [wr_1, if_neg (by decide)]
        by_cases q3 : brS S sort T r = -1
        · have e : brS S sort T (r + 1) = r := by unfold brS; rw [cif_pos ⟨q1, q2, Or.inl q3⟩]
          have e2 : e9 (brS S sort T r) = -9 := by unfold e9; rw [if_pos q3]
          rw [e2, show wr (-9) = -9 from by decide, if_pos rfl]
          rw [e] at nxt
          have e3 : e9 (r : Int) = r := by unfold e9; rw [if_neg (by omega)]
          rw [e3] at nxt
          exact nxt
        · have hb : 0 ≤ brS S sort T r ∧ brS S sort T r < r ∧ S 5 (brS S sort T r).toNat = sort := by omega
          have e2 : e9 (brS S sort T r) = brS S sort T r := by unfold e9; rw [if_neg q3]
          have ep1 : τ 1 (701 + 23 * r + 1) = S 6 r := by
            have := aM_prec (τ := τ) hr (by rw [hA]; omega)
            rw [hA] at this; rw [this]; congr 1; omega
          have ep2 : τ 1 (701 + 23 * (brS S sort T r).toNat + 1) = S 6 (brS S sort T r).toNat := by
            have := aM_prec (τ := τ) (r := (brS S sort T r).toNat) (by omega) (by rw [hA]; omega)
            rw [hA] at this; rw [this]; congr 1; omega
          have hp1 := hS.prec hr (by omega)
          have hp2 := hS.prec (r := (brS S sort T r).toNat) (by omega) (by omega)
          rw [e2, wr_id (n := brS S sort T r) (by omega) (by omega), if_neg (by omega), md_ra1 hr, ep1]
          simp only [Option.bind_some]
          rw [show brS S sort T r = (((brS S sort T r).toNat : Nat) : Int) by omega, md_ra1 (by omega), ep2]
          simp only [Option.bind_some]
          rw [wr_id (n := S 6 r) (by omega) (by omega), wr_id (n := S 6 (brS S sort T r).toNat) (by omega) (by omega)]
          by_cases q4 : S 6 (brS S sort T r).toNat < S 6 r
          · rw [if_pos q4]
            have e : brS S sort T (r + 1) = r := by unfold brS; rw [cif_pos ⟨q1, q2, Or.inr q4⟩]
            rw [e] at nxt
            have e3 : e9 (r : Int) = r := by unfold e9; rw [if_neg (by omega)]
            rw [e3] at nxt
            exact nxt
          · rw [if_neg q4]
            have e : brS S sort T (r + 1) = brS S sort T r := by
              conv => lhs; unfold brS
              rw [cif_neg (fun z => z.2.2.elim q3 q4)]
            rw [e, e2] at nxt
            rw [show (((brS S sort T r).toNat : Nat) : Int) = brS S sort T r by omega]
            exact nxt
      · rw [cif_neg q2, wr_0, if_pos rfl]
        exact h40n 0 rfl (by conv => lhs; unfold brS
                             rw [cif_neg (fun z => q2 z.2.1)])
    · rw [if_neg q1]
      exact h40n 0 rfl (by conv => lhs; unfold brS
                           rw [cif_neg (fun z => q1 z.1)])
theorem md_ruleFor {S τ : Mem} (hS : SV S) (hA : absM τ 0 = S) (hT : TkM S τ) {T : Nat} (hTn : T < fsS S (nS S)) {sort : Int} (hs : 1 ≤ sort ∧ sort ≤ 3) : Md_ruleFor T sort τ = some (e9 (brS S sort T 12), τ) :=
  md_ruleFor_6 hS hA hT hTn hs 12 100000 0 (by omega) (by omega)
theorem md_isClosingText_4 {S τ : Mem} (hS : SV S) (hA : absM τ 0 = S) (hT : TkM S τ) {T : Nat} (hTn : T < fsS S (nS S)) : ∀ (m n r : Nat), r + m = 12 → m < n → Md_isClosingText_4 n T (cif (isCl S T r) 1 0) r τ = some (cif (isCl S T 12) 1 0, τ) := by
  intro m
  induction m with
  | zero =>
    intro n r hrm hn
    obtain ⟨n, rfl⟩ : ∃ z, n = z + 1 := ⟨n - 1, by omega⟩
    show Md_isClosingText_4b (Md_isClosingText_4 n) T _ r τ = _
    unfold Md_isClosingText_4b
    rw [wr_id (n := (r : Int)) (by omega) (by omega), if_neg (by omega), show r = 12 by omega, if_pos]
    by_cases z : isCl S T 12
    · rw [cif_pos z]; exact Or.inr rfl
    · rw [cif_neg z]; exact Or.inl rfl
  | succ m ih =>
    intro n r hrm hn
    obtain ⟨n, rfl⟩ : ∃ z, n = z + 1 := ⟨n - 1, by omega⟩
    have hr : r < 12 := by omega
    have hso := hS.sort hr
    have eso : τ 1 (701 + 23 * r + 0) = S 5 r := by rw [← hA, aM_sort hr]; rfl
    have nxt := ih n (r + 1) (by omega) (by omega)
    rw [show (((r + 1 : Nat)) : Int) = (r : Int) + 1 by omega] at nxt
    show Md_isClosingText_4b (Md_isClosingText_4 n) T _ r τ = _
    unfold Md_isClosingText_4b
    rw [wr_id (n := (r : Int)) (by omega) (by omega), if_pos (by omega)]
    by_cases z : isCl S T r
    · have z2 : isCl S T (r + 1) := by obtain ⟨u, h1, h2⟩ := z; exact ⟨u, by omega, h2⟩
      rw [cif_pos z, wr_1, if_neg (by decide)]
      rw [cif_pos z2] at nxt
      exact nxt
    · rw [cif_neg z, wr_0, if_pos rfl, md_ra0 hr, eso]
      simp only [Option.bind_some]
      rw [wr_id (n := S 5 r) (by omega) (by omega)]
      by_cases q1 : S 5 r = 1
      · have := md_hasText hS hA hT hTn hr (w := 1) (by omega) (by omega) (Or.inr q1)
        rw [show (5 + 9 * ((1 : Nat) : Int)) = 14 from rfl] at this
        rw [if_pos q1, this]
        simp only [Option.bind_some]
        by_cases q2 : hasT S r 1 T
        · have z2 : isCl S T (r + 1) := ⟨r, by omega, q1, q2⟩
          rw [cif_pos q2, wr_1, if_neg (by decide)]
          rw [cif_pos z2] at nxt
          exact nxt
        · have z2 : ¬ isCl S T (r + 1) := by
            rintro ⟨u, h1, h2, h3⟩
            by_cases e : u = r
            · subst e; exact q2 h3
            · exact z ⟨u, by omega, h2, h3⟩
          rw [cif_neg q2, wr_0, if_pos rfl]
          rw [cif_neg z2] at nxt
          exact nxt
      · have z2 : ¬ isCl S T (r + 1) := by
          rintro ⟨u, h1, h2, h3⟩
          by_cases e : u = r
          · subst e; exact q1 h2
          · exact z ⟨u, by omega, h2, h3⟩
        rw [if_neg q1]
        rw [cif_neg z2] at nxt
        exact nxt
theorem md_isClosingText {S τ : Mem} (hS : SV S) (hA : absM τ 0 = S) (hT : TkM S τ) {T : Nat} (hTn : T < fsS S (nS S)) : Md_isClosingText T τ = some (cif (isCl S T 12) 1 0, τ) := by
  have := md_isClosingText_4 hS hA hT hTn 12 100000 0 (by omega) (by omega)
  rw [cif_neg (fun z => by obtain ⟨u, h, _⟩ := z; omega)] at this
  exact this
