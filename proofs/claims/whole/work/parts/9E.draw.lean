/-! ===== lines are drawn: the class's pieces and the reference's ===== -/
section DW
variable {σ τ : Mem}
theorem pc_1 : ∀ k : Nat, k < 16 → pEs.getD (k + 1) 0 = pEs.getD k 0 + (sLn.getD k 0 : Nat) ∧ 0 ≤ pEs.getD k 0 ∧ pEs.getD (k + 1) 0 ≤ 37 ∧ 1 ≤ sLn.getD k 0 ∧ sLn.getD k 0 ≤ 5 := by decide +kernel
theorem pc_2 : ∀ k : Nat, k < 16 → ∀ j : Nat, j < sLn.getD k 0 → pCs.getD ((pEs.getD k 0).toNat + j) 0 = sbI k j ∧ 33 ≤ sbI k j ∧ sbI k j ≤ 126 := by decide +kernel
theorem sl_k (k : Nat) : slI k = ((sLn.getD k 0 : Nat) : Int) := rfl
theorem and_lo (a : Int) : ∃ v : Nat, andI a 32767 = (v : Int) ∧ v ≤ 32767 := by
  have e : (I3 a &&& I3 32767).toInt = (((I3 a).toBitVec &&& 32767#32).toNat : Int) := by
    show ((I3 a &&& I3 32767).toBitVec).toInt = _
    rw [Int32.toBitVec_and, show (I3 32767).toBitVec = 32767#32 from rfl, BitVec.toInt_eq_toNat_of_msb]
    rw [BitVec.msb_and, show (32767#32).msb = false from by decide, Bool.and_false]
  refine ⟨_, e, ?_⟩
  rw [BitVec.toNat_and]
  exact Nat.and_le_right
theorem tm_n {v c : Nat} (hv : v ≤ 32767) (hc : 0 < c) (hc2 : c ≤ 100) : (wr (v : Int)).tmod (wr (c : Int)) = ((v % c : Nat) : Int) := by
  rw [wr_id (n := (v : Int)) (by omega) (by omega), wr_id (n := (c : Int)) (by omega) (by omega), Int.tmod_eq_emod_of_nonneg (by omega)]
  omega
theorem dl_111 {r66 : Int → Int → Int → Int → Mem → Option (Int × Mem)} {i k : Nat} {x3 x4 x5 : Int} (hi : i < 20) (hk : k < 16) : ∀ (m n j L : Nat) (σ : Mem), j + m = sLn.getD k 0 → m < n → σ 6 i = L → L + m ≤ 32 → ∃ σ', Ai_drawLine_111 r66 n i x3 x4 x5 k j σ = r66 i x3 x4 (x5 + 1) σ' ∧ Fr (FAp i L) σ σ' ∧ σ' 6 i = ((L + m : Nat) : Int) ∧ ∀ z, z < m → σ' 10 (32 * i + (L + z)) = sbI k (j + z) := by
  have hk1 := pc_1 k hk
  intro m
  induction m with
  | zero =>
    intro n j L σ hj hn hL hL2
    obtain ⟨n, rfl⟩ : ∃ z, n = z + 1 := ⟨n - 1, by omega⟩
    refine ⟨σ, ?_, Fr.rf, hL, fun z hz => by omega⟩
    show Ai_drawLine_111b r66 (Ai_drawLine_111 r66 n) i x3 x4 x5 k j σ = _
    unfold Ai_drawLine_111b
    rw [if_pos hk, bnd_s, sl_k]
    show (if wr (j : Int) < wr ((sLn.getD k 0 : Nat) : Int) then _ else _) = _
    rw [wr_id (n := (j : Int)) (by omega) (by omega), wr_id (n := ((sLn.getD k 0 : Nat) : Int)) (by omega) (by omega), if_neg (by omega)]
  | succ m ih =>
    intro n j L σ hj hn hL hL2
    obtain ⟨n, rfl⟩ : ∃ z, n = z + 1 := ⟨n - 1, by omega⟩
    obtain ⟨σ', e, f, s6, b⟩ := ih n (j + 1) (L + 1) (upM (upM σ 10 (32 * i + L) (sbI k j)) 6 i ((L + 1 : Nat) : Int)) (by omega) (by omega) (by simp [upM]) (by omega)
    refine ⟨σ', ?_, ?_, by rw [s6]; omega, fun z hz => ?_⟩
    · show Ai_drawLine_111b r66 (Ai_drawLine_111 r66 n) i x3 x4 x5 k j σ = _
      unfold Ai_drawLine_111b
      rw [if_pos hk, bnd_s, sl_k]
      show (if wr (j : Int) < wr ((sLn.getD k 0 : Nat) : Int) then _ else _) = _
      rw [wr_id (n := (j : Int)) (by omega) (by omega), wr_id (n := ((sLn.getD k 0 : Nat) : Int)) (by omega) (by omega), if_pos (by omega), if_pos (by omega), bnd_s]
      show (Lin_append i (sbI k ((j : Int)).toNat) σ).bind _ = _
      rw [show ((j : Int)).toNat = j by omega, lin_append hi hL (by omega), bnd_s]
      rw [show (((j + 1 : Nat)) : Int) = (j : Int) + 1 by omega] at e
      exact e
    · intro o z q
      unfold FAp at q
      rw [f o z (by unfold FAp; omega)]
      simp only [upM]
      rw [if_neg (by omega), if_neg (by omega)]
    · by_cases hz0 : z = 0
      · subst hz0
        rw [f 10 (32 * i + (L + 0)) (by unfold FAp; omega)]
        simp [upM]
      · have := b (z - 1) (by omega)
        rw [show 32 * i + (L + 1 + (z - 1)) = 32 * i + (L + z) by omega, show j + 1 + (z - 1) = j + z by omega] at this
        exact this
def FBy (i L o z : Nat) : Prop := o = 1 ∧ 61 + 32 * i + L ≤ z ∧ z < 93 + 32 * i
theorem InvP_fr {τ' : Mem} {F : Nat → Nat → Prop} (h : InvP τ) (hF : Fr F τ τ') (h1 : ∀ o k, F o k → o ≠ 19 ∧ o ≠ 20) : InvP τ' := ⟨fun k hk => by rw [hF 19 k (fun z => (h1 _ _ z).1 rfl)]; exact h.1 k hk, fun k hk => by rw [hF 20 k (fun z => (h1 _ _ z).2 rfl)]; exact h.2 k hk⟩
theorem dm_104 {r56 : Int → Int → Int → Int → Mem → Option (Int × Mem)} {i k : Nat} {x2 x4 : Int} (hi : i < 20) (hk : k < 16) : ∀ (m n j L : Nat) (τ : Mem), InvP τ → j + m = sLn.getD k 0 → m < n → L + m ≤ 32 → ∃ τ', Md_drawsLine_104 r56 n i x2 L x4 k (pEs.getD k 0 + (j : Int)) τ = r56 i x2 ((L + m : Nat) : Int) (x4 + 1) τ' ∧ Fr (FBy i L) τ τ' ∧ ∀ z, z < m → τ' 1 (61 + (32 * i + (L + z))) = sbI k (j + z) := by
  obtain ⟨k1, k2, k3, k4, k5⟩ := pc_1 k hk
  intro m
  induction m with
  | zero =>
    intro n j L τ hP hj hn hL2
    obtain ⟨n, rfl⟩ : ∃ z, n = z + 1 := ⟨n - 1, by omega⟩
    refine ⟨τ, ?_, Fr.rf, fun z hz => by omega⟩
    show Md_drawsLine_104b r56 (Md_drawsLine_104 r56 n) i x2 L x4 k (pEs.getD k 0 + (j : Int)) τ = _
    unfold Md_drawsLine_104b
    rw [if_pos (inb (by omega) (by omega) (by omega)), wrn (n := k + 1) (by omega) (by omega), hP.1 (k + 1) (by omega), k1, wr_id (n := pEs.getD k 0 + (j : Int)) (by omega) (by omega), wr_id (n := pEs.getD k 0 + ((sLn.getD k 0 : Nat) : Int)) (by omega) (by omega), if_neg (by omega)]
    rfl
  | succ m ih =>
    intro n j L τ hP hj hn hL2
    obtain ⟨n, rfl⟩ : ∃ z, n = z + 1 := ⟨n - 1, by omega⟩
    have F1 : Fr (FBy i L) τ (upM τ 1 (61 + (32 * i + L)) (sbI k j)) := Fr.up Fr.rf (by unfold FBy; omega)
    obtain ⟨τ', e, f, b⟩ := ih n (j + 1) (L + 1) (upM τ 1 (61 + (32 * i + L)) (sbI k j)) (InvP_fr hP F1 (fun o z q => by unfold FBy at q; omega)) (by omega) (by omega) (by omega)
    refine ⟨τ', ?_, F1.tr (f.mono (fun o z q => by unfold FBy at q ⊢; omega)), fun z hz => ?_⟩
    · show Md_drawsLine_104b r56 (Md_drawsLine_104 r56 n) i x2 L x4 k (pEs.getD k 0 + (j : Int)) τ = _
      unfold Md_drawsLine_104b
      have hc := (pc_2 k hk j (by omega)).1
      rw [if_pos (inb (by omega) (by omega) (by omega)), wrn (n := k + 1) (by omega) (by omega), hP.1 (k + 1) (by omega), k1, wr_id (n := pEs.getD k 0 + (j : Int)) (by omega) (by omega), wr_id (n := pEs.getD k 0 + ((sLn.getD k 0 : Nat) : Int)) (by omega) (by omega), if_pos (by omega), if_pos (by omega), if_pos (inb (by omega) (by omega) (by omega)), wrn (n := 61 + (32 * i + L)) (by omega) (by omega), show (pEs.getD k 0 + (j : Int)).toNat = (pEs.getD k 0).toNat + j by omega, hP.2 _ (by omega), hc]
      rw [show (((j + 1 : Nat)) : Int) = (j : Int) + 1 by omega, show (((L + 1 : Nat)) : Int) = (L : Int) + 1 by omega, show L + 1 + m = L + (m + 1) by omega, ← Int.add_assoc] at e
      exact e
    · by_cases hz0 : z = 0
      · subst hz0
        rw [f 1 (61 + (32 * i + (L + 0))) (by unfold FBy; omega)]
        simp [upM]
      · have := b (z - 1) (by omega)
        rw [show 61 + (32 * i + (L + 1 + (z - 1))) = 61 + (32 * i + (L + z)) by omega, show j + 1 + (z - 1) = j + z by omega] at this
        exact this
/-- the line i while it is drawn: L bytes of it, alike in both -/
def LR0 (σ τ : Mem) (i L : Nat) : Prop := σ 6 i = L ∧ (∀ z, z < L → τ 1 (61 + (32 * i + z)) = σ 10 (32 * i + z) ∧ 32 ≤ σ 10 (32 * i + z) ∧ σ 10 (32 * i + z) ≤ 126) ∧ (0 < L → σ 10 (32 * i + 0) ≠ 32)
def LRe (σ : Mem) (i L : Nat) : Prop := 0 < L → σ 10 (32 * i + (L - 1)) ≠ 32
/-- one piece -/
theorem dr_piece {r66 r56 : Int → Int → Int → Int → Mem → Option (Int × Mem)} {i k L : Nat} {x3 x4 x5 y2 y4 : Int} (hi : i < 20) (hk : k < 16) (hL : L + 5 ≤ 32) (h : LR0 σ τ i L) (hP : InvP τ) : ∃ σ' τ', Ai_drawLine_111 r66 100000 i x3 x4 x5 k 0 σ = r66 i x3 x4 (x5 + 1) σ' ∧ Md_drawsLine_104 r56 100000 i y2 L y4 k (τ 19 k) τ = r56 i y2 ((L + sLn.getD k 0 : Nat) : Int) (y4 + 1) τ' ∧ LR0 σ' τ' i (L + sLn.getD k 0) ∧ LRe σ' i (L + sLn.getD k 0) ∧ Fr (FAp i 0) σ σ' ∧ Fr (FBy i 0) τ τ' := by
  obtain ⟨k1, k2, k3, k4, k5⟩ := pc_1 k hk
  obtain ⟨h1, h2, h3⟩ := h
  obtain ⟨σ', e1, f1, s6, b1⟩ := dl_111 (r66 := r66) (x3 := x3) (x4 := x4) (x5 := x5) hi hk (sLn.getD k 0) 100000 0 L σ (by omega) (by omega) h1 (by omega)
  obtain ⟨τ', e2, f2, b2⟩ := dm_104 (r56 := r56) (x2 := y2) (x4 := y4) hi hk (sLn.getD k 0) 100000 0 L τ hP (by omega) (by omega) (by omega)
  have k10 : ∀ z, z < L → σ' 10 (32 * i + z) = σ 10 (32 * i + z) := fun z hz => f1 10 _ (by unfold FAp; omega)
  have k61 : ∀ z, z < L → τ' 1 (61 + (32 * i + z)) = τ 1 (61 + (32 * i + z)) := fun z hz => f2 1 _ (by unfold FBy; omega)
  refine ⟨σ', τ', e1, ?_, ⟨s6, fun z hz => ?_, fun _ => ?_⟩, fun _ => ?_, f1.mono (fun o z q => by unfold FAp at q ⊢; omega), f2.mono (fun o z q => by unfold FBy at q ⊢; omega)⟩
  · rw [hP.1 k (by omega)]
    rw [show pEs.getD k 0 + ((0 : Nat) : Int) = pEs.getD k 0 by omega] at e2
    exact e2
  · by_cases q : z < L
    · rw [k10 z q, k61 z q]; exact h2 z q
    · have c1 := b1 (z - L) (by omega)
      have c2 := b2 (z - L) (by omega)
      rw [show L + (z - L) = z by omega] at c1 c2
      have c3 := pc_2 k hk (0 + (z - L)) (by omega)
      rw [c1, c2]
      exact ⟨rfl, by omega, by omega⟩
  · by_cases q : 0 < L
    · rw [k10 0 q]; exact h3 q
    · have c1 := b1 0 (by omega)
      have c3 := pc_2 k hk (0 + 0) (by omega)
      rw [show L + 0 = 0 by omega] at c1
      rw [c1]; omega
  · have c1 := b1 (sLn.getD k 0 - 1) (by omega)
    have c3 := pc_2 k hk (0 + (sLn.getD k 0 - 1)) (by omega)
    rw [show L + (sLn.getD k 0 - 1) = L + sLn.getD k 0 - 1 by omega] at c1
    rw [c1]; omega
def FDm (i o z : Nat) : Prop := (o = 0 ∧ z = 37) ∨ (o = 1 ∧ (z = 21 + i ∨ (61 + 32 * i ≤ z ∧ z < 93 + 32 * i)))
def nxS (x : Int) : Int := x * 1103515245 + 12345
theorem ai_91 {r66 : Int → Int → Int → Int → Mem → Option (Int × Mem)} {x2 x4 x5 : Int} {x : Int} {v : Nat} (hv : andI (ushrI (nxS x) 16) 32767 = (v : Int)) (hv2 : v ≤ 32767) : Ai_drawLine_91 r66 x2 x x4 x5 σ = Ai_drawLine_111 r66 100000 x2 (nxS x) x4 x5 (v % 16) 0 σ := by
  unfold Ai_drawLine_91 Ai_nextSeed
  rw [bnd_s]
  show (Ai_drawnNumber (nxS x) σ).bind _ = _
  unfold Ai_drawnNumber
  rw [bnd_s]
  show (if 0 ≤ wr ((wr (andI (ushrI (nxS x) 16) 32767)).tmod (wr 16)) ∧ wr ((wr (andI (ushrI (nxS x) 16) 32767)).tmod (wr 16)) < 16 then Ai_drawLine_111 r66 100000 x2 (nxS x) x4 x5 (wr ((wr (andI (ushrI (nxS x) 16) 32767)).tmod (wr 16))).toNat 0 σ else none) = _
  have e : (wr (v : Int)).tmod (wr 16) = ((v % 16 : Nat) : Int) := tm_n (c := 16) hv2 (by omega) (by omega)
  rw [hv, e, if_pos (inb (by omega) (by omega) (by omega)), wrn (n := v % 16) rfl (by omega)]
theorem md_draws : Md_draws τ = some (andI (ushrI (nxS (τ 0 37)) 16) 32767, upM τ 0 37 (nxS (τ 0 37))) := by
  unfold Md_draws letM
  dsimp only
  have : upM τ 0 37 (τ 0 37 * 1103515245 + 12345) 0 37 = nxS (τ 0 37) := by simp [upM, nxS]
  rw [this]
  rfl
theorem dr_66 {i P : Nat} (hi : i < 20) (hP3 : P ≤ 3) : ∀ (m n p L : Nat) (σ τ : Mem), p + m = P → m < n → LR0 σ τ i L → LRe σ i L → (p = 0 → L = 0) → (0 < p → 0 < L ∧ L + 1 ≤ 6 * p) → InvP τ → ∃ (x' : Int) (σ' τ' : Mem) (L' : Nat), Ai_drawLine_66 n i (τ 0 37) P p σ = some (x', σ') ∧ Md_drawsLine_56 n i P L p τ = some (0, τ') ∧ τ' 0 37 = x' ∧ LR0 σ' τ' i L' ∧ LRe σ' i L' ∧ (0 < P → 0 < L') ∧ L' ≤ 32 ∧ τ' 1 (21 + i) = L' ∧ Fr (FAp i 0) σ σ' ∧ Fr (FDm i) τ τ' := by
  intro m
  induction m with
  | zero =>
    intro n p L σ τ hp hn h hE h0 h1 hP
    obtain ⟨n, rfl⟩ : ∃ z, n = z + 1 := ⟨n - 1, by omega⟩
    obtain ⟨a1, a2, a3⟩ := h
    refine ⟨τ 0 37, σ, upM τ 1 (21 + i) L, L, ?_, ?_, by simp [upM], ⟨a1, fun z hz => ?_, a3⟩, hE, fun z => (h1 (by omega)).1, by by_cases q : 0 < p <;> omega, by simp [upM], Fr.rf, Fr.up Fr.rf (by unfold FDm; omega)⟩
    · show Ai_drawLine_66b (Ai_drawLine_66 n) i (τ 0 37) P p σ = _
      unfold Ai_drawLine_66b
      rw [wr_id (n := (p : Int)) (by omega) (by omega), wr_id (n := (P : Int)) (by omega) (by omega), if_neg (by omega)]
    · show Md_drawsLine_56b (Md_drawsLine_56 n) i P L p τ = _
      unfold Md_drawsLine_56b
      rw [wr_id (n := (p : Int)) (by omega) (by omega), wr_id (n := (P : Int)) (by omega) (by omega), if_neg (by omega), if_pos (inb (by omega) (by omega) (by omega)), wrn (n := 21 + i) (by omega) (by omega)]
      rfl
    · have : upM τ 1 (21 + i) L 1 (61 + (32 * i + z)) = τ 1 (61 + (32 * i + z)) := by
        simp only [upM]
        rw [if_neg (by omega)]
      rw [this]; exact a2 z hz
  | succ m ih =>
    intro n p L σ τ hp hn h hE h0 h1 hP
    obtain ⟨n, rfl⟩ : ∃ z, n = z + 1 := ⟨n - 1, by omega⟩
    obtain ⟨a1, a2, a3⟩ := h
    obtain ⟨v, hv, hv2⟩ := and_lo (ushrI (nxS (τ 0 37)) 16)
    have e16 : (wr (v : Int)).tmod (wr 16) = ((v % 16 : Nat) : Int) := tm_n (c := 16) hv2 (by omega) (by omega)
    have hk : v % 16 < 16 := Nat.mod_lt _ (by omega)
    obtain ⟨k1, k2, k3, k4, k5⟩ := pc_1 (v % 16) hk
    have cE : Ai_drawLine_66 (n + 1) i (τ 0 37) P p σ = if 0 < (p : Int) then ((Lin_append i 32 σ).bind fun q2 => Ai_drawLine_91 (Ai_drawLine_66 n) i (τ 0 37) P p q2.2) else Ai_drawLine_91 (Ai_drawLine_66 n) i (τ 0 37) P p σ := by
      show Ai_drawLine_66b (Ai_drawLine_66 n) i (τ 0 37) P p σ = _
      unfold Ai_drawLine_66b
      rw [wr_id (n := (p : Int)) (by omega) (by omega), wr_id (n := (P : Int)) (by omega) (by omega), if_pos (by omega)]
    have F37 : Fr (FDm i) τ (upM τ 0 37 (nxS (τ 0 37))) := Fr.up Fr.rf (by unfold FDm; omega)
    by_cases q : 0 < p
    · have hL := h1 q
      have F2 : Fr (FDm i) τ (upM (upM τ 0 37 (nxS (τ 0 37))) 1 (61 + (32 * i + L)) 32) := Fr.up F37 (by unfold FDm; omega)
      have hLR : LR0 (upM (upM σ 10 (32 * i + L) 32) 6 i ((L + 1 : Nat) : Int)) (upM (upM τ 0 37 (nxS (τ 0 37))) 1 (61 + (32 * i + L)) 32) i (L + 1) := by
        refine ⟨by simp [upM], fun z hz => ?_, fun _ => ?_⟩
        · by_cases e : z = L
          · subst e; simp [upM]
          · have : upM (upM σ 10 (32 * i + L) 32) 6 i ((L + 1 : Nat) : Int) 10 (32 * i + z) = σ 10 (32 * i + z) := by
              simp only [upM]
              rw [if_neg (by omega), if_neg (by omega)]
            have t2 : upM (upM τ 0 37 (nxS (τ 0 37))) 1 (61 + (32 * i + L)) 32 1 (61 + (32 * i + z)) = τ 1 (61 + (32 * i + z)) := by
              simp only [upM]
              rw [if_neg (by omega), if_neg (by omega)]
            rw [this, t2]; exact a2 z (by omega)
        · have : upM (upM σ 10 (32 * i + L) 32) 6 i ((L + 1 : Nat) : Int) 10 (32 * i + 0) = σ 10 (32 * i + 0) := by
            simp only [upM]
            rw [if_neg (by omega), if_neg (by omega)]
          rw [this]; exact a3 hL.1
      have hP2 := InvP_fr hP F2 (fun o z w => by unfold FDm at w; omega)
      obtain ⟨σ2, τ2, e1, e2, hLR2, hE2, f1, f2⟩ := dr_piece (r66 := Ai_drawLine_66 n) (r56 := Md_drawsLine_56 n) (x3 := nxS (τ 0 37)) (x4 := P) (x5 := p) (y2 := P) (y4 := p) hi hk (L := L + 1) (by omega) hLR hP2
      have t37 : τ2 0 37 = nxS (τ 0 37) := by rw [f2 0 37 (by unfold FBy; omega)]; simp [upM]
      have hP3' := InvP_fr hP2 f2 (fun o z w => by unfold FBy at w; omega)
      obtain ⟨x', σ', τ', L', g1, g2, g3, g4, g5, g6, g7, g8, g9, g10⟩ := ih n (p + 1) (L + 1 + sLn.getD (v % 16) 0) σ2 τ2 (by omega) (by omega) hLR2 hE2 (by omega) (fun _ => ⟨by omega, by omega⟩) hP3'
      refine ⟨x', σ', τ', L', ?_, ?_, g3, g4, g5, g6, g7, g8, ?_, (F2.tr (f2.mono (fun o z w => by unfold FBy at w; unfold FDm; omega))).tr g10⟩
      · rw [cE, if_pos (by omega), lin_append hi a1 (by omega), bnd_s]
        show Ai_drawLine_91 (Ai_drawLine_66 n) i (τ 0 37) P p (upM (upM σ 10 (32 * i + L) 32) 6 i ((L + 1 : Nat) : Int)) = _
        rw [ai_91 hv hv2, e1, ← g1, t37]
        rfl
      · show Md_drawsLine_56b (Md_drawsLine_56 n) i P L p τ = _
        unfold Md_drawsLine_56b
        rw [wr_id (n := (p : Int)) (by omega) (by omega), wr_id (n := (P : Int)) (by omega) (by omega), if_pos (by omega), md_draws, bnd_s]
        rw [if_pos (by omega), if_pos (inb (by omega) (by omega) (by omega)), wrn (n := 61 + (32 * i + L)) (by omega) (by omega)]
        unfold letM
        dsimp only
        rw [hv, e16, if_pos (inb (by omega) (by omega) (by omega)), wrn (n := v % 16) rfl (by omega)]
        rw [show (((L + 1 : Nat)) : Int) = (L : Int) + 1 by omega] at e2
        rw [e2, ← g2]
        rfl
      · refine Fr.tr ?_ (f1.tr g9)
        exact Fr.up (Fr.up Fr.rf (by unfold FAp; omega)) (by unfold FAp; omega)
    · have p0 : p = 0 := by omega
      have L0 : L = 0 := h0 p0
      subst L0
      have hLR : LR0 σ (upM τ 0 37 (nxS (τ 0 37))) i 0 := ⟨a1, fun z hz => by omega, fun z => by omega⟩
      have hP2 := InvP_fr hP F37 (fun o z w => by unfold FDm at w; omega)
      obtain ⟨σ2, τ2, e1, e2, hLR2, hE2, f1, f2⟩ := dr_piece (r66 := Ai_drawLine_66 n) (r56 := Md_drawsLine_56 n) (x3 := nxS (τ 0 37)) (x4 := P) (x5 := p) (y2 := P) (y4 := p) hi hk (L := 0) (by omega) hLR hP2
      have t37 : τ2 0 37 = nxS (τ 0 37) := by rw [f2 0 37 (by unfold FBy; omega)]; simp [upM]
      have hP3' := InvP_fr hP2 f2 (fun o z w => by unfold FBy at w; omega)
      obtain ⟨x', σ', τ', L', g1, g2, g3, g4, g5, g6, g7, g8, g9, g10⟩ := ih n (p + 1) (0 + sLn.getD (v % 16) 0) σ2 τ2 (by omega) (by omega) hLR2 hE2 (by omega) (fun _ => ⟨by omega, by omega⟩) hP3'
      refine ⟨x', σ', τ', L', ?_, ?_, g3, g4, g5, g6, g7, g8, f1.tr g9, (F37.tr (f2.mono (fun o z w => by unfold FBy at w; unfold FDm; omega))).tr g10⟩
      · rw [cE, if_neg (by omega), ai_91 hv hv2, e1, ← g1, t37]
        rfl
      · show Md_drawsLine_56b (Md_drawsLine_56 n) i P ((0 : Nat) : Int) p τ = _
        unfold Md_drawsLine_56b
        rw [wr_id (n := (p : Int)) (by omega) (by omega), wr_id (n := (P : Int)) (by omega) (by omega), if_pos (by omega), md_draws, bnd_s]
        rw [if_neg (by omega), hv, e16, if_pos (inb (by omega) (by omega) (by omega)), wrn (n := v % 16) rfl (by omega)]
        rw [e2, ← g2]
        rfl
end DW
