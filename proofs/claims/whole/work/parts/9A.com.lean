/-! ===== the commonest token ===== -/
section CM
variable {σ τ S : Mem}
noncomputable def bsT (S : Mem) (N : Nat) : Nat → Int × Nat
  | 0 => (-1, 0)
  | m + 1 => cif (fstT S m ∧ (bsT S N m).2 < cntT S m N) ((m : Int), cntT S m N) (bsT S N m)
theorem bsT_s (S : Mem) (N m : Nat) : bsT S N (m + 1) = cif (fstT S m ∧ (bsT S N m).2 < cntT S m N) ((m : Int), cntT S m N) (bsT S N m) := rfl
theorem bsT_le (S : Mem) (N : Nat) : ∀ m, (bsT S N m).2 ≤ N
  | 0 => by show 0 ≤ N; omega
  | m + 1 => by
    rw [bsT_s]
    by_cases q : fstT S m ∧ (bsT S N m).2 < cntT S m N
    · rw [cif_pos q]; exact cnt_le S m N
    · rw [cif_neg q]; exact bsT_le S N m
theorem bsT_rng (S : Mem) (N : Nat) : ∀ m, (bsT S N m).1 = -1 ∨ (0 ≤ (bsT S N m).1 ∧ (bsT S N m).1 < m)
  | 0 => Or.inl rfl
  | m + 1 => by
    rw [bsT_s]
    by_cases q : fstT S m ∧ (bsT S N m).2 < cntT S m N
    · rw [cif_pos q]; right; exact ⟨by show (0 : Int) ≤ m; omega, by show (m : Int) < ((m + 1 : Nat) : Int); omega⟩
    · rw [cif_neg q]; have := bsT_rng S N m; omega
theorem cnt_self {t : Nat} (hf : fstT S t) : ∀ m, m ≤ t → cntT S t m = 0
  | 0, _ => rfl
  | m + 1, h => by rw [cntT_s, cnt_self hf m (by omega), cif_neg (fun z => hf.2 m (by omega) z.1 z.2)]
theorem cnt_mono (S : Mem) (t m : Nat) : ∀ n, m ≤ n → cntT S t m ≤ cntT S t n
  | 0, h => by rw [show m = 0 by omega]; exact Nat.le_refl _
  | n + 1, h => by
    by_cases e : m = n + 1
    · subst e; exact Nat.le_refl _
    · have := cnt_mono S t m n (by omega); rw [cntT_s]; omega
theorem cnt_pos {t N : Nat} (hf : fstT S t) (h : t < N) : 1 ≤ cntT S t N := by
  have h1 : cntT S t (t + 1) = 1 := by rw [cntT_s, cnt_self hf t (Nat.le_refl _), cif_pos ⟨hf.1, eqX.rf t⟩]
  have := cnt_mono S t (t + 1) N h
  omega
theorem sameP_iff (hS : SV S) {t u : Nat} (ht : t < fsS S (nS S)) (hu : u < fsS S (nS S)) (hk : kd2 S t) : sameP S t u ↔ kd2 S u ∧ eqX S t u := ⟨fun z => ⟨fun y => hk (by rw [z.1]; exact y), z.2⟩, fun z => ⟨eqX_kd hS ht hu hk z.1 z.2, z.2⟩⟩
def F36 (o k : Nat) : Prop := o = 0 ∧ k = 36
theorem VM_36 {τ' : Mem} (h : Fr F36 τ τ') (hV : VM S τ) : VM S τ' := ⟨hV.1, by rw [absM_congr (by funext z; exact h 1 z (by unfold F36; omega))]; exact hV.2.1, Tk_keep (fun o z hz => h o z (by unfold F36; omega)) hV.2.2⟩
theorem md_co_35 (hV : VM S τ) {t : Nat} (ht : t < fsS S (nS S)) (hf : fstT S t) {b : Int} {r14 : Int → Int → Mem → Option (Int × Mem)} : ∀ (d n u : Nat), u + d = fsS S (nS S) → d < n → Md_commonest_35 r14 n b t (cntT S t u : Nat) u τ = if wr (τ 0 36) < wr ((cntT S t (fsS S (nS S)) : Nat) : Int) then Md_commonest_81 r14 t ((cntT S t (fsS S (nS S)) : Nat) : Int) t τ else Md_commonest_81 r14 t ((cntT S t (fsS S (nS S)) : Nat) : Int) b τ := by
  have hfs := fsS_le hV.1 (nS S) (Nat.le_refl _)
  have hN := hV.1.n
  intro d
  induction d with
  | zero =>
    intro n u hu hn
    obtain ⟨n, rfl⟩ : ∃ z, n = z + 1 := ⟨n - 1, by omega⟩
    show Md_commonest_35b r14 (Md_commonest_35 r14 n) b t (cntT S t u : Nat) u τ = _
    unfold Md_commonest_35b
    rw [show τ 0 12 = ((fsS S (nS S) : Nat) : Int) from hV.2.2.1.1, wr_id (n := (u : Int)) (by omega) (by omega), wr_id (n := ((fsS S (nS S) : Nat) : Int)) (by omega) (by omega), if_neg (by omega), show fsS S (nS S) = u by omega]
  | succ d ih =>
    intro n u hu hn
    obtain ⟨n, rfl⟩ : ∃ z, n = z + 1 := ⟨n - 1, by omega⟩
    show Md_commonest_35b r14 (Md_commonest_35 r14 n) b t (cntT S t u : Nat) u τ = _
    unfold Md_commonest_35b
    rw [show τ 0 12 = ((fsS S (nS S) : Nat) : Int) from hV.2.2.1.1, wr_id (n := (u : Int)) (by omega) (by omega), wr_id (n := ((fsS S (nS S) : Nat) : Int)) (by omega) (by omega), if_pos (by omega), md_isSame hV ht (by omega), bnd_s]
    dsimp only
    have nx := ih n (u + 1) (by omega) (by omega)
    rw [cntT_s] at nx
    rw [cif_congr (sameP_iff hV.1 ht (by omega) hf.1), show (u : Int) + 1 = ((u + 1 : Nat) : Int) by omega]
    by_cases q : kd2 S u ∧ eqX S t u
    · rw [cif_pos q] at nx
      rw [cif_pos q, wr_1, if_neg n10, ← nx, show ((cntT S t u : Nat) : Int) + 1 = ((cntT S t u + 1 : Nat) : Int) by omega]
    · rw [cif_neg q, Nat.add_zero] at nx
      rw [cif_neg q, wr_0, if_pos rfl, Int.add_zero]
      exact nx
theorem md_co_14 : ∀ (d n m : Nat) (τ : Mem), VM S τ → m + d = fsS S (nS S) → τ 0 36 = ((bsT S (fsS S (nS S)) m).2 : Nat) → d < n → Ex (Md_commonest_14 n (e9 (bsT S (fsS S (nS S)) m).1) m τ) (fun r τ' => r = e9 (bsT S (fsS S (nS S)) (fsS S (nS S))).1 ∧ τ' 0 36 = ((bsT S (fsS S (nS S)) (fsS S (nS S))).2 : Nat) ∧ Fr F36 τ τ') := by
  intro d
  induction d with
  | zero =>
    intro n m τ hV hm h36 hn
    obtain ⟨n, rfl⟩ : ∃ z, n = z + 1 := ⟨n - 1, by omega⟩
    have hfs := fsS_le hV.1 (nS S) (Nat.le_refl _)
    have hN := hV.1.n
    show Ex (Md_commonest_14b (Md_commonest_14 n) (e9 (bsT S (fsS S (nS S)) m).1) m τ) _
    unfold Md_commonest_14b
    rw [show τ 0 12 = ((fsS S (nS S) : Nat) : Int) from hV.2.2.1.1, wr_id (n := (m : Int)) (by omega) (by omega), wr_id (n := ((fsS S (nS S) : Nat) : Int)) (by omega) (by omega), if_neg (by omega)]
    have e : m = fsS S (nS S) := by omega
    refine Ex.ret ⟨by rw [e], by rw [h36, e], Fr.rf⟩
  | succ d ih =>
    intro n m τ hV hm h36 hn
    obtain ⟨n, rfl⟩ : ∃ z, n = z + 1 := ⟨n - 1, by omega⟩
    have hfs := fsS_le hV.1 (nS S) (Nat.le_refl _)
    have hN := hV.1.n
    have hb := bsT_le S (fsS S (nS S)) m
    have hc := cnt_le S m (fsS S (nS S))
    show Ex (Md_commonest_14b (Md_commonest_14 n) (e9 (bsT S (fsS S (nS S)) m).1) m τ) _
    unfold Md_commonest_14b
    rw [show τ 0 12 = ((fsS S (nS S) : Nat) : Int) from hV.2.2.1.1, wr_id (n := (m : Int)) (by omega) (by omega), wr_id (n := ((fsS S (nS S) : Nat) : Int)) (by omega) (by omega), if_pos (by omega), md_isFirst hV (by omega), bnd_s]
    dsimp only
    have keep : bsT S (fsS S (nS S)) (m + 1) = bsT S (fsS S (nS S)) m → Ex (Md_commonest_14 n (e9 (bsT S (fsS S (nS S)) m).1) ((m : Int) + 1) τ) (fun r τ' => r = e9 (bsT S (fsS S (nS S)) (fsS S (nS S))).1 ∧ τ' 0 36 = ((bsT S (fsS S (nS S)) (fsS S (nS S))).2 : Nat) ∧ Fr F36 τ τ') := by
      intro e
      have := ih n (m + 1) τ hV (by omega) (by rw [e]; exact h36) (by omega)
      rw [e, show (((m + 1 : Nat)) : Int) = (m : Int) + 1 by omega] at this
      exact this
    by_cases q : fstT S m
    · rw [cif_pos q, wr_1, if_neg n10]
      have e35 := md_co_35 hV (t := m) (by omega) q (b := e9 (bsT S (fsS S (nS S)) m).1) (r14 := Md_commonest_14 n) (fsS S (nS S) - m) 100000 m (by omega) (by omega)
      rw [cnt_self q m (Nat.le_refl _), show ((0 : Nat) : Int) = 0 from rfl] at e35
      rw [e35, h36, wr_id (n := ((bsT S (fsS S (nS S)) m).2 : Int)) (by omega) (by omega), wr_id (n := ((cntT S m (fsS S (nS S)) : Nat) : Int)) (by omega) (by omega)]
      unfold Md_commonest_81
      rw [h36, wr_id (n := ((bsT S (fsS S (nS S)) m).2 : Int)) (by omega) (by omega), wr_id (n := ((cntT S m (fsS S (nS S)) : Nat) : Int)) (by omega) (by omega)]
      by_cases q2 : (bsT S (fsS S (nS S)) m).2 < cntT S m (fsS S (nS S))
      · have e : bsT S (fsS S (nS S)) (m + 1) = ((m : Int), cntT S m (fsS S (nS S))) := by rw [bsT_s, cif_pos ⟨q, q2⟩]
        rw [if_pos (by omega), if_pos (by omega)]
        refine Ex.lt ?_
        have := ih n (m + 1) (upM τ 0 36 ((cntT S m (fsS S (nS S)) : Nat) : Int)) (VM_36 (Fr.up Fr.rf ⟨rfl, rfl⟩) hV) (by omega) (by rw [e]; simp [upM]) (by omega)
        rw [e, show (((m + 1 : Nat)) : Int) = (m : Int) + 1 by omega] at this
        rw [show e9 ((m : Int), cntT S m (fsS S (nS S))).1 = (m : Int) from e9_id (by show (0 : Int) ≤ m; omega)] at this
        exact this.mono (fun r τ' z => ⟨z.1, z.2.1, Fr.tr (F := F36) (Fr.up Fr.rf ⟨rfl, rfl⟩) z.2.2⟩)
      · have e : bsT S (fsS S (nS S)) (m + 1) = bsT S (fsS S (nS S)) m := by rw [bsT_s, cif_neg (fun z => q2 z.2)]
        rw [if_neg (by omega), if_neg (by omega)]
        refine Ex.lt ?_
        rw [upM_self h36]
        exact keep e
    · have e : bsT S (fsS S (nS S)) (m + 1) = bsT S (fsS S (nS S)) m := by rw [bsT_s, cif_neg (fun z => q z.1)]
      have hneg : ¬ wr (τ 0 36) < 0 := by rw [h36, wr_id (n := ((bsT S (fsS S (nS S)) m).2 : Int)) (by omega) (by omega)]; omega
      rw [cif_neg q, wr_0, if_pos rfl, if_neg hneg]
      unfold Md_commonest_81
      have hneg2 : ¬ wr (τ 0 36) < wr 0 := by rw [wr_0]; exact hneg
      rw [if_neg hneg2]
      refine Ex.lt ?_
      rw [upM_self rfl]
      exact keep e
theorem md_commonest (h : Inv σ τ) : Ex (Md_commonest τ) (fun r τ' => Fr FR τ τ' ∧ VM (absM τ 0) τ' ∧ r = e9 (bsT (absM τ 0) (fsS (absM τ 0) (nS (absM τ 0))) (fsS (absM τ 0) (nS (absM τ 0)))).1 ∧ τ' 0 36 = ((bsT (absM τ 0) (fsS (absM τ 0) (nS (absM τ 0))) (fsS (absM τ 0) (nS (absM τ 0)))).2 : Nat)) := by
  have hfs := fsS_le h.1.2.1 (nS (absM τ 0)) (Nat.le_refl _)
  have hN := h.1.2.1.n
  unfold Md_commonest
  refine Ex.bnd (h.vm.mono (fun _ τ1 x => Ex.lt ?_))
  have hF : Fr F36 τ1 (upM τ1 0 36 0) := Fr.up Fr.rf ⟨rfl, rfl⟩
  have := md_co_14 (S := absM τ 0) (fsS (absM τ 0) (nS (absM τ 0))) 100000 0 (upM τ1 0 36 0) (VM_36 hF x.2) (by omega) (by simp [upM, bsT]) (by omega)
  refine this.mono (fun r τ2 z => ⟨x.1.tr ((hF.tr z.2.2).mono (fun o k q => by unfold F36 at q; unfold FR; omega)), VM_36 (hF.tr z.2.2) x.2, z.1, z.2.1⟩)
/-- the class looks for the greatest count, by places -/
noncomputable def lbT (S : Mem) (N : Nat) : Nat → Int
  | 0 => -1
  | w + 1 => cif (lbT S N w = -1 ∨ cntT S ((vl S N).getD (lbT S N w).toNat 0) N < cntT S ((vl S N).getD w 0) N) (w : Int) (lbT S N w)
theorem lbT_s (S : Mem) (N w : Nat) : lbT S N (w + 1) = cif (lbT S N w = -1 ∨ cntT S ((vl S N).getD (lbT S N w).toNat 0) N < cntT S ((vl S N).getD w 0) N) (w : Int) (lbT S N w) := rfl
theorem lbT_rng (S : Mem) (N : Nat) : ∀ w, (lbT S N w = -1 ∧ w = 0) ∨ (0 ≤ lbT S N w ∧ lbT S N w < w)
  | 0 => Or.inl ⟨rfl, rfl⟩
  | w + 1 => by
    rw [lbT_s]
    by_cases q : lbT S N w = -1 ∨ cntT S ((vl S N).getD (lbT S N w).toNat 0) N < cntT S ((vl S N).getD w 0) N
    · rw [cif_pos q]; omega
    · rw [cif_neg q]
      have := lbT_rng S N w
      have : ¬ lbT S N w = -1 := fun z => q (Or.inl z)
      omega
theorem voc_co_4 (hS : SV S) (hv : vcP S (fsS S (nS S)) σ) : ∀ (d n w : Nat), w + d = (vl S (fsS S (nS S))).length → d < n → Voc_commonest_4 n (lbT S (fsS S (nS S)) w) w σ = some (lbT S (fsS S (nS S)) (vl S (fsS S (nS S))).length, σ) := by
  have hfs := fsS_le hS (nS S) (Nat.le_refl _)
  have hN := hS.n
  have hvl := vl_len S (fsS S (nS S))
  intro d
  induction d with
  | zero =>
    intro n w hw hn
    obtain ⟨n, rfl⟩ : ∃ z, n = z + 1 := ⟨n - 1, by omega⟩
    show Voc_commonest_4b (Voc_commonest_4 n) (lbT S (fsS S (nS S)) w) w σ = _
    unfold Voc_commonest_4b
    rw [hv.1, wr_id (n := (w : Int)) (by omega) (by omega), wr_id (n := (((vl S (fsS S (nS S))).length : Nat) : Int)) (by omega) (by omega), if_neg (by omega), show (vl S (fsS S (nS S))).length = w by omega]
  | succ d ih =>
    intro n w hw hn
    obtain ⟨n, rfl⟩ : ∃ z, n = z + 1 := ⟨n - 1, by omega⟩
    have hr := lbT_rng S (fsS S (nS S)) w
    have nx := ih n (w + 1) (by omega) (by omega)
    rw [lbT_s, show (((w + 1 : Nat)) : Int) = (w : Int) + 1 by omega] at nx
    show Voc_commonest_4b (Voc_commonest_4 n) (lbT S (fsS S (nS S)) w) w σ = _
    unfold Voc_commonest_4b
    rw [hv.1, wr_id (n := (w : Int)) (by omega) (by omega), wr_id (n := (((vl S (fsS S (nS S))).length : Nat) : Int)) (by omega) (by omega), if_pos (by omega), wr_id (n := lbT S (fsS S (nS S)) w) (by omega) (by omega)]
    by_cases q : lbT S (fsS S (nS S)) w = -1
    · rw [cif_pos (Or.inl q)] at nx
      rw [if_pos q]
      exact nx
    · have c1 := cnt_le S ((vl S (fsS S (nS S))).getD w 0) (fsS S (nS S))
      have c2 := cnt_le S ((vl S (fsS S (nS S))).getD (lbT S (fsS S (nS S)) w).toNat 0) (fsS S (nS S))
      rw [if_neg q, rg_343 (by omega) (by omega), bnd_s]
      dsimp only
      rw [rg_343 (by omega) (by omega), bnd_s]
      dsimp only
      rw [show ((w : Int)).toNat = w by omega, (hv.2 w (by omega)).2, (hv.2 (lbT S (fsS S (nS S)) w).toNat (by omega)).2, wr_id (n := ((cntT S ((vl S (fsS S (nS S))).getD w 0) (fsS S (nS S)) : Nat) : Int)) (by omega) (by omega), wr_id (n := ((cntT S ((vl S (fsS S (nS S))).getD (lbT S (fsS S (nS S)) w).toNat 0) (fsS S (nS S)) : Nat) : Int)) (by omega) (by omega)]
      by_cases q2 : cntT S ((vl S (fsS S (nS S))).getD (lbT S (fsS S (nS S)) w).toNat 0) (fsS S (nS S)) < cntT S ((vl S (fsS S (nS S))).getD w 0) (fsS S (nS S))
      · rw [cif_pos (Or.inr q2)] at nx
        rw [if_pos (by omega)]
        exact nx
      · rw [cif_neg (fun z => z.elim q q2)] at nx
        rw [if_neg (by omega)]
        exact nx
theorem vl_pre (S : Mem) (m : Nat) : ∀ n, m ≤ n → ∀ w, w < (vl S m).length → w < (vl S n).length ∧ (vl S n).getD w 0 = (vl S m).getD w 0
  | 0, h, w, hw => by rw [show m = 0 by omega] at hw; simp [vl] at hw
  | n + 1, h, w, hw => by
    by_cases e : m = n + 1
    · subst e; exact ⟨hw, rfl⟩
    · have := vl_pre S m n (by omega) w hw
      rw [vl_s]
      by_cases q : fstT S n
      · rw [cif_pos q, gdL this.1, List.length_append]; exact ⟨by omega, this.2⟩
      · rw [cif_neg q]; exact this
/-- the two searches find the same token -/
theorem lb_bs (S : Mem) (N : Nat) : ∀ m, m ≤ N → (lbT S N (vl S m).length = -1 ∧ bsT S N m = (-1, 0)) ∨ (0 ≤ lbT S N (vl S m).length ∧ bsT S N m = ((((vl S N).getD (lbT S N (vl S m).length).toNat 0 : Nat) : Int), cntT S ((vl S N).getD (lbT S N (vl S m).length).toNat 0) N))
  | 0, _ => Or.inl ⟨rfl, rfl⟩
  | m + 1, h => by
    have ih := lb_bs S N m (by omega)
    by_cases q : fstT S m
    · have hl : (vl S (m + 1)).length = (vl S m).length + 1 := by rw [vl_s, cif_pos q, List.length_append, List.length_singleton]
      have hp := vl_pre S (m + 1) N h (vl S m).length (by omega)
      have hg : (vl S (m + 1)).getD (vl S m).length 0 = m := by rw [vl_s, cif_pos q, gdR]
      rw [hg] at hp
      have hc := cnt_pos (N := N) q (by omega)
      rw [hl, lbT_s, bsT_s, hp.2]
      rcases ih with ⟨i1, i2⟩ | ⟨i1, i2⟩
      · rw [cif_pos (Or.inl i1), i2, cif_pos ⟨q, by show 0 < cntT S m N; omega⟩]
        right
        rw [show (((vl S m).length : Nat) : Int).toNat = (vl S m).length by omega, hp.2]
        exact ⟨by omega, rfl⟩
      · rw [i2]
        by_cases q2 : cntT S ((vl S N).getD (lbT S N (vl S m).length).toNat 0) N < cntT S m N
        · rw [cif_pos (Or.inr q2), cif_pos ⟨q, q2⟩]
          right
          rw [show (((vl S m).length : Nat) : Int).toNat = (vl S m).length by omega, hp.2]
          exact ⟨by omega, rfl⟩
        · rw [cif_neg (fun z => z.elim (fun y => by omega) q2), cif_neg (fun z => q2 z.2)]
          exact Or.inr ⟨i1, rfl⟩
    · have hl : (vl S (m + 1)).length = (vl S m).length := by rw [vl_s, cif_neg q]
      rw [hl, bsT_s, cif_neg (fun z => q z.1)]
      exact ih
theorem voc_commonest (hS : SV S) (hv : vcP S (fsS S (nS S)) σ) : Voc_commonest σ = some (lbT S (fsS S (nS S)) (vl S (fsS S (nS S))).length, σ) := by
  have hfs := fsS_le hS (nS S) (Nat.le_refl _)
  have hN := hS.n
  have hvl := vl_len S (fsS S (nS S))
  exact voc_co_4 hS hv (vl S (fsS S (nS S))).length 100000 0 (by omega) (by omega)
theorem t_commonestCount (h : Inv σ τ) : Two (Ai_commonestCount σ) (Md_commonestCount τ) := by
  have hS := h.1.2.1
  have hfs := fsS_le hS (nS (absM τ 0)) (Nat.le_refl _)
  have hN := hS.n
  have hvl := vl_len (absM τ 0) (fsS (absM τ 0) (nS (absM τ 0)))
  have hlb := lb_bs (absM τ 0) (fsS (absM τ 0) (nS (absM τ 0))) (fsS (absM τ 0) (nS (absM τ 0))) (Nat.le_refl _)
  have hr := lbT_rng (absM τ 0) (fsS (absM τ 0) (nS (absM τ 0))) (vl (absM τ 0) (fsS (absM τ 0) (nS (absM τ 0)))).length
  unfold Ai_commonestCount Md_commonestCount Two
  refine Ex.bnd (h.study.mono (fun _ σ1 z => ?_))
  obtain ⟨hK, -, -⟩ := z
  refine Ex.bnd ((voc_count hK).mono (fun _ σ2 y => ?_))
  show Ex ((Voc_commonest σ2).bind _) _
  rw [voc_commonest hS y.2]
  refine Ex.bnd (Ex.ret ?_)
  show Ex (if wr (lbT (absM τ 0) (fsS (absM τ 0) (nS (absM τ 0))) (vl (absM τ 0) (fsS (absM τ 0) (nS (absM τ 0)))).length) = -1 then _ else (Row_get 343 (lbT (absM τ 0) (fsS (absM τ 0) (nS (absM τ 0))) (vl (absM τ 0) (fsS (absM τ 0) (nS (absM τ 0)))).length) σ2).bind _) _
  rw [wr_id (n := lbT (absM τ 0) (fsS (absM τ 0) (nS (absM τ 0))) (vl (absM τ 0) (fsS (absM τ 0) (nS (absM τ 0)))).length) (by omega) (by omega)]
  rcases hlb with ⟨l1, l2⟩ | ⟨l1, l2⟩
  · rw [if_pos l1]
    refine Ex.ret (Ex.bnd ((md_commonest h).mono (fun r τ1 x => ?_)))
    obtain ⟨x1, x2, x3, x4⟩ := x
    rw [l2, show e9 ((-1 : Int), (0 : Nat)).1 = -9 from rfl] at x3
    show Ex (if wr r = -9 then _ else _) _
    rw [x3, show wr (-9) = -9 from by decide, if_pos rfl]
    exact Ex.ret ⟨rfl, hK.2.2 σ2 τ1 y.1 x1⟩
  · rw [if_neg (by omega), rg_343 (by omega) (by omega)]
    refine Ex.bnd (Ex.ret (Ex.ret (Ex.bnd ((md_commonest h).mono (fun r τ1 x => ?_)))))
    obtain ⟨x1, x2, x3, x4⟩ := x
    rw [l2] at x3 x4
    have x3' : r = (((vl (absM τ 0) (fsS (absM τ 0) (nS (absM τ 0)))).getD (lbT (absM τ 0) (fsS (absM τ 0) (nS (absM τ 0))) (vl (absM τ 0) (fsS (absM τ 0) (nS (absM τ 0)))).length).toNat 0 : Nat) : Int) := by rw [x3]; exact e9_id (by omega)
    have hg := vl_get (S := absM τ 0) (m := fsS (absM τ 0) (nS (absM τ 0))) (w := (lbT (absM τ 0) (fsS (absM τ 0) (nS (absM τ 0))) (vl (absM τ 0) (fsS (absM τ 0) (nS (absM τ 0)))).length).toNat) (by omega)
    show Ex (if wr r = -9 then _ else some (τ1 0 36, τ1)) _
    rw [wr_id (n := r) (by omega) (by omega), if_neg (by omega)]
    refine Ex.ret ⟨?_, hK.2.2 σ2 τ1 y.1 x1⟩
    show τ1 0 36 = σ2 344 _
    rw [x4, (y.2.2 _ (by omega)).2]
theorem t_commonestByte (h : Inv σ τ) {a : Int} (ha : RI a) : Two (Ai_commonestByte a σ) (Md_commonestByte a τ) := by
  have hS := h.1.2.1
  have hfs := fsS_le hS (nS (absM τ 0)) (Nat.le_refl _)
  have hN := hS.n
  have hvl := vl_len (absM τ 0) (fsS (absM τ 0) (nS (absM τ 0)))
  have hlb := lb_bs (absM τ 0) (fsS (absM τ 0) (nS (absM τ 0))) (fsS (absM τ 0) (nS (absM τ 0))) (Nat.le_refl _)
  have hr := lbT_rng (absM τ 0) (fsS (absM τ 0) (nS (absM τ 0))) (vl (absM τ 0) (fsS (absM τ 0) (nS (absM τ 0)))).length
  unfold Ai_commonestByte Md_commonestByte Two
  rw [ha.w]
  by_cases q : a < 0
  · rw [if_pos q, if_pos q]
    exact Ex.ret (Ex.ret ⟨rfl, h⟩)
  · rw [if_neg q, if_neg q]
    refine Ex.bnd (h.study.mono (fun _ σ1 z => ?_))
    obtain ⟨hK, -, -⟩ := z
    refine Ex.bnd ((voc_count hK).mono (fun _ σ2 y => ?_))
    have hK2 := Kw_Fr hK y.1
    show Ex ((Voc_commonest σ2).bind _) _
    rw [voc_commonest hS y.2]
    refine Ex.bnd (Ex.ret ?_)
    show Ex (if wr (lbT (absM τ 0) (fsS (absM τ 0) (nS (absM τ 0))) (vl (absM τ 0) (fsS (absM τ 0) (nS (absM τ 0)))).length) = -1 then _ else (Row_get 341 (lbT (absM τ 0) (fsS (absM τ 0) (nS (absM τ 0))) (vl (absM τ 0) (fsS (absM τ 0) (nS (absM τ 0)))).length) σ2).bind _) _
    rw [wr_id (n := lbT (absM τ 0) (fsS (absM τ 0) (nS (absM τ 0))) (vl (absM τ 0) (fsS (absM τ 0) (nS (absM τ 0)))).length) (by omega) (by omega)]
    rcases hlb with ⟨l1, l2⟩ | ⟨l1, l2⟩
    · rw [if_pos l1]
      refine Ex.ret (Ex.bnd ((md_commonest h).mono (fun r τ1 x => ?_)))
      obtain ⟨x1, x2, x3, x4⟩ := x
      rw [l2, show e9 ((-1 : Int), (0 : Nat)).1 = -9 from rfl] at x3
      show Ex (if wr r = -9 then _ else _) _
      rw [x3, show wr (-9) = -9 from by decide, if_pos rfl]
      exact Ex.ret ⟨rfl, hK.2.2 σ2 τ1 y.1 x1⟩
    · rw [if_neg (by omega), rg_341 (by omega) (by omega)]
      refine Ex.bnd (Ex.ret ?_)
      generalize hw : (lbT (absM τ 0) (fsS (absM τ 0) (nS (absM τ 0))) (vl (absM τ 0) (fsS (absM τ 0) (nS (absM τ 0)))).length).toNat = w at *
      have hwl : w < (vl (absM τ 0) (fsS (absM τ 0) (nS (absM τ 0)))).length := by omega
      have hg := vl_get (S := absM τ 0) hwl
      have h342 := (y.2.2 w hwl).1
      generalize ht : (vl (absM τ 0) (fsS (absM τ 0) (nS (absM τ 0)))).getD w 0 = t at *
      have hTC := hK2.1.2.2.2.2.1
      have ac := tk_arr hTC hg.1
      have ok := tq_ok hS hg.1
      have hl := hS.len ok.1
      show Ex ((Row_get 294 (σ2 342 w) σ2).bind _) _
      rw [h342, rg_294 (by omega) (by omega)]
      refine Ex.bnd (Ex.ret ?_)
      show Ex (if a < wr (σ2 295 ((t : Int)).toNat) then ((Row_get 290 (t : Int) σ2).bind _) else _) _
      rw [show ((t : Int)).toNat = t by omega, ac.2.2.1, wr_id (n := (tq (absM τ 0) t).2.2.1) (by omega) (by omega)]
      have fin : ∀ (r : Int) (τ1 : Mem), r = (t : Int) → VM (absM τ 0) τ1 → wr r = (t : Int) ∧ τ1 6 t = (tq (absM τ 0) t).2.2.1 := fun r τ1 e V => ⟨by rw [e]; exact wr_id (by omega) (by omega), (tk_arr V.2.2 hg.1).2.2.1⟩
      by_cases q2 : a < (tq (absM τ 0) t).2.2.1
      · obtain ⟨k, rfl⟩ : ∃ z : Nat, a = (z : Int) := ⟨a.toNat, by omega⟩
        rw [if_pos q2, rg_290 (by omega) (by omega)]
        refine Ex.bnd (Ex.ret ?_)
        show Ex ((Row_get 292 (t : Int) σ2).bind _) _
        rw [rg_292 (by omega) (by omega)]
        refine Ex.bnd (Ex.ret ?_)
        show Ex ((Lin_byteOf (σ2 291 ((t : Int)).toNat) (σ2 293 ((t : Int)).toNat + (k : Int)) σ2).bind _) _
        rw [show ((t : Int)).toNat = t by omega, ac.1, ac.2.1, (voc_byte hS hK2.1.2.2.1 hg.1 q2).1]
        refine Ex.bnd (Ex.ret (Ex.ret (Ex.bnd ((md_commonest h).mono (fun r τ1 x => ?_)))))
        obtain ⟨x1, x2, x3, x4⟩ := x
        rw [l2] at x3
        have e3 : r = (t : Int) := by rw [x3]; exact e9_id (by show (0 : Int) ≤ (t : Int); omega)
        obtain ⟨f1, f2⟩ := fin r τ1 e3 x2
        have am := tk_arr x2.2.2 hg.1
        show Ex (if wr r = -9 then _ else if 0 ≤ wr r ∧ wr r < (641 : Int) then (if (k : Int) < wr (τ1 6 (wr r).toNat) then (if 0 ≤ wr r ∧ wr r < (641 : Int) then (if 0 ≤ wr r ∧ wr r < (641 : Int) then ((Md_contentAt (τ1 4 (wr r).toNat) (τ1 5 (wr r).toNat + (k : Int)) τ1).bind _) else none) else none) else _) else none) _
        rw [f1, if_neg (by omega), if_pos (by omega), show ((t : Int)).toNat = t by omega, f2, wr_id (n := (tq (absM τ 0) t).2.2.1) (by omega) (by omega), if_pos q2, if_pos (by omega), if_pos (by omega), am.1, am.2.1, (md_byteT x2 hg.1 q2).1]
        exact Ex.bnd (Ex.ret (Ex.ret ⟨rfl, hK.2.2 σ2 τ1 y.1 x1⟩))
      · rw [if_neg q2]
        refine Ex.ret (Ex.bnd ((md_commonest h).mono (fun r τ1 x => ?_)))
        obtain ⟨x1, x2, x3, x4⟩ := x
        rw [l2] at x3
        have e3 : r = (t : Int) := by rw [x3]; exact e9_id (by show (0 : Int) ≤ (t : Int); omega)
        obtain ⟨f1, f2⟩ := fin r τ1 e3 x2
        show Ex (if wr r = -9 then _ else if 0 ≤ wr r ∧ wr r < (641 : Int) then (if a < wr (τ1 6 (wr r).toNat) then _ else _) else none) _
        rw [f1, if_neg (by omega), if_pos (by omega), show ((t : Int)).toNat = t by omega, f2, wr_id (n := (tq (absM τ 0) t).2.2.1) (by omega) (by omega), if_neg q2]
        exact Ex.ret ⟨rfl, hK.2.2 σ2 τ1 y.1 x1⟩
end CM
