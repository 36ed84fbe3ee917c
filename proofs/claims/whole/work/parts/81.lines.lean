/-! ===== lines are moved ===== -/
section LM
variable {σ τ : Mem}
/-- line j of σ' is line i of σ -/
def lnQ (σ' : Mem) (j : Nat) (σ : Mem) (i : Nat) : Prop := σ' 4 j = σ 4 i ∧ σ' 6 j = σ 6 i ∧ σ' 8 j = σ 8 i ∧ ∀ k : Nat, k < 32 → (k : Int) < σ 6 i → σ' 10 (32 * j + k) = σ 10 (32 * i + k)
def lnP (τ' : Mem) (j : Nat) (τ : Mem) (i : Nat) : Prop := τ' 1 (1 + j) = τ 1 (1 + i) ∧ τ' 1 (21 + j) = τ 1 (21 + i) ∧ τ' 1 (41 + j) = τ 1 (41 + i) ∧ ∀ k : Nat, k < 32 → τ' 1 (61 + (32 * j + k)) = τ 1 (61 + (32 * i + k))
/-- line i of both, alike and as it must be -/
def lnR (σ τ : Mem) (i : Nat) : Prop := τ 1 (1 + i) = σ 4 i ∧ τ 1 (21 + i) = σ 6 i ∧ τ 1 (41 + i) = σ 8 i ∧ (∀ k : Nat, (k : Int) < σ 6 i → τ 1 (61 + (32 * i + k)) = σ 10 (32 * i + k)) ∧ lnOK (σ 4 i) (σ 6 i) (σ 8 i) (fun k => σ 10 (32 * i + k))
theorem lnR.mv {σ' τ' : Mem} {i j : Nat} (h : lnR σ τ i) (hc : lnQ σ' j σ i) (hm : lnP τ' j τ i) : lnR σ' τ' j := by
  obtain ⟨r1, r2, r3, r4, l1, l2, l3, l4, l5, l6⟩ := h
  obtain ⟨c1, c2, c3, c4⟩ := hc
  obtain ⟨m1, m2, m3, m4⟩ := hm
  refine ⟨by rw [m1, c1, r1], by rw [m2, c2, r2], by rw [m3, c3, r3], fun k hk => ?_, ?_⟩
  · rw [c2] at hk
    rw [m4 k (by omega), c4 k (by omega) hk, r4 k hk]
  · rw [c1, c2, c3]
    refine ⟨l1, l2, l3, l4, fun z => ?_, fun k hk => ?_⟩
    · show σ' 10 (32 * j + 0) ≠ 32 ∧ σ' 10 (32 * j + (σ 6 i - 1).toNat) ≠ 32
      rw [c4 0 (by omega) (by omega), c4 (σ 6 i - 1).toNat (by omega) (by omega)]
      exact l5 z
    · show 32 ≤ σ' 10 (32 * j + k) ∧ σ' 10 (32 * j + k) ≤ 126
      rw [c4 k (by omega) hk]; exact l6 k hk
theorem lnQ.tr {σ1 σ2 : Mem} {a b c : Nat} (h : lnQ σ1 b σ a) (h2 : lnQ σ2 c σ1 b) : lnQ σ2 c σ a := by
  obtain ⟨c1, c2, c3, c4⟩ := h
  obtain ⟨m1, m2, m3, m4⟩ := h2
  exact ⟨by rw [m1, c1], by rw [m2, c2], by rw [m3, c3], fun k hk hk2 => by rw [m4 k hk (by rw [c2]; exact hk2), c4 k hk hk2]⟩
theorem lnP.tr {σ1 σ2 : Mem} {a b c : Nat} (h : lnP σ1 b σ a) (h2 : lnP σ2 c σ1 b) : lnP σ2 c σ a := by
  obtain ⟨c1, c2, c3, c4⟩ := h
  obtain ⟨m1, m2, m3, m4⟩ := h2
  exact ⟨by rw [m1, c1], by rw [m2, c2], by rw [m3, c3], fun k hk => by rw [m4 k hk, c4 k hk]⟩
theorem lnQ.rf {j : Nat} : lnQ σ j σ j := ⟨rfl, rfl, rfl, fun _ _ _ => rfl⟩
theorem lnP.rf {j : Nat} : lnP τ j τ j := ⟨rfl, rfl, rfl, fun _ _ => rfl⟩
/-- the cells of line t -/
def FLc (t o k : Nat) : Prop := ((o = 4 ∨ o = 6 ∨ o = 8) ∧ k = t) ∨ (o = 10 ∧ 32 * t ≤ k ∧ k < 32 * t + 32)
def FLm (t o k : Nat) : Prop := o = 1 ∧ (k = 1 + t ∨ k = 21 + t ∨ k = 41 + t ∨ (61 + 32 * t ≤ k ∧ k < 93 + 32 * t))
def FLs (o _k : Nat) : Prop := o = 2 ∨ o = 4 ∨ o = 6 ∨ o = 8 ∨ o = 10
def FLp (o k : Nat) : Prop := o = 1 ∧ k < 701
theorem lnQ_fr {σ' : Mem} {t j : Nat} (h : Fr (FLc t) σ σ') (hj : j ≠ t) : lnQ σ' j σ j := ⟨h 4 j (by unfold FLc; omega), h 6 j (by unfold FLc; omega), h 8 j (by unfold FLc; omega), fun k hk _ => h 10 _ (by unfold FLc; omega)⟩
theorem lnP_fr {τ' : Mem} {t j : Nat} (h : Fr (FLm t) τ τ') (hj : j ≠ t) (h1 : j < 20) (h2 : t < 20) : lnP τ' j τ j := ⟨h 1 _ (by unfold FLm; omega), h 1 _ (by unfold FLm; omega), h 1 _ (by unfold FLm; omega), fun k hk => h 1 _ (by unfold FLm; omega)⟩
theorem FLc_s {t o k : Nat} (h : FLc t o k) : FLs o k := by unfold FLc at h; unfold FLs; omega
theorem FLm_p {t o k : Nat} (ht : t < 20) (h : FLm t o k) : FLp o k := by unfold FLm at h; unfold FLp; omega
theorem lnQ_up {s σ0 : Mem} {o t j i : Nat} {v : Int} (h : lnQ s j σ0 i) (ho : o ≠ 10 ∧ ((o ≠ 4 ∧ o ≠ 6 ∧ o ≠ 8) ∨ j ≠ t)) : lnQ (upM s o t v) j σ0 i := by
  obtain ⟨c1, c2, c3, c4⟩ := h
  simp only [lnQ, upM]
  refine ⟨?_, ?_, ?_, fun k hk hk2 => ?_⟩
  · rw [if_neg (by omega)]; exact c1
  · rw [if_neg (by omega)]; exact c2
  · rw [if_neg (by omega)]; exact c3
  · rw [if_neg (by omega)]; exact c4 k hk hk2
theorem lnP_up {s τ0 : Mem} {c j i : Nat} {v : Int} (h : lnP s j τ0 i) (hj : j < 20) (hc : c = 0 ∨ ∃ t, t < 20 ∧ j ≠ t ∧ (c = 1 + t ∨ c = 21 + t ∨ c = 41 + t)) : lnP (upM s 1 c v) j τ0 i := by
  obtain ⟨c1, c2, c3, c4⟩ := h
  simp only [lnP, upM]
  have hd : c ≠ 1 + j ∧ c ≠ 21 + j ∧ c ≠ 41 + j ∧ c < 61 := by
    rcases hc with h | ⟨t, h1, h2, h3⟩ <;> omega
  refine ⟨?_, ?_, ?_, fun k hk => ?_⟩
  · rw [if_neg (by omega)]; exact c1
  · rw [if_neg (by omega)]; exact c2
  · rw [if_neg (by omega)]; exact c3
  · rw [if_neg (by omega)]; exact c4 k hk
theorem lin_copyLine_53 {a b L : Nat} (ha : a < 20) (hb : b < 20) (hab : a ≠ b) (hL : L ≤ 32) : ∀ (m n k : Nat) (σ : Mem), k + m = L → m < n → Ex (Lin_copyLine_53 n a b L k σ) (fun _ σ' => Fr (fun o z => o = 10 ∧ 32 * b + k ≤ z ∧ z < 32 * b + L) σ σ' ∧ ∀ j, k ≤ j → j < L → σ' 10 (32 * b + j) = σ 10 (32 * a + j)) := by
  intro m
  induction m with
  | zero =>
    intro n k σ hk hn
    obtain ⟨n, rfl⟩ : ∃ z, n = z + 1 := ⟨n - 1, by omega⟩
    show Ex (Lin_copyLine_53b (Lin_copyLine_53 n) a b L k σ) _
    unfold Lin_copyLine_53b
    rw [wr_id (n := (k : Int)) (by omega) (by omega), wr_id (n := (L : Int)) (by omega) (by omega), if_neg (by omega)]
    exact Ex.ret ⟨Fr.rf, fun j h1 h2 => by omega⟩
  | succ m ih =>
    intro n k σ hk hn
    obtain ⟨n, rfl⟩ : ∃ z, n = z + 1 := ⟨n - 1, by omega⟩
    show Ex (Lin_copyLine_53b (Lin_copyLine_53 n) a b L k σ) _
    unfold Lin_copyLine_53b
    rw [wr_id (n := (k : Int)) (by omega) (by omega), wr_id (n := (L : Int)) (by omega) (by omega), if_pos (by omega), rg_9 (by omega) (by omega)]
    simp only [Option.bind_some]
    rw [rs_9 (by omega) (by omega)]
    simp only [Option.bind_some]
    rw [show ((a : Int) * 32 + (k : Int)).toNat = 32 * a + k by omega, show ((b : Int) * 32 + (k : Int)).toNat = 32 * b + k by omega]
    have := ih n (k + 1) (upM σ 10 (32 * b + k) (σ 10 (32 * a + k))) (by omega) (by omega)
    rw [show (((k + 1 : Nat)) : Int) = (k : Int) + 1 by omega] at this
    refine this.mono (fun _ σ' z => ?_)
    obtain ⟨hf, hv⟩ := z
    refine ⟨fun o z q => ?_, fun j h1 h2 => ?_⟩
    · rw [hf o z (by omega)]
      simp only [upM]
      rw [if_neg (by omega)]
    · by_cases e : j = k
      · subst e
        rw [hf 10 _ (by omega)]
        simp only [upM]
        rw [if_pos ⟨trivial, trivial⟩]
      · rw [hv j (by omega) h2]
        simp only [upM]
        rw [if_neg (by omega)]
theorem lin_copyLine {a b : Nat} (ha : a < 20) (hb : b < 20) (hab : a ≠ b) (h6 : 0 ≤ σ 6 a ∧ σ 6 a ≤ 32) : Ex (Lin_copyLine a b σ) (fun _ σ' => Fr (FLc b) σ σ' ∧ lnQ σ' b σ a) := by
  obtain ⟨L, hL⟩ : ∃ z : Nat, σ 6 a = (z : Int) := ⟨(σ 6 a).toNat, by omega⟩
  unfold Lin_copyLine
  rw [rg_3 (by omega) (by omega)]
  simp only [Option.bind_some]
  rw [rs_3 (by omega) (by omega)]
  simp only [Option.bind_some]
  rw [rg_7 (by omega) (by omega)]
  simp only [Option.bind_some]
  rw [rs_7 (by omega) (by omega)]
  simp only [Option.bind_some]
  rw [rg_5 (by omega) (by omega)]
  simp only [Option.bind_some]
  rw [rs_5 (by omega) (by omega)]
  simp only [Option.bind_some]
  rw [show ((a : Int)).toNat = a by omega, show ((b : Int)).toNat = b by omega, show upM σ 4 b (σ 4 a) 8 a = σ 8 a by simp [upM], show upM (upM σ 4 b (σ 4 a)) 8 b (σ 8 a) 6 a = (L : Int) by simp [upM, hL]]
  refine (lin_copyLine_53 ha hb hab (L := L) (by omega) L 100000 0 (upM (upM (upM σ 4 b (σ 4 a)) 8 b (σ 8 a)) 6 b (L : Int)) (by omega) (by omega)).mono (fun _ σ' z => ?_)
  obtain ⟨hf, hv⟩ := z
  have k1 : ∀ o k, ¬ (o = 10 ∧ 32 * b ≤ k ∧ k < 32 * b + 32) → σ' o k = upM (upM (upM σ 4 b (σ 4 a)) 8 b (σ 8 a)) 6 b (L : Int) o k := fun o k q => hf o k (by omega)
  refine ⟨fun o k q => ?_, ?_, ?_, ?_, fun k hk hk2 => ?_⟩
  · unfold FLc at q
    rw [k1 o k (by omega)]
    simp only [upM]
    rw [if_neg (by omega), if_neg (by omega), if_neg (by omega)]
  · rw [k1 4 b (by omega)]; simp [upM]
  · rw [k1 6 b (by omega)]; simp [upM, hL]
  · rw [k1 8 b (by omega)]; simp [upM]
  · rw [hv k (by omega) (by omega)]; simp [upM]
theorem md_copiesLine_54 {a b : Nat} (ha : a < 20) (hb : b < 20) (hab : a ≠ b) : ∀ (m n k : Nat) (τ : Mem), k + m = 32 → m < n → Ex (Md_copiesLine_54 n a b k τ) (fun _ τ' => Fr (fun o z => o = 1 ∧ 61 + 32 * b + k ≤ z ∧ z < 93 + 32 * b) τ τ' ∧ ∀ j, k ≤ j → j < 32 → τ' 1 (61 + (32 * b + j)) = τ 1 (61 + (32 * a + j))) := by
  intro m
  induction m with
  | zero =>
    intro n k τ hk hn
    obtain ⟨n, rfl⟩ : ∃ z, n = z + 1 := ⟨n - 1, by omega⟩
    show Ex (Md_copiesLine_54b (Md_copiesLine_54 n) a b k τ) _
    unfold Md_copiesLine_54b
    rw [wr_id (n := (k : Int)) (by omega) (by omega), if_neg (by omega)]
    exact Ex.ret ⟨Fr.rf, fun j h1 h2 => by omega⟩
  | succ m ih =>
    intro n k τ hk hn
    obtain ⟨n, rfl⟩ : ∃ z, n = z + 1 := ⟨n - 1, by omega⟩
    show Ex (Md_copiesLine_54b (Md_copiesLine_54 n) a b k τ) _
    unfold Md_copiesLine_54b
    rw [wr_id (n := (k : Int)) (by omega) (by omega), if_pos (by omega), if_pos (inb (by omega) (by omega) (by omega)), if_pos (inb (by omega) (by omega) (by omega)), wrn (n := 61 + (32 * b + k)) (by omega) (by omega), wrn (n := 61 + (32 * a + k)) (by omega) (by omega)]
    refine Ex.lt ?_
    have := ih n (k + 1) (upM τ 1 (61 + (32 * b + k)) (τ 1 (61 + (32 * a + k)))) (by omega) (by omega)
    rw [show (((k + 1 : Nat)) : Int) = (k : Int) + 1 by omega] at this
    refine this.mono (fun _ σ' z => ?_)
    obtain ⟨hf, hv⟩ := z
    refine ⟨fun o z q => ?_, fun j h1 h2 => ?_⟩
    · rw [hf o z (by omega)]
      simp only [upM]
      rw [if_neg (by omega)]
    · by_cases e : j = k
      · subst e
        rw [hf 1 _ (by omega)]
        simp only [upM]
        rw [if_pos ⟨trivial, trivial⟩]
      · rw [hv j (by omega) h2]
        simp only [upM]
        rw [if_neg (by omega)]
theorem md_copiesLine {a b : Nat} (ha : a < 20) (hb : b < 20) (hab : a ≠ b) : Ex (Md_copiesLine a b τ) (fun _ τ' => Fr (FLm b) τ τ' ∧ lnP τ' b τ a) := by
  unfold Md_copiesLine
  rw [if_pos (inb (by omega) (by omega) (by omega)), if_pos (inb (by omega) (by omega) (by omega)), wrn (n := 1 + b) (by omega) (by omega), wrn (n := 1 + a) (by omega) (by omega)]
  refine Ex.lt ?_
  rw [if_pos (inb (by omega) (by omega) (by omega)), if_pos (inb (by omega) (by omega) (by omega)), wrn (n := 21 + b) (by omega) (by omega), wrn (n := 21 + a) (by omega) (by omega)]
  refine Ex.lt ?_
  rw [if_pos (inb (by omega) (by omega) (by omega)), if_pos (inb (by omega) (by omega) (by omega)), wrn (n := 41 + b) (by omega) (by omega), wrn (n := 41 + a) (by omega) (by omega)]
  refine Ex.lt ?_
  have e2 : upM τ 1 (1 + b) (τ 1 (1 + a)) 1 (21 + a) = τ 1 (21 + a) := by simp only [upM]; rw [if_neg (by omega)]
  have e3 : upM (upM τ 1 (1 + b) (τ 1 (1 + a))) 1 (21 + b) (τ 1 (21 + a)) 1 (41 + a) = τ 1 (41 + a) := by simp only [upM]; rw [if_neg (by omega), if_neg (by omega)]
  rw [e2, e3]
  refine (md_copiesLine_54 ha hb hab 32 100000 0 (upM (upM (upM τ 1 (1 + b) (τ 1 (1 + a))) 1 (21 + b) (τ 1 (21 + a))) 1 (41 + b) (τ 1 (41 + a))) (by omega) (by omega)).mono (fun _ τ' z => ?_)
  obtain ⟨hf, hv⟩ := z
  have k1 : ∀ o k, ¬ (o = 1 ∧ 61 + 32 * b ≤ k ∧ k < 93 + 32 * b) → τ' o k = upM (upM (upM τ 1 (1 + b) (τ 1 (1 + a))) 1 (21 + b) (τ 1 (21 + a))) 1 (41 + b) (τ 1 (41 + a)) o k := fun o k q => hf o k (by omega)
  refine ⟨fun o k q => ?_, ?_, ?_, ?_, fun k hk => ?_⟩
  · unfold FLm at q
    rw [k1 o k (by omega)]
    simp only [upM]
    rw [if_neg (by omega), if_neg (by omega), if_neg (by omega)]
  · rw [k1 1 _ (by omega)]; simp only [upM]; rw [if_neg (by omega), if_neg (by omega), if_pos ⟨trivial, trivial⟩]
  · rw [k1 1 _ (by omega)]; simp only [upM]; rw [if_neg (by omega), if_pos ⟨trivial, trivial⟩]
  · rw [k1 1 _ (by omega)]; simp only [upM]; rw [if_pos ⟨trivial, trivial⟩]
  · rw [hv k (by omega) hk]; simp only [upM]; rw [if_neg (by omega), if_neg (by omega), if_neg (by omega)]
/-- a gap is open at i -/
def gapC (i N : Nat) (σ0 σ' : Mem) : Prop := σ' 2 0 = σ0 2 0 + 1 ∧ (∀ j, j < i → lnQ σ' j σ0 j) ∧ (∀ j, i < j → j ≤ N → lnQ σ' j σ0 (j - 1)) ∧ (σ' 4 i = 0 ∧ σ' 6 i = 0 ∧ σ' 8 i = 0) ∧ Fr FLs σ0 σ'
def gapM (i N : Nat) (τ0 τ' : Mem) : Prop := τ' 1 0 = τ0 1 0 + 1 ∧ (∀ j, j < i → lnP τ' j τ0 j) ∧ (∀ j, i < j → j ≤ N → lnP τ' j τ0 (j - 1)) ∧ τ' 1 (41 + i) = 0 ∧ Fr FLp τ0 τ'
theorem lin_openGap_14 {i N : Nat} (hN : N < 20) {σ0 : Mem} (h6 : ∀ j, j < N → 0 ≤ σ0 6 j ∧ σ0 6 j ≤ 32) : ∀ (m n x : Nat) (σ : Mem), i + m = x → x ≤ N → m < n → (∀ j, j < x → lnQ σ j σ0 j) → (∀ j, x < j → j ≤ N → lnQ σ j σ0 (j - 1)) → Fr (fun o k => FLs o k ∧ o ≠ 2) σ0 σ → Ex (Lin_openGap_14 n i x σ) (fun _ σ' => gapC i N σ0 σ') := by
  intro m
  induction m with
  | zero =>
    intro n x σ hx hxN hn h1 h2 hF
    obtain ⟨n, rfl⟩ : ∃ z, n = z + 1 := ⟨n - 1, by omega⟩
    show Ex (Lin_openGap_14b (Lin_openGap_14 n) i x σ) _
    unfold Lin_openGap_14b
    have hix : i = x := by omega
    subst hix
    rw [if_neg (by omega)]
    refine Ex.lt ?_
    rw [rs_3 (by omega) (by omega)]
    simp only [Option.bind_some]
    rw [rs_5 (by omega) (by omega)]
    simp only [Option.bind_some]
    rw [rs_7 (by omega) (by omega)]
    simp only [Option.bind_some]
    rw [show ((i : Int)).toNat = i by omega, hF 2 0 (by unfold FLs; omega)]
    refine Ex.ret ⟨by simp [upM], fun j hj => ?_, fun j hj hj2 => ?_, ⟨by simp [upM], by simp [upM], by simp [upM]⟩, fun o k q => ?_⟩
    · exact lnQ_up (lnQ_up (lnQ_up (lnQ_up (h1 j hj) (by omega)) (by omega)) (by omega)) (by omega)
    · exact lnQ_up (lnQ_up (lnQ_up (lnQ_up (h2 j hj hj2) (by omega)) (by omega)) (by omega)) (by omega)
    · unfold FLs at q
      simp only [upM]
      rw [if_neg (by omega), if_neg (by omega), if_neg (by omega), if_neg (by omega)]
      exact hF o k (by unfold FLs; omega)
  | succ m ih =>
    intro n x σ hx hxN hn h1 h2 hF
    obtain ⟨n, rfl⟩ : ∃ z, n = z + 1 := ⟨n - 1, by omega⟩
    show Ex (Lin_openGap_14b (Lin_openGap_14 n) i x σ) _
    unfold Lin_openGap_14b
    rw [wr_id (n := (i : Int)) (by omega) (by omega), wr_id (n := (x : Int)) (by omega) (by omega), if_pos (by omega), show (x : Int) - 1 = ((x - 1 : Nat) : Int) by omega, show (x : Int) + (-1) = ((x - 1 : Nat) : Int) by omega]
    have hl := h1 (x - 1) (by omega)
    refine Ex.bnd ((lin_copyLine (σ := σ) (a := x - 1) (b := x) (by omega) (by omega) (by omega) (by rw [hl.2.1]; exact h6 _ (by omega))).mono (fun _ σ1 z => ?_))
    obtain ⟨hf, hv⟩ := z
    refine ih n (x - 1) σ1 (by omega) (by omega) (by omega) (fun j hj => (h1 j (by omega)).tr (lnQ_fr hf (by omega))) (fun j hj hj2 => ?_) (hF.tr (hf.mono (fun o k q => ⟨FLc_s q, by unfold FLc at q; omega⟩)))
    by_cases e : j = x
    · subst e; exact hl.tr hv
    · exact (h2 j (by omega) hj2).tr (lnQ_fr hf e)
theorem lin_openGap {i N : Nat} (hi : i ≤ N) (hN : N < 20) (hn : σ 2 0 = N) (h6 : ∀ j, j < N → 0 ≤ σ 6 j ∧ σ 6 j ≤ 32) : Ex (Lin_openGap i σ) (fun _ σ' => gapC i N σ σ') := by
  unfold Lin_openGap
  rw [hn, wr_id (n := (N : Int)) (by omega) (by omega), if_pos (by omega)]
  exact lin_openGap_14 hN h6 (N - i) 100000 N σ (by omega) (by omega) (by omega) (fun j hj => lnQ.rf) (fun j hj hj2 => by omega) Fr.rf
theorem md_parts_7 {i N : Nat} (hN : N < 20) {τ0 : Mem} : ∀ (m n x : Nat) (τ : Mem), i + m = x → x ≤ N → m < n → (∀ j, j < x → lnP τ j τ0 j) → (∀ j, x < j → j ≤ N → lnP τ j τ0 (j - 1)) → Fr (fun o k => FLp o k ∧ k ≠ 0) τ0 τ → Ex (Md_parts_7 n i x τ) (fun _ τ' => gapM i N τ0 τ') := by
  intro m
  induction m with
  | zero =>
    intro n x τ hx hxN hn h1 h2 hF
    obtain ⟨n, rfl⟩ : ∃ z, n = z + 1 := ⟨n - 1, by omega⟩
    show Ex (Md_parts_7b (Md_parts_7 n) i x τ) _
    unfold Md_parts_7b
    have hix : i = x := by omega
    subst hix
    rw [if_neg (by omega), if_pos in0, if_pos in0, show (wr 0).toNat = 0 from by decide]
    refine Ex.lt ?_
    rw [if_pos (inb (by omega) (by omega) (by omega)), wrn (n := 41 + i) (by omega) (by omega), hF 1 0 (by unfold FLp; omega)]
    refine Ex.lt (Ex.ret ⟨?_, fun j hj => ?_, fun j hj hj2 => ?_, ?_, fun o k q => ?_⟩)
    · simp only [upM]; rw [if_neg (by omega), if_pos ⟨trivial, trivial⟩]
    · exact lnP_up (lnP_up (h1 j hj) (by omega) (by omega)) (by omega) (Or.inr ⟨i, by omega, by omega, by omega⟩)
    · exact lnP_up (lnP_up (h2 j hj hj2) (by omega) (by omega)) (by omega) (Or.inr ⟨i, by omega, by omega, by omega⟩)
    · simp [upM]
    · unfold FLp at q
      simp only [upM]
      rw [if_neg (by omega), if_neg (by omega)]
      exact hF o k (by unfold FLp; omega)
  | succ m ih =>
    intro n x τ hx hxN hn h1 h2 hF
    obtain ⟨n, rfl⟩ : ∃ z, n = z + 1 := ⟨n - 1, by omega⟩
    show Ex (Md_parts_7b (Md_parts_7 n) i x τ) _
    unfold Md_parts_7b
    rw [wr_id (n := (i : Int)) (by omega) (by omega), wr_id (n := (x : Int)) (by omega) (by omega), if_pos (by omega), show (x : Int) - 1 = ((x - 1 : Nat) : Int) by omega, show (x : Int) + (-1) = ((x - 1 : Nat) : Int) by omega]
    refine Ex.bnd ((md_copiesLine (τ := τ) (a := x - 1) (b := x) (by omega) (by omega) (by omega)).mono (fun _ τ1 z => ?_))
    obtain ⟨hf, hv⟩ := z
    refine ih n (x - 1) τ1 (by omega) (by omega) (by omega) (fun j hj => (h1 j (by omega)).tr (lnP_fr hf (by omega) (by omega) (by omega))) (fun j hj hj2 => ?_) (hF.tr (hf.mono (fun o k q => ⟨FLm_p (by omega) q, by unfold FLm at q; omega⟩)))
    by_cases e : j = x
    · subst e; exact (h1 (j - 1) (by omega)).tr hv
    · exact (h2 j (by omega) hj2).tr (lnP_fr hf e (by omega) (by omega))
theorem md_parts {i N : Nat} (hi : i ≤ N) (hN : N < 20) (hn : τ 1 0 = N) : Ex (Md_parts i τ) (fun _ τ' => gapM i N τ τ') := by
  unfold Md_parts
  rw [if_pos in0, show (wr 0).toNat = 0 from by decide, hn]
  exact md_parts_7 hN (N - i) 100000 N τ (by omega) (by omega) (by omega) (fun j hj => lnP.rf) (fun j hj hj2 => by omega) Fr.rf
/-- line i is gone -/
def cutC (i N : Nat) (σ0 σ' : Mem) : Prop := σ' 2 0 = σ0 2 0 - 1 ∧ (∀ j, j < i → lnQ σ' j σ0 j) ∧ (∀ j, i ≤ j → j + 1 < N → lnQ σ' j σ0 (j + 1)) ∧ Fr FLs σ0 σ'
def cutM (i N : Nat) (τ0 τ' : Mem) : Prop := τ' 1 0 = τ0 1 0 - 1 ∧ (∀ j, j < i → lnP τ' j τ0 j) ∧ (∀ j, i ≤ j → j + 1 < N → lnP τ' j τ0 (j + 1)) ∧ Fr FLp τ0 τ'
theorem lin_closeGap_10 {i N : Nat} (hN : N ≤ 20) {σ0 : Mem} (hn0 : σ0 2 0 = N) (h6 : ∀ j, j < N → 0 ≤ σ0 6 j ∧ σ0 6 j ≤ 32) : ∀ (m n x : Nat) (σ : Mem), i ≤ x → x + m + 1 = N → m < n → (∀ j, j < i → lnQ σ j σ0 j) → (∀ j, i ≤ j → j < x → lnQ σ j σ0 (j + 1)) → (∀ j, x ≤ j → j < N → lnQ σ j σ0 j) → Fr (fun o k => FLs o k ∧ o ≠ 2) σ0 σ → Ex (Lin_closeGap_10 n x σ) (fun _ σ' => cutC i N σ0 σ') := by
  intro m
  induction m with
  | zero =>
    intro n x σ hix hx hn h1 h2 h3 hF
    obtain ⟨n, rfl⟩ : ∃ z, n = z + 1 := ⟨n - 1, by omega⟩
    show Ex (Lin_closeGap_10b (Lin_closeGap_10 n) x σ) _
    unfold Lin_closeGap_10b
    have e2 : σ 2 0 = N := by rw [hF 2 0 (by unfold FLs; omega), hn0]
    rw [e2, wr_id (n := (x : Int)) (by omega) (by omega), wr_id (n := (N : Int) - 1) (by omega) (by omega), if_neg (by omega)]
    refine Ex.lt (Ex.ret ⟨by simp [upM, hn0], fun j hj => lnQ_up (h1 j hj) (by omega), fun j hj hj2 => lnQ_up (h2 j hj (by omega)) (by omega), fun o k q => ?_⟩)
    unfold FLs at q
    simp only [upM]
    rw [if_neg (by omega)]
    exact hF o k (by unfold FLs; omega)
  | succ m ih =>
    intro n x σ hix hx hn h1 h2 h3 hF
    obtain ⟨n, rfl⟩ : ∃ z, n = z + 1 := ⟨n - 1, by omega⟩
    show Ex (Lin_closeGap_10b (Lin_closeGap_10 n) x σ) _
    unfold Lin_closeGap_10b
    have e2 : σ 2 0 = N := by rw [hF 2 0 (by unfold FLs; omega), hn0]
    rw [e2, wr_id (n := (x : Int)) (by omega) (by omega), wr_id (n := (N : Int) - 1) (by omega) (by omega), if_pos (by omega), show (x : Int) + 1 = ((x + 1 : Nat) : Int) by omega]
    have hl := h3 (x + 1) (by omega) (by omega)
    refine Ex.bnd ((lin_copyLine (σ := σ) (a := x + 1) (b := x) (by omega) (by omega) (by omega) (by rw [hl.2.1]; exact h6 _ (by omega))).mono (fun _ σ1 z => ?_))
    obtain ⟨hf, hv⟩ := z
    refine ih n (x + 1) σ1 (by omega) (by omega) (by omega) (fun j hj => (h1 j hj).tr (lnQ_fr hf (by omega))) (fun j hj hj2 => ?_) (fun j hj hj2 => (h3 j (by omega) hj2).tr (lnQ_fr hf (by omega))) (hF.tr (hf.mono (fun o k q => ⟨FLc_s q, by unfold FLc at q; omega⟩)))
    by_cases e : j = x
    · subst e; exact hl.tr hv
    · exact (h2 j hj (by omega)).tr (lnQ_fr hf e)
theorem lin_closeGap {i N : Nat} (hi : i < N) (hN : N ≤ 20) (hn : σ 2 0 = N) (h6 : ∀ j, j < N → 0 ≤ σ 6 j ∧ σ 6 j ≤ 32) : Ex (Lin_closeGap i σ) (fun _ σ' => cutC i N σ σ') := by
  unfold Lin_closeGap
  rw [lin_has (show RI (i : Int) from ⟨by omega, by omega⟩) (by omega), hn, if_pos (by omega)]
  simp only [Option.bind_some]
  rw [wr_1, if_neg n10]
  exact lin_closeGap_10 hN hn h6 (N - i - 1) 100000 i σ (by omega) (by omega) (by omega) (fun j hj => lnQ.rf) (fun j hj hj2 => by omega) (fun j hj hj2 => lnQ.rf) Fr.rf
theorem md_drops_2 {i N : Nat} (hN : N ≤ 20) {τ0 : Mem} (hn0 : τ0 1 0 = N) : ∀ (m n x : Nat) (τ : Mem), i ≤ x → x + m + 1 = N → m < n → (∀ j, j < i → lnP τ j τ0 j) → (∀ j, i ≤ j → j < x → lnP τ j τ0 (j + 1)) → (∀ j, x ≤ j → j < N → lnP τ j τ0 j) → Fr (fun o k => FLp o k ∧ k ≠ 0) τ0 τ → Ex (Md_drops_2 n x τ) (fun _ τ' => cutM i N τ0 τ') := by
  intro m
  induction m with
  | zero =>
    intro n x τ hix hx hn h1 h2 h3 hF
    obtain ⟨n, rfl⟩ : ∃ z, n = z + 1 := ⟨n - 1, by omega⟩
    show Ex (Md_drops_2b (Md_drops_2 n) x τ) _
    unfold Md_drops_2b
    have e2 : τ 1 0 = N := by rw [hF 1 0 (by unfold FLp; omega), hn0]
    rw [if_pos in0, show (wr 0).toNat = 0 from by decide, e2, wr_id (n := (x : Int) + 1) (by omega) (by omega), wr_id (n := (N : Int)) (by omega) (by omega), if_neg (by omega), if_pos in0, if_pos in0]
    refine Ex.lt (Ex.ret ⟨by simp [upM, hn0], fun j hj => lnP_up (h1 j hj) (by omega) (by omega), fun j hj hj2 => lnP_up (h2 j hj (by omega)) (by omega) (by omega), fun o k q => ?_⟩)
    unfold FLp at q
    simp only [upM]
    rw [if_neg (by omega)]
    exact hF o k (by unfold FLp; omega)
  | succ m ih =>
    intro n x τ hix hx hn h1 h2 h3 hF
    obtain ⟨n, rfl⟩ : ∃ z, n = z + 1 := ⟨n - 1, by omega⟩
    show Ex (Md_drops_2b (Md_drops_2 n) x τ) _
    unfold Md_drops_2b
    have e2 : τ 1 0 = N := by rw [hF 1 0 (by unfold FLp; omega), hn0]
    rw [if_pos in0, show (wr 0).toNat = 0 from by decide, e2, wr_id (n := (x : Int) + 1) (by omega) (by omega), wr_id (n := (N : Int)) (by omega) (by omega), if_pos (by omega), show (x : Int) + 1 = ((x + 1 : Nat) : Int) by omega]
    have hl := h3 (x + 1) (by omega) (by omega)
    refine Ex.bnd ((md_copiesLine (τ := τ) (a := x + 1) (b := x) (by omega) (by omega) (by omega)).mono (fun _ τ1 z => ?_))
    obtain ⟨hf, hv⟩ := z
    refine ih n (x + 1) τ1 (by omega) (by omega) (by omega) (fun j hj => (h1 j hj).tr (lnP_fr hf (by omega) (by omega) (by omega))) (fun j hj hj2 => ?_) (fun j hj hj2 => (h3 j (by omega) hj2).tr (lnP_fr hf (by omega) (by omega) (by omega))) (hF.tr (hf.mono (fun o k q => ⟨FLm_p (by omega) q, by unfold FLm at q; omega⟩)))
    by_cases e : j = x
    · subst e; exact hl.tr hv
    · exact (h2 j hj (by omega)).tr (lnP_fr hf e (by omega) (by omega))
theorem md_drops {i N : Nat} (hi : i < N) (hN : N ≤ 20) (hn : τ 1 0 = N) : Ex (Md_drops i τ) (fun _ τ' => cutM i N τ τ') :=
  md_drops_2 hN hn (N - i - 1) 100000 i τ (by omega) (by omega) (by omega) (fun j hj => lnP.rf) (fun j hj hj2 => by omega) (fun j hj hj2 => lnP.rf) Fr.rf
/-- an edit of lines, told by its frame and its lines -/
theorem Inv_ln {σ1 τ1 σ' τ' : Mem} (h : Inv σ1 τ1) (h11 : σ1 0 11 = 0) (hσ : Fr FLs σ1 σ') (hτ : Fr (fun o k => FLp o k ∨ (o = 0 ∧ 28 ≤ k ∧ k ≤ 29)) τ1 τ') {N : Nat} (hN : N ≤ 20) (hn1 : σ' 2 0 = N) (hn2 : τ' 1 0 = N) (hl : ∀ j, j < N → lnR σ' τ' j) : Inv σ' τ' := by
  refine Inv_lines h (by rw [hσ 0 11 (by unfold FLs; omega)]; exact h11) (fun o k z => Or.inl (Classical.byContradiction (fun y => z (hσ o k (by unfold FLs; omega))))) (fun o k z => Classical.byContradiction (fun y => z (hτ o k (by unfold FM at y; unfold FLp; omega)))) (by rw [hn1, hn2]; omega) (fun j hj => hl j (by omega))
theorem Inv.lr (h : Inv σ τ) {j N : Nat} (hn : σ 2 0 = N) (hj : j < N) : lnR σ τ j := h.lnok (by omega)
theorem Inv.sz (h : Inv σ τ) {N : Nat} (hn : σ 2 0 = N) : ∀ j, j < N → 0 ≤ σ 6 j ∧ σ 6 j ≤ 32 := fun j hj => (h.lnok (i := j) (by omega)).2.2.2.2.2.1
theorem t_removeLine (h : Inv σ τ) {a : Int} (ha : RI a) : Two (Ai_removeLine a σ) (Md_removeLine a τ) := by
  have hb := h.nb
  have hn := h.n
  unfold Ai_removeLine Md_removeLine Two
  rw [lin_has ha hb.1, md_isLine ha hb.2]
  simp only [Option.bind_some]
  rw [hn.1]
  by_cases q : 0 ≤ a ∧ a < τ 1 0
  · obtain ⟨i, rfl⟩ : ∃ z : Nat, a = (z : Int) := ⟨a.toNat, by omega⟩
    obtain ⟨N, hN⟩ : ∃ z : Nat, τ 1 0 = (z : Int) := ⟨(τ 1 0).toNat, by omega⟩
    rw [if_pos q, wr_1, if_neg n10, if_neg n10]
    obtain ⟨r1, σ1, e1, r2, τ1, e2, hI, h11, hF1, hF2⟩ := h.begin
    have n1 : σ1 2 0 = N := by rw [hF1 2 0 (by unfold FBg; omega), hn.1, hN]
    have n2 : τ1 1 0 = N := by rw [hF2 1 0 (by unfold FBm; omega), hN]
    rw [e1, e2]
    simp only [Option.bind_some]
    obtain ⟨r3, σ2, e3, c1, c2, c3, c4⟩ := lin_closeGap (σ := σ1) (i := i) (N := N) (by omega) (by omega) n1 (hI.sz n1)
    obtain ⟨r4, τ2, e4, d1, d2, d3, d4⟩ := md_drops (τ := τ1) (i := i) (N := N) (by omega) (by omega) n2
    rw [e3, e4]
    simp only [Option.bind_some]
    rw [if_pos in0, show (wr 0).toNat = 0 from by decide]
    refine Ex.ret (Ex.ret ⟨by rw [c1, d1, n1, n2], ?_⟩)
    refine Inv_ln hI h11 c4 (d4.mono (fun o k q => Or.inl q)) (N := N - 1) (by omega) (by rw [c1, n1]; omega) (by rw [d1, n2]; omega) (fun j hj => ?_)
    by_cases e : j < i
    · exact (hI.lr n1 (by omega)).mv (c2 j e) (d2 j e)
    · exact (hI.lr n1 (by omega)).mv (c3 j (by omega) (by omega)) (d3 j (by omega) (by omega))
  · rw [if_neg q, wr_0, if_pos rfl, if_pos rfl]
    exact Ex.ret (Ex.ret ⟨rfl, h⟩)
end LM
