/-! ===== joinLines ===== -/
section JO
variable {σ τ : Mem}
theorem lin_byteR {i E : Nat} (hi : i < 20) (h6 : σ 6 i = E) (hE : E ≤ 32) {k : Nat} (hk : k ≤ 200) : Lin_byteOf i k σ = some (if k < E then σ 10 (32 * i + k) else 0, σ) := by
  unfold Lin_byteOf
  rw [wr_id (n := (k : Int)) (by omega) (by omega), if_neg (by omega), rg_5 (by omega) (by omega)]
  simp only [Option.bind_some]
  rw [show ((i : Int)).toNat = i by omega, h6, wr_id (n := (E : Int)) (by omega) (by omega)]
  by_cases q : k < E
  · rw [if_pos (by omega), if_pos q, rg_9 (by omega) (by omega)]
    simp only [Option.bind_some]
    rw [show ((i : Int) * 32 + (k : Int)).toNat = 32 * i + k by omega]
  · rw [if_neg (by omega), if_neg q]
/-- what appending to line d changes -/
def FAp (d L o k : Nat) : Prop := (o = 6 ∧ k = d) ∨ (o = 10 ∧ 32 * d + L ≤ k ∧ k < 32 * d + 32)
theorem FAp_c {d L o k : Nat} (h : FAp d L o k) : FLc d o k := by unfold FAp at h; unfold FLc; omega
theorem lin_apF_13 {a d E : Nat} (ha : a < 20) (hd : d < 20) (had : a ≠ d) (hE : E ≤ 32) : ∀ (m n x L : Nat) (σ : Mem), x + m = E → L + m ≤ 32 → m < n → σ 6 d = L → σ 6 a = E → Ex (Lin_appendFrom_13 n a d E x σ) (fun _ σ' => Fr (FAp d L) σ σ' ∧ σ' 6 d = ((L + m : Nat) : Int) ∧ ∀ j, j < m → σ' 10 (32 * d + (L + j)) = σ 10 (32 * a + (x + j))) := by
  intro m
  induction m with
  | zero =>
    intro n x L σ hx hL hn h6 h6a
    obtain ⟨n, rfl⟩ : ∃ z, n = z + 1 := ⟨n - 1, by omega⟩
    show Ex (Lin_appendFrom_13b (Lin_appendFrom_13 n) a d E x σ) _
    unfold Lin_appendFrom_13b
    rw [wr_id (n := (x : Int)) (by omega) (by omega), wr_id (n := (E : Int)) (by omega) (by omega), if_neg (by omega)]
    exact Ex.ret ⟨Fr.rf, h6, fun j hj => by omega⟩
  | succ m ih =>
    intro n x L σ hx hL hn h6 h6a
    obtain ⟨n, rfl⟩ : ∃ z, n = z + 1 := ⟨n - 1, by omega⟩
    show Ex (Lin_appendFrom_13b (Lin_appendFrom_13 n) a d E x σ) _
    unfold Lin_appendFrom_13b
    rw [wr_id (n := (x : Int)) (by omega) (by omega), wr_id (n := (E : Int)) (by omega) (by omega), if_pos (by omega), lin_byteR ha h6a hE (by omega), if_pos (by omega)]
    simp only [Option.bind_some]
    rw [lin_append hd h6 (by omega)]
    simp only [Option.bind_some]
    have := ih n (x + 1) (L + 1) (upM (upM σ 10 (32 * d + L) (σ 10 (32 * a + x))) 6 d ((L + 1 : Nat) : Int)) (by omega) (by omega) (by omega) (by simp [upM]) (by simp only [upM]; rw [if_neg (by omega), if_neg (by omega)]; exact h6a)
    rw [show (((x + 1 : Nat)) : Int) = (x : Int) + 1 by omega] at this
    refine this.mono (fun _ σ' z => ?_)
    obtain ⟨hf, h1, h2⟩ := z
    refine ⟨fun o k q => ?_, by rw [h1]; congr 1; omega, fun j hj => ?_⟩
    · unfold FAp at q
      rw [hf o k (by unfold FAp; omega)]
      simp only [upM]
      rw [if_neg (by omega), if_neg (by omega)]
    · by_cases e : j = 0
      · subst e
        rw [hf 10 _ (by unfold FAp; omega)]
        simp only [upM]
        rw [if_neg (by omega), if_pos ⟨trivial, by omega⟩, Nat.add_zero]
      · have h3 := h2 (j - 1) (by omega)
        rw [show L + 1 + (j - 1) = L + j by omega, show x + 1 + (j - 1) = x + j by omega] at h3
        rw [h3]
        simp only [upM]
        rw [if_neg (by omega), if_neg (by omega)]
theorem lin_appendFrom {a d E x L : Nat} (ha : a < 20) (hd : d < 20) (had : a ≠ d) (hE : E ≤ 32) (hx : x ≤ E) (hL : L + (E - x) ≤ 32) (h6 : σ 6 d = L) (h6a : σ 6 a = E) : Ex (Lin_appendFrom a x d σ) (fun _ σ' => Fr (FAp d L) σ σ' ∧ σ' 6 d = ((L + (E - x) : Nat) : Int) ∧ ∀ j, j < E - x → σ' 10 (32 * d + (L + j)) = σ 10 (32 * a + (x + j))) := by
  unfold Lin_appendFrom
  rw [rg_5 (by omega) (by omega)]
  simp only [Option.bind_some]
  rw [show ((a : Int)).toNat = a by omega, h6a]
  exact lin_apF_13 ha hd had hE (E - x) 100000 x L σ (by omega) hL (by omega) h6 h6a
theorem cut_two {σ2 σ3 τ2 τ3 : Mem} {i N : Nat} (hl : ∀ j, j < N → lnR σ2 τ2 j) (hC : cutC i N σ2 σ3) (hM : cutM i N τ2 τ3) (hi : i < N) : ∀ j, j < N - 1 → lnR σ3 τ3 j := by
  intro j hj
  by_cases e : j < i
  · exact (hl j (by omega)).mv (hC.2.1 j e) (hM.2.1 j e)
  · exact (hl (j + 1) (by omega)).mv (hC.2.2.1 j (by omega) (by omega)) (hM.2.2.1 j (by omega) (by omega))
/-- what the class's line i is behind the join, before the next line goes -/
def jnC (i n m : Nat) (σ1 σ2 : Mem) : Prop := Fr (FLc i) σ1 σ2 ∧ σ2 8 i = σ1 8 i ∧ σ2 4 i = (if n = 0 then σ1 4 (i + 1) else σ1 4 i) ∧ σ2 6 i = ((if 0 < n ∧ 0 < m then n + 1 + m else n + m : Nat) : Int) ∧ (∀ k, k < n → σ2 10 (32 * i + k) = σ1 10 (32 * i + k)) ∧ (0 < n ∧ 0 < m → σ2 10 (32 * i + n) = 32) ∧ ∀ k, k < m → σ2 10 (32 * i + ((if 0 < n ∧ 0 < m then n + 1 else n) + k)) = σ1 10 (32 * (i + 1) + k)
theorem lin_join {i n m N : Nat} (hi : i + 1 < N) (hN : N ≤ 20) (hc : σ 2 0 = N) (hn : σ 6 i = n) (hm : σ 6 (i + 1) = m) (h32 : (if 0 < n ∧ 0 < m then n + 1 + m else n + m) ≤ 32) (h6 : ∀ j, j < N → 0 ≤ σ 6 j ∧ σ 6 j ≤ 32) : Ex (Lin_join i σ) (fun _ σ3 => ∃ σ2, jnC i n m σ σ2 ∧ cutC (i + 1) N σ2 σ3) := by
  have hm32 : m ≤ 32 := by have := h6 (i + 1) hi; omega
  have hn32 : n ≤ 32 := by have := h6 i (by omega); omega
  have fin : ∀ (L : Nat) (σa : Mem), L + m ≤ 32 → σa 6 i = L → Fr (FLc i) σ σa → (∀ σ2, Fr (FAp i L) σa σ2 → σ2 6 i = ((L + m : Nat) : Int) → (∀ j, j < m → σ2 10 (32 * i + (L + j)) = σa 10 (32 * (i + 1) + j)) → jnC i n m σ σ2) → Ex (Lin_join_52 i σa) (fun _ σ3 => ∃ σ2, jnC i n m σ σ2 ∧ cutC (i + 1) N σ2 σ3) := by
    intro L σa hL ha hF hj
    have h6a : σa 6 (i + 1) = m := by rw [hF 6 (i + 1) (by unfold FLc; omega)]; exact hm
    unfold Lin_join_52
    rw [show (i : Int) + 1 = ((i + 1 : Nat) : Int) by omega]
    obtain ⟨r1, σ2, e1, f1, g1, g2⟩ := lin_appendFrom (σ := σa) (a := i + 1) (d := i) (E := m) (x := 0) (L := L) (by omega) (by omega) (by omega) hm32 (by omega) (by omega) ha h6a
    rw [show (0 : Int) = ((0 : Nat) : Int) from rfl, e1]
    simp only [Option.bind_some]
    have g2' : ∀ j, j < m → σ2 10 (32 * i + (L + j)) = σa 10 (32 * (i + 1) + j) := fun j hj => by have := g2 j (by omega); rwa [Nat.zero_add] at this
    have hJ := hj σ2 f1 (by rw [g1]; congr 1) g2'
    have hF2 : Fr (FLc i) σ σ2 := hF.tr (f1.mono (fun o k z => FAp_c z))
    refine Ex.bnd ((lin_closeGap (σ := σ2) (i := i + 1) (N := N) hi hN (by rw [hF2 2 0 (by unfold FLc; omega)]; exact hc) (fun j hj => ?_)).mono (fun _ σ3 z => Ex.ret ⟨σ2, hJ, z⟩))
    by_cases e : j = i
    · subst e; rw [g1]; omega
    · rw [hF2 6 j (by unfold FLc; omega)]; exact h6 j hj
  unfold Lin_join
  rw [rg_5 (by omega) (by omega)]
  simp only [Option.bind_some]
  rw [show ((i : Int)).toNat = i by omega, hn, wr_id (n := (n : Int)) (by omega) (by omega)]
  by_cases q : n = 0
  · rw [if_pos (by omega), show (i : Int) + 1 = ((i + 1 : Nat) : Int) by omega, rg_3 (by omega) (by omega)]
    simp only [Option.bind_some]
    rw [rs_3 (by omega) (by omega)]
    simp only [Option.bind_some]
    rw [show ((i : Int)).toNat = i by omega, show (((i + 1 : Nat) : Int)).toNat = i + 1 by omega]
    refine fin 0 _ (by omega) (by simp only [upM]; rw [if_neg (by omega), hn, q]) (Fr.up Fr.rf (by unfold FLc; omega)) (fun σ2 f1 g1 g2 => ⟨?_, ?_, ?_, ?_, fun k hk => by omega, fun z => by omega, fun k hk => ?_⟩)
    · exact (Fr.up Fr.rf (by unfold FLc; omega)).tr (f1.mono (fun o k z => FAp_c z))
    · rw [f1 8 i (by unfold FAp; omega)]; simp [upM]
    · rw [f1 4 i (by unfold FAp; omega), if_pos q]; simp [upM]
    · rw [g1, if_neg (by omega), q]
    · rw [if_neg (by omega), q, g2 k hk]; simp [upM]
  · rw [if_neg (by omega), show (i : Int) + 1 = ((i + 1 : Nat) : Int) by omega, rg_5 (by omega) (by omega)]
    simp only [Option.bind_some]
    rw [show (((i + 1 : Nat) : Int)).toNat = i + 1 by omega, hm, wr_id (n := (m : Int)) (by omega) (by omega)]
    by_cases q2 : m = 0
    · rw [if_neg (by omega)]
      refine fin n _ (by omega) hn Fr.rf (fun σ2 f1 g1 g2 => ⟨f1.mono (fun o k z => FAp_c z), ?_, ?_, ?_, fun k hk => ?_, fun z => by omega, fun k hk => by omega⟩)
      · rw [f1 8 i (by unfold FAp; omega)]
      · rw [f1 4 i (by unfold FAp; omega), if_neg q]
      · rw [g1, if_neg (by omega)]
      · rw [f1 10 _ (by unfold FAp; omega)]
    · rw [if_pos (by omega)]
      rw [if_pos (by omega)] at h32
      rw [lin_append (i := i) (L := n) (by omega) hn (by omega)]
      simp only [Option.bind_some]
      refine fin (n + 1) _ (by omega) (by simp [upM]) (Fr.up (Fr.up Fr.rf (by unfold FLc; omega)) (by unfold FLc; omega)) (fun σ2 f1 g1 g2 => ⟨?_, ?_, ?_, ?_, fun k hk => ?_, fun z => ?_, fun k hk => ?_⟩)
      · exact (Fr.up (Fr.up Fr.rf (by unfold FLc; omega)) (by unfold FLc; omega)).tr (f1.mono (fun o k z => FAp_c z))
      · rw [f1 8 i (by unfold FAp; omega)]; simp [upM]
      · rw [f1 4 i (by unfold FAp; omega), if_neg q]; simp [upM]
      · rw [g1, if_pos (by omega)]
      · rw [f1 10 _ (by unfold FAp; omega)]; simp only [upM]; rw [if_neg (by omega), if_neg (by omega)]
      · rw [f1 10 _ (by unfold FAp; omega)]; simp only [upM]; rw [if_neg (by omega), if_pos ⟨trivial, trivial⟩]
      · rw [if_pos (by omega), g2 k hk]; simp only [upM]; rw [if_neg (by omega), if_neg (by omega)]
/-- the same of the reference -/
def jnM (i n m : Nat) (τ1 τ2 : Mem) : Prop := Fr (FLm i) τ1 τ2 ∧ τ2 1 (41 + i) = τ1 1 (41 + i) ∧ ((0 < m ∨ 0 < n) → τ2 1 (1 + i) = (if n = 0 then τ1 1 (1 + (i + 1)) else τ1 1 (1 + i))) ∧ (¬ (0 < m ∨ 0 < n) → τ2 1 (1 + i) = τ1 1 (1 + i)) ∧ τ2 1 (21 + i) = ((if 0 < n ∧ 0 < m then n + 1 + m else n + m : Nat) : Int) ∧ (∀ k, k < n → τ2 1 (61 + (32 * i + k)) = τ1 1 (61 + (32 * i + k))) ∧ (0 < n ∧ 0 < m → τ2 1 (61 + (32 * i + n)) = 32) ∧ ∀ k, k < m → τ2 1 (61 + (32 * i + ((if 0 < n ∧ 0 < m then n + 1 else n) + k))) = τ1 1 (61 + (32 * (i + 1) + k))
theorem md_jl_103 {i n m : Nat} (hi : i + 1 < 20) (h32 : n + 1 + m ≤ 32) {Q : Int → Mem → Prop} : ∀ (d f k : Nat) (τ : Mem), k + d = m → d < f → (∀ τ', Fr (fun o z => o = 1 ∧ 61 + 32 * i + (n + 1) + k ≤ z ∧ z < 61 + 32 * i + (n + 1) + m) τ τ' → (∀ j, k ≤ j → j < m → τ' 1 (61 + (32 * i + (n + 1 + j))) = τ 1 (61 + (32 * (i + 1) + j))) → Ex ((Md_drops ((i : Int) + 1) (upM τ' 1 (21 + i) ((n + 1 + m : Nat) : Int))).bind fun q => if 0 ≤ wr (21 + (i : Int)) ∧ wr (21 + (i : Int)) < (10780 : Int) then (some ((q.2 1 (wr (21 + (i : Int))).toNat), q.2)) else none) Q) → Ex (Md_joinLines_103 f i n m k τ) Q := by
  intro d
  induction d with
  | zero =>
    intro f k τ hk hf kk
    obtain ⟨f, rfl⟩ : ∃ z, f = z + 1 := ⟨f - 1, by omega⟩
    show Ex (Md_joinLines_103b (Md_joinLines_103 f) i n m k τ) _
    unfold Md_joinLines_103b
    rw [wr_id (n := (k : Int)) (by omega) (by omega), wr_id (n := (m : Int)) (by omega) (by omega), if_neg (by omega), if_pos (inb (by omega) (by omega) (by omega))]
    refine Ex.lt ?_
    have := kk τ Fr.rf (fun j h1 h2 => by omega)
    rw [show ((n + 1 + m : Nat) : Int) = (n : Int) + 1 + (m : Int) by omega] at this
    rw [wrn (n := 21 + i) (by omega) (by omega)] at this ⊢
    exact this
  | succ d ih =>
    intro f k τ hk hf kk
    obtain ⟨f, rfl⟩ : ∃ z, f = z + 1 := ⟨f - 1, by omega⟩
    show Ex (Md_joinLines_103b (Md_joinLines_103 f) i n m k τ) _
    unfold Md_joinLines_103b
    rw [wr_id (n := (k : Int)) (by omega) (by omega), wr_id (n := (m : Int)) (by omega) (by omega), if_pos (by omega), if_pos (inb (by omega) (by omega) (by omega)), if_pos (inb (by omega) (by omega) (by omega)), wrn (n := 61 + (32 * i + (n + 1 + k))) (by omega) (by omega), wrn (n := 61 + (32 * (i + 1) + k)) (by omega) (by omega)]
    refine Ex.lt ?_
    have := ih f (k + 1) (upM τ 1 (61 + (32 * i + (n + 1 + k))) (τ 1 (61 + (32 * (i + 1) + k)))) (by omega) (by omega) (fun τ' hf hv => kk τ' (fun o z q => ?_) (fun j h1 h2 => ?_))
    · rw [show (((k + 1 : Nat)) : Int) = (k : Int) + 1 by omega] at this
      exact this
    · rw [hf o z (by omega)]
      simp only [upM]
      rw [if_neg (by omega)]
    · by_cases e : j = k
      · subst e
        rw [hf 1 _ (by omega)]
        simp only [upM]
        rw [if_pos ⟨trivial, trivial⟩]
      · rw [hv j (by omega) h2]
        simp only [upM]
        rw [if_neg (by omega)]
theorem md_jl_75 {i n m N : Nat} {b : Int} (hi : i + 1 < N) (hN : N ≤ 20) (hc : τ 1 0 = N) (hn : τ 1 (21 + i) = n) (hm : τ 1 (21 + (i + 1)) = m) (h32 : (if 0 < n ∧ 0 < m then n + 1 + m else n + m) ≤ 32) (hb : (0 < n ∧ 0 < m ∧ b = 1) ∨ (¬ (0 < n ∧ 0 < m) ∧ b = 0)) {τ0 : Mem} {r : Int} (e2 : Md_begins τ0 = some (r, τ)) : Ex (Md_joinLines_75 i n m b τ0) (fun r τ3 => r = τ3 1 (21 + i) ∧ ∃ τ2, jnM i n m τ τ2 ∧ cutM (i + 1) N τ2 τ3) := by
  have fin : ∀ τ2, jnM i n m τ τ2 → Ex ((Md_drops ((i : Int) + 1) τ2).bind fun q => if 0 ≤ wr (21 + (i : Int)) ∧ wr (21 + (i : Int)) < (10780 : Int) then (some ((q.2 1 (wr (21 + (i : Int))).toNat), q.2)) else none) (fun r τ3 => r = τ3 1 (21 + i) ∧ ∃ τ2, jnM i n m τ τ2 ∧ cutM (i + 1) N τ2 τ3) := by
    intro τ2 hJ
    rw [show (i : Int) + 1 = ((i + 1 : Nat) : Int) by omega]
    refine Ex.bnd ((md_drops (τ := τ2) (i := i + 1) (N := N) hi hN (by rw [hJ.1 1 0 (by unfold FLm; omega)]; exact hc)).mono (fun _ τ3 z => ?_))
    rw [if_pos (inb (by omega) (by omega) (by omega)), wrn (n := 21 + i) (by omega) (by omega)]
    exact Ex.ret ⟨rfl, τ2, hJ, z⟩
  unfold Md_joinLines_75
  rw [e2]
  simp only [Option.bind_some]
  rcases hb with ⟨q1, q2, rfl⟩ | ⟨q, rfl⟩
  · rw [if_pos ⟨q1, q2⟩] at h32
    rw [wr_1, if_neg n10, if_pos (inb (by omega) (by omega) (by omega)), wrn (n := 61 + (32 * i + n)) (by omega) (by omega)]
    refine Ex.lt (md_jl_103 (by omega) h32 m 100000 0 _ (by omega) (by omega) (fun τ' hf hv => fin _ ⟨fun o k z => ?_, ?_, fun z => ?_, fun z => by omega, ?_, fun k hk => ?_, fun z => ?_, fun k hk => ?_⟩))
    · unfold FLm at z
      simp only [upM]
      rw [if_neg (by omega), hf o k (by omega)]
      simp only [upM]
      rw [if_neg (by omega)]
    · simp only [upM]; rw [if_neg (by omega), hf 1 _ (by omega)]; simp only [upM]; rw [if_neg (by omega)]
    · simp only [upM]; rw [if_neg (by omega), hf 1 _ (by omega), if_neg (by omega)]; simp only [upM]; rw [if_neg (by omega)]
    · simp only [upM]; rw [if_pos ⟨trivial, trivial⟩, if_pos ⟨q1, q2⟩]
    · simp only [upM]; rw [if_neg (by omega), hf 1 _ (by omega)]; simp only [upM]; rw [if_neg (by omega)]
    · simp only [upM]; rw [if_neg (by omega), hf 1 _ (by omega)]; simp only [upM]; rw [if_pos ⟨trivial, trivial⟩]
    · simp only [upM]; rw [if_neg (by omega), if_pos ⟨q1, q2⟩, hv k (by omega) hk]; simp only [upM]; rw [if_neg (by omega)]
  · rw [if_neg q] at h32
    rw [wr_0, if_pos rfl, wr_id (n := (m : Int)) (by omega) (by omega)]
    by_cases qm : 0 < m
    · have qn : n = 0 := by omega
      rw [if_pos (by omega), if_pos (inb (by omega) (by omega) (by omega)), wrn (n := 41 + i) (by omega) (by omega), show (i : Int) + 1 = ((i + 1 : Nat) : Int) by omega]
      obtain ⟨r4, τ2, e4, f1, g1, g2, g3, g4⟩ := md_copiesLine (τ := τ) (a := i + 1) (b := i) (by omega) (by omega) (by omega)
      rw [e4]
      simp only [Option.bind_some]
      rw [if_pos (inb (by omega) (by omega) (by omega)), ← show (i : Int) + 1 = ((i + 1 : Nat) : Int) by omega]
      refine Ex.lt (fin _ ⟨fun o k z => ?_, ?_, fun z => ?_, fun z => by omega, ?_, fun k hk => by omega, fun z => by omega, fun k hk => ?_⟩)
      · unfold FLm at z
        simp only [upM]
        rw [if_neg (by omega)]
        exact f1 o k (by unfold FLm; omega)
      · simp only [upM]; rw [if_pos ⟨trivial, trivial⟩]
      · simp only [upM]; rw [if_neg (by omega), if_pos qn]; exact g1
      · simp only [upM]; rw [if_neg (by omega), if_neg q, g2, hm, qn, Nat.zero_add]
      · simp only [upM]; rw [if_neg (by omega), if_neg q, qn, Nat.zero_add]; exact g4 k (by omega)
    · rw [if_neg (by omega)]
      refine fin τ ⟨Fr.rf, rfl, fun z => by rw [if_neg (by omega)], fun _ => rfl, ?_, fun k hk => rfl, fun z => by omega, fun k hk => by omega⟩
      rw [if_neg q, hn, show m = 0 by omega, Nat.add_zero]
theorem jn_R {σ1 σ2 τ1 τ2 : Mem} {i n m : Nat} (h1 : lnR σ1 τ1 i) (h2 : lnR σ1 τ1 (i + 1)) (hn : σ1 6 i = n) (hm : σ1 6 (i + 1) = m) (h32 : (if 0 < n ∧ 0 < m then n + 1 + m else n + m) ≤ 32) (hC : jnC i n m σ1 σ2) (hM : jnM i n m τ1 τ2) : lnR σ2 τ2 i := by
  obtain ⟨a1, a2, a3, a4, a5⟩ := h1
  obtain ⟨b1, b2, b3, b4, b5⟩ := h2
  obtain ⟨-, c1, c2, c3, c4, c5, c6⟩ := hC
  obtain ⟨-, m1, m2, m2', m3, m4, m5, m6⟩ := hM
  obtain ⟨l1, l2, l3, l4, l5, l6⟩ := a5
  obtain ⟨k1, k2, k3, k4, k5, k6⟩ := b5
  rw [hn] at l2 l4 l5 l6 a4
  rw [hm] at k2 k4 k5 k6 b4
  simp only [] at l5 l6 k5 k6
  by_cases q : 0 < n ∧ 0 < m
  · rw [if_pos q] at c3 m3 h32
    simp only [if_pos q] at c6 m6
    rw [if_neg (by omega)] at c2
    have m2q := m2 (by omega)
    rw [if_neg (by omega)] at m2q
    have byt : ∀ k : Nat, k < n + 1 + m → τ2 1 (61 + (32 * i + k)) = σ2 10 (32 * i + k) ∧ 32 ≤ σ2 10 (32 * i + k) ∧ σ2 10 (32 * i + k) ≤ 126 := fun k hk => by
      by_cases e1 : k < n
      · rw [m4 k e1, c4 k e1, a4 k (by omega)]; exact ⟨rfl, l6 k (by omega)⟩
      · by_cases e2 : k = n
        · subst e2; rw [c5 q, m5 q]; omega
        · have := c6 (k - (n + 1)) (by omega)
          have h := m6 (k - (n + 1)) (by omega)
          rw [show n + 1 + (k - (n + 1)) = k by omega] at this h
          rw [this, h, b4 _ (by omega)]; exact ⟨rfl, k6 _ (by omega)⟩
    refine ⟨by rw [m2q, c2, a1], by rw [m3, c3], by rw [m1, c1, a3], fun k hk => ?_, by rw [c2]; exact l1, by rw [c3]; omega, by rw [c1]; exact l3, fun z => by rw [c3] at z; omega, fun z => ?_, fun k hk => ?_⟩
    · rw [c3] at hk; exact (byt k (by omega)).1
    · show σ2 10 (32 * i + 0) ≠ 32 ∧ σ2 10 (32 * i + (σ2 6 i - 1).toNat) ≠ 32
      have h := c6 (m - 1) (by omega)
      rw [show n + 1 + (m - 1) = n + m by omega] at h
      rw [c3, show (((n + 1 + m : Nat) : Int) - 1).toNat = n + m by omega, h, c4 0 (by omega)]
      have x1 := l5 (by omega)
      have x2 := k5 (by omega)
      rw [show ((m : Int) - 1).toNat = m - 1 by omega] at x2
      exact ⟨x1.1, x2.2⟩
    · rw [c3] at hk; exact (byt k (by omega)).2
  · rw [if_neg q] at c3 m3 h32
    simp only [if_neg q] at c6 m6
    by_cases q0 : n = 0
    · rw [if_pos q0] at c2
      have e4 : τ2 1 (1 + i) = σ2 4 i := by
        by_cases qm : 0 < m
        · rw [m2 (by omega), if_pos q0, c2, b1]
        · rw [m2' (by omega), c2, a1, l4 (by omega), k4 (by omega)]
      have byt : ∀ k : Nat, k < m → τ2 1 (61 + (32 * i + k)) = σ2 10 (32 * i + k) ∧ σ2 10 (32 * i + k) = σ1 10 (32 * (i + 1) + k) := fun k hk => by
        have h1 := c6 k hk
        have h2 := m6 k hk
        rw [q0, Nat.zero_add] at h1 h2
        rw [h1, h2, b4 k (by omega)]; exact ⟨rfl, rfl⟩
      refine ⟨e4, by rw [m3, c3], by rw [m1, c1, a3], fun k hk => ?_, by rw [c2]; exact k1, by rw [c3]; omega, by rw [c1]; exact l3, fun z => ?_, fun z => ?_, fun k hk => ?_⟩
      · rw [c3] at hk; exact (byt k (by omega)).1
      · rw [c3] at z; rw [c2]; exact k4 (by omega)
      · rw [c3] at z
        show σ2 10 (32 * i + 0) ≠ 32 ∧ σ2 10 (32 * i + (σ2 6 i - 1).toNat) ≠ 32
        rw [c3, (byt 0 (by omega)).2, show (((n + m : Nat) : Int) - 1).toNat = m - 1 by omega, (byt (m - 1) (by omega)).2]
        have x2 := k5 (by omega)
        rw [show ((m : Int) - 1).toNat = m - 1 by omega] at x2
        exact x2
      · rw [c3] at hk
        show 32 ≤ σ2 10 (32 * i + k) ∧ σ2 10 (32 * i + k) ≤ 126
        rw [(byt k (by omega)).2]; exact k6 k (by omega)
    · have qm : m = 0 := by omega
      rw [if_neg q0] at c2
      have m2q := m2 (by omega)
      rw [if_neg q0] at m2q
      refine ⟨by rw [m2q, c2, a1], by rw [m3, c3], by rw [m1, c1, a3], fun k hk => ?_, by rw [c2]; exact l1, by rw [c3]; omega, by rw [c1]; exact l3, fun z => by rw [c3] at z; omega, fun z => ?_, fun k hk => ?_⟩
      · rw [c3] at hk; rw [m4 k (by omega), c4 k (by omega)]; exact a4 k (by omega)
      · show σ2 10 (32 * i + 0) ≠ 32 ∧ σ2 10 (32 * i + (σ2 6 i - 1).toNat) ≠ 32
        have x1 := l5 (by omega)
        rw [c3, show (((n + m : Nat) : Int) - 1).toNat = n - 1 by omega, c4 0 (by omega), c4 (n - 1) (by omega)]
        rw [show ((n : Int) - 1).toNat = n - 1 by omega] at x1
        exact x1
      · rw [c3] at hk
        show 32 ≤ σ2 10 (32 * i + k) ∧ σ2 10 (32 * i + k) ≤ 126
        rw [c4 k (by omega)]; exact l6 k (by omega)
end JO
