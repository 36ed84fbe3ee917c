/-! ===== the buffer becomes a line ===== -/
section BU
variable {σ τ : Mem}
def stP (b : Nat → Int) (n s : Nat) : Prop := s ≤ n ∧ (∀ k, k < s → b k = 32) ∧ (s < n → b s ≠ 32)
def enP (b : Nat → Int) (n s e : Nat) : Prop := s ≤ e ∧ e ≤ n ∧ (∀ k, e ≤ k → k < n → b k = 32) ∧ (s < e → b (e - 1) ≠ 32)
theorem stP_u {b : Nat → Int} {n s s' : Nat} (h : stP b n s) (h' : stP b n s') : s = s' := by
  obtain ⟨a1, a2, a3⟩ := h
  obtain ⟨b1, b2, b3⟩ := h'
  rcases Nat.lt_trichotomy s s' with q | q | q
  · exact absurd (b2 s q) (a3 (by omega))
  · exact q
  · exact absurd (a2 s' q) (b3 (by omega))
/-- the end that the class finds, against the one that the reference finds -/
theorem enP_u {b : Nat → Int} {n s e e' : Nat} (hs : stP b n s) (h : enP b n 0 e) (h' : enP b n s e') : (s < n → e = e' ∧ s < e) ∧ (s = n → e = 0 ∧ e' = n) := by
  obtain ⟨s1, s2, s3⟩ := hs
  obtain ⟨a0, a1, a2, a3⟩ := h
  obtain ⟨b0, b1, b2, b3⟩ := h'
  refine ⟨fun q => ?_, fun q => ⟨?_, by omega⟩⟩
  · have h1 : s < e := Nat.lt_of_not_le (fun z => s3 q (a2 s z q))
    have h2 : s < e' := Nat.lt_of_not_le (fun z => s3 q (b2 s z q))
    refine ⟨?_, h1⟩
    rcases Nat.lt_trichotomy e e' with z | z | z
    · exact absurd (a2 (e' - 1) (by omega) (by omega)) (b3 h2)
    · exact z
    · exact absurd (b2 (e - 1) (by omega) (by omega)) (a3 (by omega))
  · rcases Nat.eq_zero_or_pos e with z | z
    · exact z
    · exact absurd (s2 (e - 1) (by omega)) (a3 z)
/-- the class's buffer -/
def bfC (σ : Mem) (b : Nat → Int) (n : Nat) : Prop := σ 26 0 = n ∧ n ≤ 72 ∧ ∀ k, k < n → σ 28 k = b k ∧ 32 ≤ b k ∧ b k ≤ 126
def bfM (τ : Mem) (b : Nat → Int) (n : Nat) : Prop := τ 0 4 = n ∧ n ≤ 72 ∧ ∀ k, k < n → τ 3 k = b k ∧ 32 ≤ b k ∧ b k ≤ 126
theorem Inv.bf (h : Inv σ τ) : ∃ n : Nat, bfC σ (τ 3) n ∧ bfM τ (τ 3) n := by
  obtain ⟨b1, b2, b3⟩ := h.2.1
  refine ⟨(τ 0 4).toNat, ⟨by omega, by omega, fun k hk => b3 k (by omega)⟩, by omega, by omega, fun k hk => ⟨rfl, (b3 k (by omega)).2⟩⟩
theorem buf_cs {b : Nat → Int} {N : Nat} (hB : bfC σ b N) : ∀ (m n x : Nat), x + m = N → m < n → (∀ k, k < x → b k = 32) → ∃ s : Nat, Buf_contentStart_2 n x σ = some ((s : Int), σ) ∧ stP b N s := by
  obtain ⟨h1, h2, h3⟩ := hB
  intro m
  induction m with
  | zero =>
    intro n x hx hn hb
    obtain ⟨n, rfl⟩ : ∃ z, n = z + 1 := ⟨n - 1, by omega⟩
    show ∃ s : Nat, Buf_contentStart_2b (Buf_contentStart_2 n) x σ = _ ∧ _
    unfold Buf_contentStart_2b
    rw [h1, wr_id (n := (x : Int)) (by omega) (by omega), wr_id (n := (N : Int)) (by omega) (by omega), if_neg (by omega)]
    exact ⟨x, rfl, by omega, hb, fun z => by omega⟩
  | succ m ih =>
    intro n x hx hn hb
    obtain ⟨n, rfl⟩ : ∃ z, n = z + 1 := ⟨n - 1, by omega⟩
    show ∃ s : Nat, Buf_contentStart_2b (Buf_contentStart_2 n) x σ = _ ∧ _
    unfold Buf_contentStart_2b
    have hx3 := h3 x (by omega)
    rw [h1, wr_id (n := (x : Int)) (by omega) (by omega), wr_id (n := (N : Int)) (by omega) (by omega), if_pos (by omega), rg_27 (by omega) (by omega)]
    simp only [Option.bind_some]
    rw [show ((x : Int)).toNat = x by omega, hx3.1, wr_id (n := b x) (by omega) (by omega)]
    by_cases q : b x = 32
    · rw [if_pos q]
      have := ih n (x + 1) (by omega) (by omega) (fun k hk => by
        by_cases e : k = x
        · subst e; exact q
        · exact hb k (by omega))
      rw [show (((x + 1 : Nat)) : Int) = (x : Int) + 1 by omega] at this
      exact this
    · rw [if_neg q]
      exact ⟨x, rfl, by omega, hb, fun _ => q⟩
theorem buf_contentStart {b : Nat → Int} {N : Nat} (hB : bfC σ b N) : ∃ s : Nat, Buf_contentStart σ = some ((s : Int), σ) ∧ stP b N s := buf_cs hB N 100000 0 (by omega) (by have := hB.2.1; omega) (fun k hk => by omega)
theorem buf_ce {b : Nat → Int} {N : Nat} (hB : bfC σ b N) : ∀ (x n : Nat), x ≤ N → x < n → (∀ k, x ≤ k → k < N → b k = 32) → ∃ e : Nat, Buf_contentEnd_5 n x σ = some ((e : Int), σ) ∧ enP b N 0 e := by
  obtain ⟨h1, h2, h3⟩ := hB
  intro x
  induction x with
  | zero =>
    intro n hx hn hb
    obtain ⟨n, rfl⟩ : ∃ z, n = z + 1 := ⟨n - 1, by omega⟩
    show ∃ s : Nat, Buf_contentEnd_5b (Buf_contentEnd_5 n) ((0 : Nat) : Int) σ = _ ∧ _
    unfold Buf_contentEnd_5b
    rw [if_neg (by decide)]
    exact ⟨0, rfl, by omega, by omega, hb, fun z => by omega⟩
  | succ x ih =>
    intro n hx hn hb
    obtain ⟨n, rfl⟩ : ∃ z, n = z + 1 := ⟨n - 1, by omega⟩
    show ∃ s : Nat, Buf_contentEnd_5b (Buf_contentEnd_5 n) ((x + 1 : Nat) : Int) σ = _ ∧ _
    unfold Buf_contentEnd_5b
    have hx3 := h3 x (by omega)
    rw [wr_id (n := ((x + 1 : Nat) : Int)) (by omega) (by omega), if_pos (by omega), rg_27 (by omega) (by omega)]
    simp only [Option.bind_some]
    rw [show (((x + 1 : Nat) : Int) - 1).toNat = x by omega, hx3.1, wr_id (n := b x) (by omega) (by omega)]
    by_cases q : b x = 32
    · rw [if_pos q, show ((x + 1 : Nat) : Int) + (-1) = (x : Int) by omega]
      exact ih n (by omega) (by omega) (fun k hk hk2 => by
        by_cases e : k = x
        · subst e; exact q
        · exact hb k (by omega) hk2)
    · rw [if_neg q]
      exact ⟨x + 1, rfl, by omega, by omega, hb, fun _ => q⟩
theorem buf_contentEnd {b : Nat → Int} {N : Nat} (hB : bfC σ b N) : ∃ e : Nat, Buf_contentEnd σ = some ((e : Int), σ) ∧ enP b N 0 e := by
  unfold Buf_contentEnd
  rw [hB.1]
  exact buf_ce hB N 100000 (by omega) (by have := hB.2.1; omega) (fun k hk hk2 => by omega)
def FI (o k : Nat) : Prop := o = 0 ∧ (k = 28 ∨ k = 29)
theorem bfM_fr {τ' : Mem} {b : Nat → Int} {N : Nat} (h : Fr FI τ τ') (hB : bfM τ b N) : bfM τ' b N := by
  obtain ⟨h1, h2, h3⟩ := hB
  exact ⟨by rw [h 0 4 (by unfold FI; omega)]; exact h1, h2, fun k hk => by rw [h 3 k (by unfold FI; omega)]; exact h3 k hk⟩
theorem md_ilt_51 {b : Nat → Int} {N s : Nat} {Q : Int → Mem → Prop} : ∀ (x n : Nat) (τ : Mem), bfM τ b N → τ 0 28 = s → τ 0 29 = x → s ≤ x → x ≤ N → x < n → (∀ k, x ≤ k → k < N → b k = 32) → (∀ (e : Nat) (τ' : Mem), enP b N s e → Fr FI τ τ' → τ' 0 28 = s → τ' 0 29 = e → Ex (Md_isLineText_91 τ') Q) → Ex (Md_isLineText_51 n τ) Q := by
  intro x
  induction x with
  | zero =>
    intro n τ hB h28 h29 hsx hxN hn hb kk
    obtain ⟨n, rfl⟩ : ∃ z, n = z + 1 := ⟨n - 1, by omega⟩
    show Ex (Md_isLineText_51b (Md_isLineText_51 n) τ) _
    unfold Md_isLineText_51b
    rw [h28, h29, wr_id (n := (s : Int)) (by omega) (by omega), show wr ((0 : Nat) : Int) = 0 from by decide, if_neg (by omega)]
    exact kk 0 τ ⟨by omega, by omega, hb, fun z => by omega⟩ Fr.rf h28 h29
  | succ x ih =>
    intro n τ hB h28 h29 hsx hxN hn hb kk
    obtain ⟨n, rfl⟩ : ∃ z, n = z + 1 := ⟨n - 1, by omega⟩
    show Ex (Md_isLineText_51b (Md_isLineText_51 n) τ) _
    unfold Md_isLineText_51b
    have h2 := hB.2.1
    rw [h28, h29, wr_id (n := (s : Int)) (by omega) (by omega), wr_id (n := ((x + 1 : Nat) : Int)) (by omega) (by omega)]
    by_cases q0 : s < x + 1
    · have hx3 := hB.2.2 x (by omega)
      rw [if_pos (by omega), if_pos (inb (by omega) (by omega) (by omega)), wrn (n := x) (by omega) (by omega), hx3.1, wr_id (n := b x) (by omega) (by omega)]
      by_cases q : b x = 32
      · rw [if_pos q, show ((x + 1 : Nat) : Int) - 1 = (x : Int) by omega]
        refine Ex.lt (ih n (upM τ 0 29 x) (bfM_fr (Fr.up Fr.rf (by unfold FI; omega)) hB) (by simp [upM, h28]) (by simp [upM]) (by omega) (by omega) (by omega) (fun k hk hk2 => ?_) (fun e τ' z1 z2 z3 z4 => kk e τ' z1 ((Fr.up Fr.rf (by unfold FI; omega)).tr z2) z3 z4))
        by_cases e : k = x
        · subst e; exact q
        · exact hb k (by omega) hk2
      · rw [if_neg q]
        exact kk (x + 1) τ ⟨by omega, by omega, hb, fun _ => q⟩ Fr.rf h28 h29
    · rw [if_neg (by omega)]
      exact kk (x + 1) τ ⟨by omega, by omega, hb, fun z => by omega⟩ Fr.rf h28 h29
theorem md_ilt_5 {b : Nat → Int} {N : Nat} {Q : Int → Mem → Prop} : ∀ (m n x : Nat) (τ : Mem), bfM τ b N → τ 0 28 = x → x + m = N → m < n → (∀ k, k < x → b k = 32) → (∀ (s : Nat) (τ' : Mem), stP b N s → Fr FI τ τ' → τ' 0 28 = s → Ex (Md_isLineText_51 100000 (upM τ' 0 29 N)) Q) → Ex (Md_isLineText_5 n τ) Q := by
  intro m
  induction m with
  | zero =>
    intro n x τ hB h28 hx hn hb kk
    obtain ⟨n, rfl⟩ : ∃ z, n = z + 1 := ⟨n - 1, by omega⟩
    show Ex (Md_isLineText_5b (Md_isLineText_5 n) τ) _
    unfold Md_isLineText_5b
    have h2 := hB.2.1
    rw [h28, hB.1, wr_id (n := (x : Int)) (by omega) (by omega), wr_id (n := (N : Int)) (by omega) (by omega), if_neg (by omega)]
    exact Ex.lt (kk x τ ⟨by omega, hb, fun z => by omega⟩ Fr.rf h28)
  | succ m ih =>
    intro n x τ hB h28 hx hn hb kk
    obtain ⟨n, rfl⟩ : ∃ z, n = z + 1 := ⟨n - 1, by omega⟩
    show Ex (Md_isLineText_5b (Md_isLineText_5 n) τ) _
    unfold Md_isLineText_5b
    have h2 := hB.2.1
    have hx3 := hB.2.2 x (by omega)
    rw [h28, hB.1, wr_id (n := (x : Int)) (by omega) (by omega), wr_id (n := (N : Int)) (by omega) (by omega), if_pos (by omega), if_pos (by omega), show ((x : Int)).toNat = x by omega, hx3.1, wr_id (n := b x) (by omega) (by omega)]
    by_cases q : b x = 32
    · rw [if_pos q, show (x : Int) + 1 = ((x + 1 : Nat) : Int) by omega]
      refine Ex.lt (ih n (x + 1) (upM τ 0 28 ((x + 1 : Nat) : Int)) (bfM_fr (Fr.up Fr.rf (by unfold FI; omega)) hB) (by simp [upM]) (by omega) (by omega) (fun k hk => ?_) (fun s τ' z1 z2 z3 => kk s τ' z1 ((Fr.up Fr.rf (by unfold FI; omega)).tr z2) z3))
      by_cases e : k = x
      · subst e; exact q
      · exact hb k (by omega)
    · rw [if_neg q]
      exact Ex.lt (kk x τ ⟨by omega, hb, fun _ => q⟩ Fr.rf h28)
/-- whether a text is a line -/
def okL (s e : Nat) : Prop := e = s ∨ (s ≤ 40 ∧ e - s ≤ 32)
theorem md_isLineText {b : Nat → Int} {N : Nat} (hB : bfM τ b N) : ∃ (s e : Nat) (r : Int) (τ' : Mem), Md_isLineText τ = some (r, τ') ∧ stP b N s ∧ enP b N s e ∧ Fr FI τ τ' ∧ τ' 0 28 = s ∧ τ' 0 29 = e ∧ (okL s e → r = 1) ∧ (¬ okL s e → r = 0) := by
  have key : Ex (Md_isLineText τ) (fun r τ' => ∃ s e : Nat, stP b N s ∧ enP b N s e ∧ Fr FI τ τ' ∧ τ' 0 28 = s ∧ τ' 0 29 = e ∧ (okL s e → r = 1) ∧ (¬ okL s e → r = 0)) := by
    unfold Md_isLineText
    have h2 := hB.2.1
    refine Ex.lt (md_ilt_5 N 100000 0 (upM τ 0 28 0) (bfM_fr (Fr.up Fr.rf (by unfold FI; omega)) hB) (by simp [upM]) (by omega) (by omega) (fun k hk => by omega) (fun s τ1 hs hF1 e1 => ?_))
    refine md_ilt_51 N 100000 (upM τ1 0 29 N) (bfM_fr (Fr.up ((Fr.up Fr.rf (by unfold FI; omega)).tr hF1) (by unfold FI; omega)) hB) (by simp [upM, e1]) (by simp [upM]) hs.1 (by omega) (by omega) (fun k hk hk2 => by omega) (fun e τ2 he hF2 e2 e3 => ?_)
    have hF : Fr FI τ τ2 := (Fr.up ((Fr.up Fr.rf (by unfold FI; omega)).tr hF1) (by unfold FI; omega)).tr hF2
    obtain ⟨x1, x2, x3, x4⟩ := he
    unfold Md_isLineText_91
    rw [e2, e3, wr_id (n := (s : Int)) (by omega) (by omega), wr_id (n := (e : Int)) (by omega) (by omega), wr_id (n := (e : Int) - (s : Int)) (by omega) (by omega)]
    by_cases q1 : e = s
    · rw [if_pos (by omega)]
      exact Ex.ret ⟨s, e, hs, ⟨x1, x2, x3, x4⟩, hF, e2, e3, fun _ => rfl, fun z => absurd (Or.inl q1) z⟩
    · rw [if_neg (by omega)]
      by_cases q2 : s ≤ 40
      · rw [if_neg (by omega)]
        by_cases q3 : e - s ≤ 32
        · rw [if_neg (by omega)]
          exact Ex.ret ⟨s, e, hs, ⟨x1, x2, x3, x4⟩, hF, e2, e3, fun _ => rfl, fun z => absurd (Or.inr ⟨q2, q3⟩) z⟩
        · rw [if_pos (by omega)]
          exact Ex.ret ⟨s, e, hs, ⟨x1, x2, x3, x4⟩, hF, e2, e3, fun z => by unfold okL at z; omega, fun z => rfl⟩
      · rw [if_pos (by omega)]
        exact Ex.ret ⟨s, e, hs, ⟨x1, x2, x3, x4⟩, hF, e2, e3, fun z => by unfold okL at z; omega, fun z => rfl⟩
  obtain ⟨r, τ', e1, s, e, k⟩ := key
  exact ⟨s, e, r, τ', e1, k⟩
theorem buf_isLine {b : Nat → Int} {N s e : Nat} (hB : bfC σ b N) (hs : stP b N s) (he : enP b N s e) : ∃ r : Int, Buf_isLine σ = some (r, σ) ∧ (okL s e → r = 1) ∧ (¬ okL s e → r = 0) := by
  obtain ⟨s', e1, hs'⟩ := buf_contentStart hB
  obtain ⟨c, e2, he'⟩ := buf_contentEnd hB
  have := stP_u hs hs'
  subst this
  have hu := enP_u hs he' he
  have h2 := hB.2.1
  have hs1 := hs.1
  have he1 := he'.2.1
  unfold Buf_isLine
  rw [e1]
  simp only [Option.bind_some]
  rw [hB.1, wr_id (n := (s : Int)) (by omega) (by omega), wr_id (n := (N : Int)) (by omega) (by omega)]
  by_cases q : s = N
  · have := hu.2 q
    rw [if_pos (by omega)]
    exact ⟨1, rfl, fun _ => rfl, fun z => absurd (Or.inl (by omega)) z⟩
  · have := hu.1 (by omega)
    rw [if_neg (by omega)]
    by_cases q2 : s ≤ 40
    · rw [if_neg (by omega), e2]
      simp only [Option.bind_some]
      rw [wr_id (n := (c : Int) - (s : Int)) (by omega) (by omega)]
      by_cases q3 : e - s ≤ 32
      · rw [if_neg (by omega)]
        exact ⟨1, rfl, fun _ => rfl, fun z => absurd (Or.inr ⟨q2, q3⟩) z⟩
      · rw [if_pos (by omega)]
        exact ⟨0, rfl, fun z => by unfold okL at z; omega, fun _ => rfl⟩
    · rw [if_pos (by omega)]
      exact ⟨0, rfl, fun z => by unfold okL at z; omega, fun _ => rfl⟩
theorem lin_append {i L : Nat} (hi : i < 20) (hL : σ 6 i = L) (hL2 : L < 32) {v : Int} : Lin_append i v σ = some (0, upM (upM σ 10 (32 * i + L) v) 6 i ((L + 1 : Nat) : Int)) := by
  unfold Lin_append
  rw [rg_5 (by omega) (by omega)]
  simp only [Option.bind_some]
  rw [show ((i : Int)).toNat = i by omega, hL, wr_id (n := (L : Int)) (by omega) (by omega), if_neg (by omega), if_pos (by omega), rs_9 (by omega) (by omega)]
  simp only [Option.bind_some]
  rw [rs_5 (by omega) (by omega)]
  simp only [Option.bind_some]
  rw [show ((i : Int) * 32 + (L : Int)).toNat = 32 * i + L by omega, show ((i : Int)).toNat = i by omega, show (L : Int) + 1 = ((L + 1 : Nat) : Int) by omega]
theorem buf_wl_44 {i E : Nat} (hi : i < 20) (hE : E ≤ 72) : ∀ (m n x L : Nat) (σ : Mem), x + m = E → L + m ≤ 32 → m < n → σ 6 i = L → Ex (Buf_writeLine_44 n i E x σ) (fun _ σ' => Fr (fun o k => (o = 6 ∧ k = i) ∨ (o = 10 ∧ 32 * i + L ≤ k ∧ k < 32 * i + 32)) σ σ' ∧ σ' 6 i = ((L + m : Nat) : Int) ∧ ∀ j, j < m → σ' 10 (32 * i + (L + j)) = σ 28 (x + j)) := by
  intro m
  induction m with
  | zero =>
    intro n x L σ hx hL hn h6
    obtain ⟨n, rfl⟩ : ∃ z, n = z + 1 := ⟨n - 1, by omega⟩
    show Ex (Buf_writeLine_44b (Buf_writeLine_44 n) i E x σ) _
    unfold Buf_writeLine_44b
    rw [wr_id (n := (x : Int)) (by omega) (by omega), wr_id (n := (E : Int)) (by omega) (by omega), if_neg (by omega)]
    exact Ex.ret ⟨Fr.rf, h6, fun j hj => by omega⟩
  | succ m ih =>
    intro n x L σ hx hL hn h6
    obtain ⟨n, rfl⟩ : ∃ z, n = z + 1 := ⟨n - 1, by omega⟩
    show Ex (Buf_writeLine_44b (Buf_writeLine_44 n) i E x σ) _
    unfold Buf_writeLine_44b
    rw [wr_id (n := (x : Int)) (by omega) (by omega), wr_id (n := (E : Int)) (by omega) (by omega), if_pos (by omega), rg_27 (by omega) (by omega)]
    simp only [Option.bind_some]
    rw [show ((x : Int)).toNat = x by omega, lin_append hi h6 (by omega)]
    simp only [Option.bind_some]
    have := ih n (x + 1) (L + 1) (upM (upM σ 10 (32 * i + L) (σ 28 x)) 6 i ((L + 1 : Nat) : Int)) (by omega) (by omega) (by omega) (by simp [upM])
    rw [show (((x + 1 : Nat)) : Int) = (x : Int) + 1 by omega] at this
    refine this.mono (fun _ σ' z => ?_)
    obtain ⟨hf, h1, h2⟩ := z
    refine ⟨fun o k q => ?_, by rw [h1]; congr 1; omega, fun j hj => ?_⟩
    · rw [hf o k (by omega)]
      simp only [upM]
      rw [if_neg (by omega), if_neg (by omega)]
    · by_cases e : j = 0
      · subst e
        rw [hf 10 _ (by omega)]
        simp only [upM]
        rw [if_neg (by omega), if_pos ⟨trivial, by omega⟩, Nat.add_zero]
      · have h3 := h2 (j - 1) (by omega)
        rw [show L + 1 + (j - 1) = L + j by omega, show x + 1 + (j - 1) = x + j by omega] at h3
        rw [h3]
        simp only [upM]
        rw [if_neg (by omega), if_neg (by omega)]
/-- a line is written -/
def wlR (i s e : Nat) (b : Nat → Int) (ind len : Int) (byt : Nat → Int) : Prop := ind = (if e = s then 0 else (s : Int)) ∧ len = ((e - s : Nat) : Int) ∧ ∀ k, k < e - s → byt (32 * i + k) = b (s + k)
theorem buf_writeLine {b : Nat → Int} {N s e i : Nat} (hB : bfC σ b N) (hs : stP b N s) (he : enP b N s e) (hk : okL s e) (hi : i < 20) : Ex (Buf_writeLine i σ) (fun _ σ' => Fr (FLc i) σ σ' ∧ σ' 8 i = σ 8 i ∧ wlR i s e b (σ' 4 i) (σ' 6 i) (σ' 10)) := by
  obtain ⟨s', e1, hs'⟩ := buf_contentStart hB
  have := stP_u hs hs'
  subst this
  have h2 := hB.2.1
  have hs1 := hs.1
  have he1 := he.2.1
  have key : ∀ (v : Int), v = (if e = s then 0 else (s : Int)) → Ex (Buf_writeLine_23 i s v i σ) (fun _ σ' => Fr (FLc i) σ σ' ∧ σ' 8 i = σ 8 i ∧ wlR i s e b (σ' 4 i) (σ' 6 i) (σ' 10)) := by
    intro v hv
    unfold Buf_writeLine_23
    rw [rs_3 (by omega) (by omega)]
    simp only [Option.bind_some]
    rw [rs_5 (by omega) (by omega)]
    simp only [Option.bind_some]
    rw [show ((i : Int)).toNat = i by omega]
    have hB1 : bfC (upM (upM σ 4 i v) 6 i 0) b N := ⟨by simp only [upM]; rw [if_neg (by omega), if_neg (by omega)]; exact hB.1, h2, fun k hk => by simp only [upM]; rw [if_neg (by omega), if_neg (by omega)]; exact hB.2.2 k hk⟩
    obtain ⟨c, e2, he'⟩ := buf_contentEnd hB1
    have hu := enP_u hs he' he
    have hc1 := he'.2.1
    rw [e2]
    simp only [Option.bind_some]
    have fin : ∀ (m : Nat), (c - s = m) → Ex (Buf_writeLine_44 100000 i c s (upM (upM σ 4 i v) 6 i 0)) (fun _ σ' => Fr (FLc i) σ σ' ∧ σ' 8 i = σ 8 i ∧ wlR i s e b (σ' 4 i) (σ' 6 i) (σ' 10)) := by
      intro m hm
      by_cases q : s ≤ c
      · refine (buf_wl_44 hi (E := c) (by omega) m 100000 s 0 (upM (upM σ 4 i v) 6 i 0) (by omega) (by unfold okL at hk; omega) (by omega) (by simp [upM])).mono (fun _ σ' z => ?_)
        obtain ⟨hf, z1, z2⟩ := z
        have kf : ∀ o k, ¬ FLc i o k → σ' o k = σ o k := fun o k q => by
          unfold FLc at q
          rw [hf o k (by omega)]
          simp only [upM]
          rw [if_neg (by omega), if_neg (by omega)]
        refine ⟨kf, ?_, ?_, ?_, fun k hk2 => ?_⟩
        · rw [hf 8 i (by omega)]; simp [upM]
        · rw [hf 4 i (by omega)]; simp only [upM]; rw [if_neg (by omega), if_pos ⟨trivial, trivial⟩]; exact hv
        · rw [z1]; congr 1; omega
        · have := z2 k (by omega)
          rw [Nat.zero_add] at this
          rw [this]
          simp only [upM]
          rw [if_neg (by omega), if_neg (by omega)]
          exact (hB.2.2 (s + k) (by omega)).1
      · show Ex (Buf_writeLine_44b (Buf_writeLine_44 99999) i c s (upM (upM σ 4 i v) 6 i 0)) _
        unfold Buf_writeLine_44b
        rw [wr_id (n := (s : Int)) (by omega) (by omega), wr_id (n := (c : Int)) (by omega) (by omega), if_neg (by omega)]
        have hsN : s = N := Classical.byContradiction (fun z => by have := hu.1 (by omega); omega)
        have := hu.2 hsN
        refine Ex.ret ⟨fun o k q => ?_, by simp [upM], ?_, ?_, fun k hk2 => by omega⟩
        · unfold FLc at q
          simp only [upM]
          rw [if_neg (by omega), if_neg (by omega)]
        · simp only [upM]; rw [if_neg (by omega), if_pos ⟨trivial, trivial⟩]; exact hv
        · simp only [upM]; rw [if_pos ⟨trivial, trivial⟩, show e - s = 0 by omega]; rfl
    exact fin _ rfl
  unfold Buf_writeLine
  rw [e1]
  simp only [Option.bind_some]
  rw [hB.1, wr_id (n := (s : Int)) (by omega) (by omega), wr_id (n := (N : Int)) (by omega) (by omega)]
  obtain ⟨c, e2, he'⟩ := buf_contentEnd hB
  have hu := enP_u hs he' he
  by_cases q : s = N
  · have := hu.2 q
    rw [if_pos (by omega)]
    exact key 0 (by rw [if_pos (by omega)])
  · have := hu.1 (by omega)
    rw [if_neg (by omega)]
    exact key s (by rw [if_neg (by omega)])
theorem md_writes_47 {i s D : Nat} (hi : i < 20) (hD : D ≤ 32) (hsD : s + D ≤ 72) : ∀ (m n k : Nat) (τ : Mem), τ 0 28 = s → τ 0 29 = ((s + D : Nat) : Int) → k + m = D → m < n → Ex (Md_writes_47 n i k τ) (fun _ τ' => Fr (fun o z => o = 1 ∧ 61 + 32 * i + k ≤ z ∧ z < 61 + 32 * i + D) τ τ' ∧ ∀ j, k ≤ j → j < D → τ' 1 (61 + (32 * i + j)) = τ 3 (s + j)) := by
  intro m
  induction m with
  | zero =>
    intro n k τ h28 h29 hk hn
    obtain ⟨n, rfl⟩ : ∃ z, n = z + 1 := ⟨n - 1, by omega⟩
    show Ex (Md_writes_47b (Md_writes_47 n) i k τ) _
    unfold Md_writes_47b
    rw [h28, h29, wr_id (n := (k : Int)) (by omega) (by omega), wr_id (n := ((s + D : Nat) : Int) - (s : Int)) (by omega) (by omega), if_neg (by omega)]
    exact Ex.ret ⟨Fr.rf, fun j h1 h2 => by omega⟩
  | succ m ih =>
    intro n k τ h28 h29 hk hn
    obtain ⟨n, rfl⟩ : ∃ z, n = z + 1 := ⟨n - 1, by omega⟩
    show Ex (Md_writes_47b (Md_writes_47 n) i k τ) _
    unfold Md_writes_47b
    rw [h28, h29, wr_id (n := (k : Int)) (by omega) (by omega), wr_id (n := ((s + D : Nat) : Int) - (s : Int)) (by omega) (by omega), if_pos (by omega), if_pos (inb (by omega) (by omega) (by omega)), if_pos (inb (by omega) (by omega) (by omega)), wrn (n := 61 + (32 * i + k)) (by omega) (by omega), wrn (n := s + k) (by omega) (by omega)]
    refine Ex.lt ?_
    have := ih n (k + 1) (upM τ 1 (61 + (32 * i + k)) (τ 3 (s + k))) (by simp [upM, h28]) (by simp only [upM]; rw [if_neg (by omega)]; exact h29) (by omega) (by omega)
    rw [show (((k + 1 : Nat)) : Int) = (k : Int) + 1 by omega] at this
    refine this.mono (fun _ σ' z => ?_)
    obtain ⟨hf, hv⟩ := z
    refine ⟨fun o z q => ?_, fun j h1 h2 => ?_⟩
    · rw [hf o z (by omega)]
      simp only [upM]
      rw [if_neg (by omega)]
    · by_cases e : j = k
      · subst e
        rw [hf 1 _ (by omega)]
        simp only [upM]
        rw [if_pos ⟨trivial, trivial⟩]
      · rw [hv j (by omega) h2]
        simp only [upM]
        rw [if_neg (by omega)]
theorem md_writes {s e i : Nat} (h28 : τ 0 28 = s) (h29 : τ 0 29 = e) (hse : s ≤ e) (he : e ≤ 72) (hk : okL s e) (hi : i < 20) : Ex (Md_writes i τ) (fun _ τ' => Fr (FLm i) τ τ' ∧ τ' 1 (41 + i) = τ 1 (41 + i) ∧ wlR i s e (τ 3) (τ' 1 (1 + i)) (τ' 1 (21 + i)) (fun k => τ' 1 (61 + k))) := by
  obtain ⟨D, rfl⟩ : ∃ z, e = s + z := ⟨e - s, by omega⟩
  have hD : D ≤ 32 := by unfold okL at hk; omega
  have key : ∀ (v : Int), v = (if s + D = s then 0 else (s : Int)) → Ex (Md_writes_47 100000 i 0 (upM (upM τ 1 (21 + i) ((s + D : Nat) - (s : Int))) 1 (1 + i) v)) (fun _ τ' => Fr (FLm i) τ τ' ∧ τ' 1 (41 + i) = τ 1 (41 + i) ∧ wlR i s (s + D) (τ 3) (τ' 1 (1 + i)) (τ' 1 (21 + i)) (fun k => τ' 1 (61 + k))) := by
    intro v hv
    refine (md_writes_47 hi hD he D 100000 0 (upM (upM τ 1 (21 + i) ((s + D : Nat) - (s : Int))) 1 (1 + i) v) (by simp [upM, h28]) (by simp only [upM]; rw [if_neg (by omega), if_neg (by omega)]; exact h29) (by omega) (by omega)).mono (fun _ τ' z => ?_)
    obtain ⟨hf, hv2⟩ := z
    refine ⟨fun o k q => ?_, ?_, ?_, ?_, fun k hk2 => ?_⟩
    · unfold FLm at q
      rw [hf o k (by omega)]
      simp only [upM]
      rw [if_neg (by omega), if_neg (by omega)]
    · rw [hf 1 _ (by omega)]; simp only [upM]; rw [if_neg (by omega), if_neg (by omega)]
    · rw [hf 1 _ (by omega)]; simp only [upM]; rw [if_pos ⟨trivial, trivial⟩]; exact hv
    · rw [hf 1 _ (by omega)]; simp only [upM]; rw [if_neg (by omega), if_pos ⟨trivial, trivial⟩]; omega
    · show τ' 1 (61 + (32 * i + k)) = _
      rw [hv2 k (by omega) (by omega)]
      simp only [upM]
      rw [if_neg (by omega), if_neg (by omega)]
  unfold Md_writes
  rw [if_pos (inb (by omega) (by omega) (by omega)), wrn (n := 21 + i) (by omega) (by omega), h28, h29]
  refine Ex.lt ?_
  have e28 : upM τ 1 (21 + i) ((s + D : Nat) - (s : Int)) 0 28 = s := by simp [upM, h28]
  have e29 : upM τ 1 (21 + i) ((s + D : Nat) - (s : Int)) 0 29 = ((s + D : Nat) : Int) := by simp only [upM]; rw [if_neg (by omega)]; exact h29
  rw [e28, e29, wr_id (n := ((s + D : Nat) : Int)) (by omega) (by omega), wr_id (n := (s : Int)) (by omega) (by omega), if_pos (inb (by omega) (by omega) (by omega)), wrn (n := 1 + i) (by omega) (by omega)]
  by_cases q : D = 0
  · rw [if_pos (by omega)]
    exact Ex.lt (key 0 (by rw [if_pos (by omega)]))
  · rw [if_neg (by omega), if_pos (inb (by omega) (by omega) (by omega))]
    exact Ex.lt (key s (by rw [if_neg (by omega)]))
theorem wl_lnR {σ' τ' : Mem} {b : Nat → Int} {N s e i : Nat} (hb : ∀ k, k < N → 32 ≤ b k ∧ b k ≤ 126) (hs : stP b N s) (he : enP b N s e) (hk : okL s e) (h1 : wlR i s e b (σ' 4 i) (σ' 6 i) (σ' 10)) (h2 : wlR i s e b (τ' 1 (1 + i)) (τ' 1 (21 + i)) (fun k => τ' 1 (61 + k))) (hp : τ' 1 (41 + i) = σ' 8 i) (hp2 : σ' 8 i = 0 ∨ σ' 8 i = 1) : lnR σ' τ' i := by
  obtain ⟨a1, a2, a3⟩ := h1
  obtain ⟨b1, b2, b3⟩ := h2
  obtain ⟨s1, s2, s3⟩ := hs
  obtain ⟨x1, x2, x3, x4⟩ := he
  have hsN : s < e → s < N := fun z => by omega
  refine ⟨by rw [a1, b1], by rw [a2, b2], hp, fun k hk2 => ?_, ?_, ?_, hp2, ?_, fun z => ?_, fun k hk2 => ?_⟩
  · rw [a2] at hk2
    have := b3 k (by omega)
    rw [show τ' 1 (61 + (32 * i + k)) = b (s + k) from this, a3 k (by omega)]
  · rw [a1]
    unfold okL at hk
    split <;> omega
  · rw [a2]
    unfold okL at hk
    omega
  · intro z
    rw [a2] at z
    rw [a1, if_pos (by omega)]
  · rw [a2] at z
    rw [a2]
    show σ' 10 (32 * i + 0) ≠ 32 ∧ σ' 10 (32 * i + (((e - s : Nat) : Int) - 1).toNat) ≠ 32
    rw [a3 0 (by omega), show (((e - s : Nat) : Int) - 1).toNat = e - s - 1 by omega, a3 (e - s - 1) (by omega), show s + (e - s - 1) = e - 1 by omega, Nat.add_zero]
    exact ⟨s3 (hsN (by omega)), x4 (by omega)⟩
  · rw [a2] at hk2
    show 32 ≤ σ' 10 (32 * i + k) ∧ σ' 10 (32 * i + k) ≤ 126
    rw [a3 k (by omega)]
    exact hb _ (by omega)
end BU
