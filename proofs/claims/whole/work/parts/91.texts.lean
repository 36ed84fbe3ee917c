/-! ===== the texts of a rule are read ===== -/
section TX
variable {σ τ : Mem}
def nxP (b : Nat → Int) (N p s : Nat) : Prop := p ≤ s ∧ s ≤ N ∧ (∀ j, p ≤ j → j < s → b j = 32) ∧ (s < N → b s ≠ 32)
def weP (b : Nat → Int) (N s e : Nat) : Prop := s < e ∧ e ≤ N ∧ (isW (b s) → (∀ j, s ≤ j → j < e → isW (b j)) ∧ (e < N → ¬ isW (b e))) ∧ (¬ isW (b s) → e = s + 1)
theorem nx_ex {b : Nat → Int} {N : Nat} : ∀ (d p : Nat), p + d = N → ∃ s, nxP b N p s
  | 0, p, h => ⟨p, by omega, by omega, fun j h1 h2 => by omega, fun z => by omega⟩
  | d + 1, p, h => by
    by_cases q : b p = 32
    · obtain ⟨s, h1, h2, h3, h4⟩ := nx_ex (b := b) (N := N) d (p + 1) (by omega)
      refine ⟨s, by omega, h2, fun j h5 h6 => ?_, h4⟩
      by_cases e : j = p
      · subst e; exact q
      · exact h3 j (by omega) h6
    · exact ⟨p, by omega, by omega, fun j h1 h2 => by omega, fun _ => q⟩
theorem we_run {b : Nat → Int} {N s : Nat} : ∀ (d x : Nat), x + d = N → s ≤ x → (∀ j, s ≤ j → j < x → isW (b j)) → ∃ e, x ≤ e ∧ e ≤ N ∧ (∀ j, s ≤ j → j < e → isW (b j)) ∧ (e < N → ¬ isW (b e))
  | 0, x, h, h0, h1 => ⟨x, by omega, by omega, h1, fun z => by omega⟩
  | d + 1, x, h, h0, h1 => by
    by_cases q : isW (b x)
    · obtain ⟨e, a1, a2, a3, a4⟩ := we_run (b := b) (N := N) (s := s) d (x + 1) (by omega) (by omega) (fun j h2 h3 => by
        by_cases e : j = x
        · subst e; exact q
        · exact h1 j h2 (by omega))
      exact ⟨e, by omega, a2, a3, a4⟩
    · exact ⟨x, by omega, by omega, h1, fun _ => q⟩
theorem we_ex {b : Nat → Int} {N s : Nat} (hs : s < N) : ∃ e, weP b N s e := by
  by_cases q : isW (b s)
  · obtain ⟨e, a1, a2, a3, a4⟩ := we_run (b := b) (N := N) (s := s) (N - (s + 1)) (s + 1) (by omega) (by omega) (fun j h1 h2 => by
      have : j = s := by omega
      subst this; exact q)
    exact ⟨e, by omega, a2, fun _ => ⟨a3, a4⟩, fun z => absurd q z⟩
  · exact ⟨s + 1, by omega, by omega, fun z => absurd z q, fun _ => rfl⟩
theorem buf_byteR {b : Nat → Int} {N k : Nat} (hB : bfC σ b N) (hk : k < N) : Buf_byteOf k σ = some (b k, σ) := by
  have h2 := hB.2.1
  unfold Buf_byteOf
  rw [hB.1, wr_id (n := (k : Int)) (by omega) (by omega), wr_id (n := (N : Int)) (by omega) (by omega), if_neg (by omega), if_pos (by omega), rg_27 (by omega) (by omega)]
  simp only [Option.bind_some]
  rw [show ((k : Int)).toNat = k by omega, (hB.2.2 k hk).1]
theorem mmax_r {a b : Nat} (ha : a ≤ 1000) (hb : b ≤ 1000) : mmaxI (a : Int) (b : Int) = ((if a < b then b else a : Nat) : Int) := by
  unfold mmaxI
  rw [wr_id (n := (a : Int)) (by omega) (by omega), wr_id (n := (b : Int)) (by omega) (by omega)]
  by_cases q : a < b
  · rw [if_pos (by omega), if_pos q]
  · rw [if_neg (by omega), if_neg q]
theorem tex_te_2 {b : Nat → Int} {N s e : Nat} (hB : bfC σ b N) (hse : s < e) (heN : e ≤ N) (hend : e < N → ¬ isW (b e)) : ∀ (d n x : Nat), x + d = e → (∀ j, x ≤ j → j < e → isW (b j)) → d < n → Tex_textEnd_2 n s x σ = some ((e : Int), σ) := by
  have h2 := hB.2.1
  intro d
  induction d with
  | zero =>
    intro n x hx hw hn
    obtain ⟨n, rfl⟩ : ∃ z, n = z + 1 := ⟨n - 1, by omega⟩
    have hxe : x = e := by omega
    subst hxe
    have hm : mmaxI (x : Int) ((s : Int) + 1) = x := by
      rw [show (s : Int) + 1 = ((s + 1 : Nat) : Int) by omega, mmax_r (by omega) (by omega), if_neg (by omega)]
    show Tex_textEnd_2b (Tex_textEnd_2 n) s x σ = _
    unfold Tex_textEnd_2b
    rw [hB.1, wr_id (n := (x : Int)) (by omega) (by omega), wr_id (n := (N : Int)) (by omega) (by omega), hm]
    by_cases q : x < N
    · have hb := hB.2.2 x q
      rw [if_pos (by omega), buf_byteR hB q]
      simp only [Option.bind_some]
      rw [ai_isWordByte (b x) σ (wr_id (by omega) (by omega)), if_neg (hend q)]
      simp only [Option.bind_some]
      rw [wr_0, if_pos rfl]
    · rw [if_neg (by omega)]
  | succ d ih =>
    intro n x hx hw hn
    obtain ⟨n, rfl⟩ : ∃ z, n = z + 1 := ⟨n - 1, by omega⟩
    have hb := hB.2.2 x (by omega)
    show Tex_textEnd_2b (Tex_textEnd_2 n) s x σ = _
    unfold Tex_textEnd_2b
    rw [hB.1, wr_id (n := (x : Int)) (by omega) (by omega), wr_id (n := (N : Int)) (by omega) (by omega), if_pos (by omega), buf_byteR hB (by omega)]
    simp only [Option.bind_some]
    rw [ai_isWordByte (b x) σ (wr_id (by omega) (by omega)), if_pos (hw x (by omega) (by omega))]
    simp only [Option.bind_some]
    rw [wr_1, if_neg n10, show (x : Int) + 1 = ((x + 1 : Nat) : Int) by omega]
    exact ih n (x + 1) (by omega) (fun j h3 h4 => hw j (by omega) h4) (by omega)
theorem tex_te {b : Nat → Int} {N s e : Nat} (hB : bfC σ b N) (hs : s < N) (he : weP b N s e) : Tex_textEnd s σ = some ((e : Int), σ) := by
  have h2 := hB.2.1
  obtain ⟨e1, e2, e3, e4⟩ := he
  by_cases q : isW (b s)
  · exact tex_te_2 hB e1 e2 (e3 q).2 (e - s) 100000 s (by omega) (fun j h3 h4 => (e3 q).1 j h3 h4) (by omega)
  · have := e4 q
    subst this
    have hb := hB.2.2 s hs
    show Tex_textEnd_2b (Tex_textEnd_2 99999) s s σ = _
    unfold Tex_textEnd_2b
    rw [hB.1, wr_id (n := (s : Int)) (by omega) (by omega), wr_id (n := (N : Int)) (by omega) (by omega), if_pos (by omega), buf_byteR hB hs]
    simp only [Option.bind_some]
    rw [ai_isWordByte (b s) σ (wr_id (by omega) (by omega)), if_neg q]
    simp only [Option.bind_some]
    rw [wr_0, if_pos rfl, show (s : Int) + 1 = ((s + 1 : Nat) : Int) by omega, mmax_r (by omega) (by omega), if_pos (by omega)]
theorem tex_skip {b : Nat → Int} {N s x3 : Nat} {due : Int} (hB : bfC σ b N) (hs : s ≤ N) : ∀ (d n p : Nat), p + d = s → (∀ j, p ≤ j → j < s → b j = 32) → x3 ≤ p → Tex_find_10 (n + d) due x3 p σ = Tex_find_10 n due x3 s σ := by
  have h2 := hB.2.1
  intro d
  induction d with
  | zero => intro n p hp _ _; rw [show p = s by omega]; rfl
  | succ d ih =>
    intro n p hp hb hx
    show Tex_find_10b (Tex_find_10 (n + d)) due x3 p σ = _
    unfold Tex_find_10b
    rw [hB.1, wr_id (n := (p : Int)) (by omega) (by omega), wr_id (n := (N : Int)) (by omega) (by omega), if_pos (by omega), buf_byteR hB (by omega)]
    simp only [Option.bind_some]
    rw [hb p (by omega) (by omega), show wr 32 = 32 from by decide, if_pos rfl, show (p : Int) + 1 = ((p + 1 : Nat) : Int) by omega, mmax_r (by omega) (by omega), if_neg (by omega)]
    exact ih n (p + 1) (by omega) (fun j h3 h4 => hb j (by omega) h4) (by omega)
def FTx (o _k : Nat) : Prop := o = 29 ∨ o = 31 ∨ o = 33
def FTm (o k : Nat) : Prop := (o = 0 ∧ k = 32) ∨ o = 17 ∨ o = 18
theorem bfM_tx {τ' : Mem} {b : Nat → Int} {N : Nat} (h : Fr FTm τ τ') (hB : bfM τ b N) : bfM τ' b N := by
  obtain ⟨h1, h2, h3⟩ := hB
  exact ⟨by rw [h 0 4 (by unfold FTm; omega)]; exact h1, h2, fun k hk => by rw [h 3 k (by unfold FTm; omega)]; exact h3 k hk⟩
theorem md_skip {b : Nat → Int} {N s : Nat} : ∀ (d n p : Nat) (τ : Mem), bfM τ b N → τ 0 32 = p → p + d = s → s ≤ N → (∀ j, p ≤ j → j < s → b j = 32) → (s < N → b s ≠ 32) → d < n → ∃ τ', Md_skips_0 n τ = some (0, τ') ∧ Fr (fun o k => o = 0 ∧ k = 32) τ τ' ∧ τ' 0 32 = s := by
  intro d
  induction d with
  | zero =>
    intro n p τ hB hp hps hsN hb hs hn
    obtain ⟨n, rfl⟩ : ∃ z, n = z + 1 := ⟨n - 1, by omega⟩
    have h2 := hB.2.1
    have hpe : p = s := by omega
    subst hpe
    show ∃ τ', Md_skips_0b (Md_skips_0 n) τ = _ ∧ _
    unfold Md_skips_0b
    rw [hp, hB.1, wr_id (n := (p : Int)) (by omega) (by omega), wr_id (n := (N : Int)) (by omega) (by omega)]
    by_cases q : p < N
    · have h3 := hB.2.2 p q
      rw [if_pos (by omega), if_pos (by omega), show ((p : Int)).toNat = p by omega, h3.1, wr_id (n := b p) (by omega) (by omega), if_neg (hs q)]
      exact ⟨τ, rfl, Fr.rf, hp⟩
    · rw [if_neg (by omega)]
      exact ⟨τ, rfl, Fr.rf, hp⟩
  | succ d ih =>
    intro n p τ hB hp hps hsN hb hs hn
    obtain ⟨n, rfl⟩ : ∃ z, n = z + 1 := ⟨n - 1, by omega⟩
    have h2 := hB.2.1
    have h3 := hB.2.2 p (by omega)
    show ∃ τ', Md_skips_0b (Md_skips_0 n) τ = _ ∧ _
    unfold Md_skips_0b
    rw [hp, hB.1, wr_id (n := (p : Int)) (by omega) (by omega), wr_id (n := (N : Int)) (by omega) (by omega), if_pos (by omega), if_pos (by omega), show ((p : Int)).toNat = p by omega, h3.1, hb p (by omega) (by omega), show wr 32 = 32 from by decide, if_pos rfl, show (p : Int) + 1 = ((p + 1 : Nat) : Int) by omega]
    obtain ⟨τ', e1, e2, e3⟩ := ih n (p + 1) (upM τ 0 32 ((p + 1 : Nat) : Int)) (bfM_tx (Fr.up Fr.rf (by unfold FTm; omega)) hB) (by simp [upM]) (by omega) hsN (fun j h4 h5 => hb j (by omega) h5) hs (by omega)
    exact ⟨τ', e1, Fr.tr (F := fun o k => o = 0 ∧ k = 32) (Fr.up Fr.rf ⟨rfl, rfl⟩) e2, e3⟩
theorem md_skips {b : Nat → Int} {N p s : Nat} (hB : bfM τ b N) (hp : τ 0 32 = p) (hs : nxP b N p s) : ∃ τ', Md_skips τ = some (0, τ') ∧ Fr (fun o k => o = 0 ∧ k = 32) τ τ' ∧ τ' 0 32 = s := by
  have h2 := hB.2.1
  obtain ⟨s1, s2, s3, s4⟩ := hs
  exact md_skip (s - p) 100000 p τ hB hp (by omega) s2 s3 s4 (by omega)
/-- a text is read to its end, or to its ninth byte -/
theorem md_ro_67 {b : Nat → Int} {N s e w : Nat} (hw : w < 2) (hse : s < e) (heN : e ≤ N) (hwd : ∀ j, s ≤ j → j < e → isW (b j)) (hend : e < N → ¬ isW (b e)) : ∀ (d n x : Nat) (τ : Mem), bfM τ b N → τ 0 32 = x → τ 17 w = s → s < x → x ≤ e → x ≤ s + 8 → (x + d = e ∨ x + d = s + 8) → d < n → ∃ τ', Md_readsOne_67 n w 1 τ = some (if e - s ≤ 8 then -9 else ((s + 8 : Nat) : Int), τ') ∧ Fr (fun o k => (o = 0 ∧ k = 32) ∨ (o = 18 ∧ k = w)) τ τ' ∧ (e - s ≤ 8 → τ' 18 w = e ∧ τ' 0 32 = e) := by
  intro d
  induction d with
  | zero =>
    intro n x τ hB hx h17 hsx hxe hx8 hd hn
    obtain ⟨n, rfl⟩ : ∃ z, n = z + 1 := ⟨n - 1, by omega⟩
    have h2 := hB.2.1
    show ∃ τ', Md_readsOne_67b (Md_readsOne_67 n) w 1 τ = _ ∧ _
    unfold Md_readsOne_67b
    rw [wr_1, if_neg n10, hx, hB.1, wr_id (n := (x : Int)) (by omega) (by omega), wr_id (n := (N : Int)) (by omega) (by omega)]
    by_cases q : x < e
    · have h3 := hB.2.2 x (by omega)
      rw [if_pos (by omega), if_pos (by omega), show ((x : Int)).toNat = x by omega, h3.1, md_isWord (b x) τ (wr_id (by omega) (by omega)), if_pos (hwd x (by omega) q)]
      simp only [Option.bind_some]
      rw [wr_1, if_neg n10, if_pos (inb (by omega) (by omega) (by omega)), wrn (a := (w : Int)) rfl (by omega), h17, hx, wr_id (n := (x : Int) - (s : Int)) (by omega) (by omega), if_pos (by omega), if_neg (by omega), show x = s + 8 by omega]
      exact ⟨τ, rfl, Fr.rf, fun z => by omega⟩
    · have hxe2 : x = e := by omega
      subst hxe2
      have fin : ∃ τ', some ((-9 : Int), upM τ 18 w (x : Int)) = some (if x - s ≤ 8 then -9 else ((s + 8 : Nat) : Int), τ') ∧ Fr (fun o k => (o = 0 ∧ k = 32) ∨ (o = 18 ∧ k = w)) τ τ' ∧ (x - s ≤ 8 → τ' 18 w = x ∧ τ' 0 32 = x) := ⟨upM τ 18 w (x : Int), by rw [if_pos (by omega)], Fr.up Fr.rf (by omega), fun _ => ⟨by simp [upM], by simp [upM, hx]⟩⟩
      by_cases q2 : x < N
      · have h3 := hB.2.2 x q2
        rw [if_pos (by omega), if_pos (by omega), show ((x : Int)).toNat = x by omega, h3.1, md_isWord (b x) τ (wr_id (by omega) (by omega)), if_neg (hend q2)]
        simp only [Option.bind_some]
        rw [wr_0, if_pos rfl, if_pos (inb (by omega) (by omega) (by omega)), wrn (a := (w : Int)) rfl (by omega), hx]
        exact fin
      · rw [if_neg (by omega), if_pos (inb (by omega) (by omega) (by omega)), wrn (a := (w : Int)) rfl (by omega)]
        exact fin
  | succ d ih =>
    intro n x τ hB hx h17 hsx hxe hx8 hd hn
    obtain ⟨n, rfl⟩ : ∃ z, n = z + 1 := ⟨n - 1, by omega⟩
    have h2 := hB.2.1
    by_cases q : x < e ∧ x < s + 8
    · have h3 := hB.2.2 x (by omega)
      show ∃ τ', Md_readsOne_67b (Md_readsOne_67 n) w 1 τ = _ ∧ _
      unfold Md_readsOne_67b
      rw [wr_1, if_neg n10, hx, hB.1, wr_id (n := (x : Int)) (by omega) (by omega), wr_id (n := (N : Int)) (by omega) (by omega), if_pos (by omega), if_pos (by omega), show ((x : Int)).toNat = x by omega, h3.1, md_isWord (b x) τ (wr_id (by omega) (by omega)), if_pos (hwd x (by omega) q.1)]
      simp only [Option.bind_some]
      rw [wr_1, if_neg n10, if_pos (inb (by omega) (by omega) (by omega)), wrn (a := (w : Int)) rfl (by omega), h17, hx, wr_id (n := (x : Int) - (s : Int)) (by omega) (by omega), if_neg (by omega), show (x : Int) + 1 = ((x + 1 : Nat) : Int) by omega]
      obtain ⟨τ', e1, e2, e3⟩ := ih n (x + 1) (upM τ 0 32 ((x + 1 : Nat) : Int)) (bfM_tx (Fr.up Fr.rf (by unfold FTm; omega)) hB) (by simp [upM]) (by simp [upM, h17]) (by omega) (by omega) (by omega) (by omega) (by omega)
      exact ⟨τ', e1, Fr.tr (F := fun o k => (o = 0 ∧ k = 32) ∨ (o = 18 ∧ k = w)) (Fr.up Fr.rf (Or.inl ⟨rfl, rfl⟩)) e2, e3⟩
    · show ∃ τ', Md_readsOne_67b (Md_readsOne_67 n) w 1 τ = _ ∧ _
      unfold Md_readsOne_67b
      rw [wr_1, if_neg n10, hx, hB.1, wr_id (n := (x : Int)) (by omega) (by omega), wr_id (n := (N : Int)) (by omega) (by omega)]
      by_cases q3 : x < e
      · have h3 := hB.2.2 x (by omega)
        rw [if_pos (by omega), if_pos (by omega), show ((x : Int)).toNat = x by omega, h3.1, md_isWord (b x) τ (wr_id (by omega) (by omega)), if_pos (hwd x (by omega) q3)]
        simp only [Option.bind_some]
        rw [wr_1, if_neg n10, if_pos (inb (by omega) (by omega) (by omega)), wrn (a := (w : Int)) rfl (by omega), h17, hx, wr_id (n := (x : Int) - (s : Int)) (by omega) (by omega), if_pos (by omega), if_neg (by omega), show x = s + 8 by omega]
        exact ⟨τ, rfl, Fr.rf, fun z => by omega⟩
      · have hxe2 : x = e := by omega
        subst hxe2
        have fin : ∃ τ', some ((-9 : Int), upM τ 18 w (x : Int)) = some (if x - s ≤ 8 then -9 else ((s + 8 : Nat) : Int), τ') ∧ Fr (fun o k => (o = 0 ∧ k = 32) ∨ (o = 18 ∧ k = w)) τ τ' ∧ (x - s ≤ 8 → τ' 18 w = x ∧ τ' 0 32 = x) := ⟨upM τ 18 w (x : Int), by rw [if_pos (by omega)], Fr.up Fr.rf (by omega), fun _ => ⟨by simp [upM], by simp [upM, hx]⟩⟩
        by_cases q2 : x < N
        · have h3 := hB.2.2 x q2
          rw [if_pos (by omega), if_pos (by omega), show ((x : Int)).toNat = x by omega, h3.1, md_isWord (b x) τ (wr_id (by omega) (by omega)), if_neg (hend q2)]
          simp only [Option.bind_some]
          rw [wr_0, if_pos rfl, if_pos (inb (by omega) (by omega) (by omega)), wrn (a := (w : Int)) rfl (by omega), hx]
          exact fin
        · rw [if_neg (by omega), if_pos (inb (by omega) (by omega) (by omega)), wrn (a := (w : Int)) rfl (by omega)]
          exact fin
end TX
