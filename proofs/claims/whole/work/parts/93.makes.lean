/-! ===== rules are made: pair, starter, joiner ===== -/
section MK
variable {σ τ : Mem}
theorem rul_append {r w L : Nat} (hr : r < 12) (hw : w < 2) (hL : σ 23 (2 * r + w) = L) (hL2 : L < 8) {v : Int} : Rul_appendText r w v σ = some (0, upM (upM σ 25 (16 * r + 8 * w + L) v) 23 (2 * r + w) ((L + 1 : Nat) : Int)) := by
  unfold Rul_appendText
  rw [rg_22 (by omega) (by omega)]
  simp only [Option.bind_some]
  rw [show (2 * (r : Int) + (w : Int)).toNat = 2 * r + w by omega, hL, wr_id (n := (L : Int)) (by omega) (by omega), if_neg (by omega), if_pos (by omega), rs_24 (by omega) (by omega)]
  simp only [Option.bind_some]
  rw [rs_22 (by omega) (by omega)]
  simp only [Option.bind_some]
  rw [show ((2 * (r : Int) + (w : Int)) * 8 + (L : Int)).toNat = 16 * r + 8 * w + L by omega, show (2 * (r : Int) + (w : Int)).toNat = 2 * r + w by omega, show (L : Int) + 1 = ((L + 1 : Nat) : Int) by omega]
def FTw (r w L o k : Nat) : Prop := (o = 23 ∧ k = 2 * r + w) ∨ (o = 25 ∧ 16 * r + 8 * w + L ≤ k ∧ k < 16 * r + 8 * w + 8)
theorem tex_w23 {r w e N : Nat} {b : Nat → Int} (hr : r < 12) (hw : w < 2) (heN : e ≤ N) {r3 : Int → Int → Mem → Option (Int × Mem)} {Q : Int → Mem → Prop} : ∀ (m n x L : Nat) (σ : Mem), bfC σ b N → σ 33 w = e → x + m = e → σ 23 (2 * r + w) = L → L + m ≤ 8 → m < n → (∀ σ', Fr (FTw r w L) σ σ' → σ' 23 (2 * r + w) = ((L + m : Nat) : Int) → (∀ j, j < m → σ' 25 (16 * r + 8 * w + (L + j)) = b (x + j)) → Ex (r3 r ((w : Int) + 1) σ') Q) → Ex (Tex_write_23 r3 n r w x σ) Q := by
  intro m
  induction m with
  | zero =>
    intro n x L σ hB h33 hx h23 hL hn kk
    obtain ⟨n, rfl⟩ : ∃ z, n = z + 1 := ⟨n - 1, by omega⟩
    have hN := hB.2.1
    show Ex (Tex_write_23b r3 (Tex_write_23 r3 n) r w x σ) _
    unfold Tex_write_23b
    rw [rg_32 (by omega) (by omega)]
    simp only [Option.bind_some]
    rw [show ((w : Int)).toNat = w by omega, h33, wr_id (n := (x : Int)) (by omega) (by omega), wr_id (n := (e : Int)) (by omega) (by omega), if_neg (by omega)]
    exact kk σ Fr.rf h23 (fun j hj => by omega)
  | succ m ih =>
    intro n x L σ hB h33 hx h23 hL hn kk
    obtain ⟨n, rfl⟩ : ∃ z, n = z + 1 := ⟨n - 1, by omega⟩
    have hN := hB.2.1
    show Ex (Tex_write_23b r3 (Tex_write_23 r3 n) r w x σ) _
    unfold Tex_write_23b
    rw [rg_32 (by omega) (by omega)]
    simp only [Option.bind_some]
    rw [show ((w : Int)).toNat = w by omega, h33, wr_id (n := (x : Int)) (by omega) (by omega), wr_id (n := (e : Int)) (by omega) (by omega), if_pos (by omega), buf_byteR hB (by omega)]
    simp only [Option.bind_some]
    rw [rul_append hr hw h23 (by omega)]
    simp only [Option.bind_some]
    have hF : Fr (FTw r w L) σ (upM (upM σ 25 (16 * r + 8 * w + L) (b x)) 23 (2 * r + w) ((L + 1 : Nat) : Int)) := Fr.up (Fr.up Fr.rf (by unfold FTw; omega)) (by unfold FTw; omega)
    have := ih n (x + 1) (L + 1) (upM (upM σ 25 (16 * r + 8 * w + L) (b x)) 23 (2 * r + w) ((L + 1 : Nat) : Int)) (bfC_fr hF (fun o k z => by unfold FTw at z; omega) hB) (by rw [hF 33 w (by unfold FTw; omega)]; exact h33) (by omega) (by simp [upM]) (by omega) (by omega) (fun σ' f1 f2 f3 => kk σ' ?_ ?_ ?_)
    · rw [show (((x + 1 : Nat)) : Int) = (x : Int) + 1 by omega] at this
      exact this
    · exact hF.tr (f1.mono (fun o k z => by unfold FTw at *; omega))
    · rw [f2]; congr 1; omega
    · intro j hj
      by_cases e : j = 0
      · subst e
        rw [f1 25 _ (by unfold FTw; omega)]
        simp only [upM]
        rw [if_neg (by omega), if_pos ⟨trivial, by omega⟩, Nat.add_zero]
      · have h3 := f3 (j - 1) (by omega)
        rw [show L + 1 + (j - 1) = L + j by omega, show x + 1 + (j - 1) = x + j by omega] at h3
        exact h3
def wrP (r : Nat) (σ : Mem) (w s e : Nat) (b : Nat → Int) : Prop := σ 23 (2 * r + w) = ((e - s : Nat) : Int) ∧ ∀ k, k < e - s → σ 25 (16 * r + 8 * w + k) = b (s + k)
def FTr (r o k : Nat) : Prop := (o = 23 ∧ (k = 2 * r ∨ k = 2 * r + 1)) ∨ (o = 25 ∧ 16 * r ≤ k ∧ k < 16 * r + 16)
theorem tex_w3 {r N due : Nat} {b : Nat → Int} {P E : Nat → Nat} (hr : r < 12) (hd : due ≤ 2) (hPE : ∀ j, j < due → P j < E j ∧ E j ≤ N ∧ E j - P j ≤ 8) : ∀ (m w n : Nat) (σ : Mem), w + m = due → σ 29 2 = due → bfC σ b N → (∀ j, j < due → σ 31 j = P j ∧ σ 33 j = E j) → (∀ j, w ≤ j → j < due → σ 23 (2 * r + j) = 0) → (∀ j, j < w → wrP r σ j (P j) (E j) b) → m < n → Ex (Tex_write_3 n r w σ) (fun _ σ' => Fr (FTr r) σ σ' ∧ (∀ j, j < due → wrP r σ' j (P j) (E j) b) ∧ ∀ j, due ≤ j → σ' 23 (2 * r + j) = σ 23 (2 * r + j)) := by
  intro m
  induction m with
  | zero =>
    intro w n σ hw h29 hB h31 h0 hdn hn
    obtain ⟨n, rfl⟩ : ∃ z, n = z + 1 := ⟨n - 1, by omega⟩
    show Ex (Tex_write_3b (Tex_write_3 n) r w σ) _
    unfold Tex_write_3b
    rw [h29, wr_id (n := (w : Int)) (by omega) (by omega), wr_id (n := (due : Int)) (by omega) (by omega), if_neg (by omega)]
    exact Ex.ret ⟨Fr.rf, fun j hj => hdn j (by omega), fun j _ => rfl⟩
  | succ m ih =>
    intro w n σ hw h29 hB h31 h0 hdn hn
    obtain ⟨n, rfl⟩ : ∃ z, n = z + 1 := ⟨n - 1, by omega⟩
    have hN := hB.2.1
    have hp := hPE w (by omega)
    show Ex (Tex_write_3b (Tex_write_3 n) r w σ) _
    unfold Tex_write_3b
    rw [h29, wr_id (n := (w : Int)) (by omega) (by omega), wr_id (n := (due : Int)) (by omega) (by omega), if_pos (by omega), rg_30 (by omega) (by omega)]
    simp only [Option.bind_some]
    rw [show ((w : Int)).toNat = w by omega, (h31 w (by omega)).1]
    refine tex_w23 (r := r) (w := w) (e := E w) (N := N) (b := b) hr (by omega) hp.2.1 (E w - P w) 100000 (P w) 0 σ hB (h31 w (by omega)).2 (by omega) (h0 w (by omega) (by omega)) (by omega) (by omega) (fun σ' f1 f2 f3 => ?_)
    rw [show (w : Int) + 1 = ((w + 1 : Nat) : Int) by omega]
    refine (ih (w + 1) n σ' (by omega) (by rw [f1 29 2 (by unfold FTw; omega)]; exact h29) (bfC_fr f1 (fun o k z => by unfold FTw at z; omega) hB) (fun j hj => by rw [f1 31 j (by unfold FTw; omega), f1 33 j (by unfold FTw; omega)]; exact h31 j hj) (fun j h1 h2 => by rw [f1 23 _ (by unfold FTw; omega)]; exact h0 j (by omega) h2) (fun j hj => ?_) (by omega)).mono (fun _ σ'' z => ?_)
    · by_cases e : j = w
      · subst e
        exact ⟨by rw [f2, Nat.zero_add], fun k hk => by have := f3 k hk; rwa [Nat.zero_add] at this⟩
      · have := hdn j (by omega)
        have hpj := hPE j (by omega)
        exact ⟨by rw [f1 23 _ (by unfold FTw; omega)]; exact this.1, fun k hk => by rw [f1 25 _ (by unfold FTw; omega)]; exact this.2 k hk⟩
    · obtain ⟨z1, z2, z3⟩ := z
      refine ⟨(f1.mono (fun o k y => by unfold FTw at y; unfold FTr; omega)).tr z1, z2, fun j hj => ?_⟩
      rw [z3 j hj, f1 23 _ (by unfold FTw; omega)]
theorem md_wt_21 {t w s D : Nat} (ht : t + 9 ≤ 10780) (ht0 : 0 < t) (hw : w < 2) (hD : D ≤ 8) (hs : s + D ≤ 72) : ∀ (m n k : Nat) (τ : Mem), τ 1 t = D → τ 17 w = s → k + m = D → m < n → Ex (Md_writesText_21 n t w k τ) (fun _ τ' => Fr (fun o z => o = 1 ∧ t + 1 + k ≤ z ∧ z < t + 1 + D) τ τ' ∧ ∀ j, k ≤ j → j < D → τ' 1 (t + 1 + j) = τ 3 (s + j)) := by
  intro m
  induction m with
  | zero =>
    intro n k τ h1 h17 hk hn
    obtain ⟨n, rfl⟩ : ∃ z, n = z + 1 := ⟨n - 1, by omega⟩
    show Ex (Md_writesText_21b (Md_writesText_21 n) t w k τ) _
    unfold Md_writesText_21b
    rw [if_pos (inb (by omega) (by omega) (by omega)), wrn (a := (t : Int)) rfl (by omega), h1, wr_id (n := (k : Int)) (by omega) (by omega), wr_id (n := (D : Int)) (by omega) (by omega), if_neg (by omega)]
    exact Ex.ret ⟨Fr.rf, fun j h1 h2 => by omega⟩
  | succ m ih =>
    intro n k τ h1 h17 hk hn
    obtain ⟨n, rfl⟩ : ∃ z, n = z + 1 := ⟨n - 1, by omega⟩
    show Ex (Md_writesText_21b (Md_writesText_21 n) t w k τ) _
    unfold Md_writesText_21b
    rw [if_pos (inb (by omega) (by omega) (by omega)), wrn (a := (t : Int)) rfl (by omega), h1, wr_id (n := (k : Int)) (by omega) (by omega), wr_id (n := (D : Int)) (by omega) (by omega), if_pos (by omega), if_pos (inb (by omega) (by omega) (by omega)), wrn (a := (w : Int)) rfl (by omega), h17, if_pos (inb (by omega) (by omega) (by omega)), if_pos (inb (by omega) (by omega) (by omega)), wrn (n := t + 1 + k) (by omega) (by omega), wrn (n := s + k) (by omega) (by omega)]
    refine Ex.lt ?_
    have := ih n (k + 1) (upM τ 1 (t + 1 + k) (τ 3 (s + k))) (by simp only [upM]; rw [if_neg (by omega)]; exact h1) (by simp [upM, h17]) (by omega) (by omega)
    rw [show (((k + 1 : Nat)) : Int) = (k : Int) + 1 by omega] at this
    refine this.mono (fun _ τ' z => ?_)
    obtain ⟨hf, hv⟩ := z
    refine ⟨fun o z q => ?_, fun j h1 h2 => ?_⟩
    · rw [hf o z (by omega)]
      simp only [upM]
      rw [if_neg (by omega)]
    · by_cases e : j = k
      · subst e
        rw [hf 1 _ (by omega)]
        simp only [upM]
        rw [if_pos ⟨trivial, trivial⟩]
      · rw [hv j (by omega) h2]
        simp only [upM]
        rw [if_neg (by omega)]
theorem md_writesText {t w s e : Nat} (ht : t + 9 ≤ 10780) (ht0 : 0 < t) (hw : w < 2) (h17 : τ 17 w = s) (h18 : τ 18 w = e) (hse : s < e) (he : e ≤ 72) (h8 : e - s ≤ 8) : Ex (Md_writesText t w τ) (fun _ τ' => Fr (fun o z => o = 1 ∧ t ≤ z ∧ z < t + 9) τ τ' ∧ τ' 1 t = ((e - s : Nat) : Int) ∧ ∀ j, j < e - s → τ' 1 (t + 1 + j) = τ 3 (s + j)) := by
  unfold Md_writesText
  rw [if_pos (inb (by omega) (by omega) (by omega)), if_pos (inb (by omega) (by omega) (by omega)), if_pos (inb (by omega) (by omega) (by omega)), wrn (a := (t : Int)) rfl (by omega), wrn (a := (w : Int)) rfl (by omega), h17, h18, show (e : Int) - (s : Int) = ((e - s : Nat) : Int) by omega]
  refine Ex.lt ((md_wt_21 (t := t) (w := w) (s := s) (D := e - s) ht ht0 hw (by omega) (by omega) (e - s) 100000 0 (upM τ 1 t ((e - s : Nat) : Int)) (by simp [upM]) (by simp [upM, h17]) (by omega) (by omega)).mono (fun _ τ' z => ?_))
  obtain ⟨hf, hv⟩ := z
  refine ⟨fun o z q => ?_, ?_, fun j hj => ?_⟩
  · rw [hf o z (by omega)]
    simp only [upM]
    rw [if_neg (by omega)]
  · rw [hf 1 t (by omega)]; simp [upM]
  · rw [hv j (by omega) hj]; simp [upM]
/-- the class makes a rule -/
theorem ai_makeRule {r N due : Nat} {b : Nat → Int} {P E : Nat → Nat} {so pr st : Int} (hr : r < 12) (hd : due ≤ 2) (hPE : ∀ j, j < due → P j < E j ∧ E j ≤ N ∧ E j - P j ≤ 8) (h29 : σ 29 2 = due) (hB : bfC σ b N) (h31 : ∀ j, j < due → σ 31 j = P j ∧ σ 33 j = E j) (h13 : 0 ≤ σ 13 r ∧ σ 13 r ≤ 3) : Ex (Ai_makeRule r so pr st σ) (fun v σ' => v = (if 0 < σ 13 r then 1 else 0) ∧ Fr (FRu r) σ σ' ∧ σ' 13 r = so ∧ σ' 15 r = pr ∧ σ' 17 r = st ∧ (∀ j, j < due → wrP r σ' j (P j) (E j) b) ∧ ∀ j, due ≤ j → j < 2 → σ' 23 (2 * r + j) = 0) := by
  have key : ∀ (v : Int), Ex (Ai_makeRule_19 r so pr st v σ) (fun v' σ' => v' = v ∧ Fr (FRu r) σ σ' ∧ σ' 13 r = so ∧ σ' 15 r = pr ∧ σ' 17 r = st ∧ (∀ j, j < due → wrP r σ' j (P j) (E j) b) ∧ ∀ j, due ≤ j → j < 2 → σ' 23 (2 * r + j) = 0) := by
    intro v
    unfold Ai_makeRule_19 Rul_put
    rw [rs_12 (by omega) (by omega)]
    simp only [Option.bind_some]
    rw [rs_14 (by omega) (by omega)]
    simp only [Option.bind_some]
    rw [rs_16 (by omega) (by omega)]
    simp only [Option.bind_some]
    rw [rs_22 (by omega) (by omega)]
    simp only [Option.bind_some]
    rw [rs_22 (by omega) (by omega)]
    simp only [Option.bind_some]
    rw [show ((r : Int)).toNat = r by omega, show (2 * (r : Int)).toNat = 2 * r by omega, show (2 * (r : Int) + 1).toNat = 2 * r + 1 by omega]
    have hF : Fr (FRu r) σ (upM (upM (upM (upM (upM σ 13 r so) 15 r pr) 17 r st) 23 (2 * r) 0) 23 (2 * r + 1) 0) := Fr.up (Fr.up (Fr.up (Fr.up (Fr.up Fr.rf (by unfold FRu; omega)) (by unfold FRu; omega)) (by unfold FRu; omega)) (by unfold FRu; omega)) (by unfold FRu; omega)
    have z23 : ∀ j, j < 2 → upM (upM (upM (upM (upM σ 13 r so) 15 r pr) 17 r st) 23 (2 * r) 0) 23 (2 * r + 1) 0 23 (2 * r + j) = 0 := fun j hj => by
      simp only [upM]
      by_cases e : j = 1
      · subst e; rw [if_pos ⟨trivial, rfl⟩]
      · rw [if_neg (by omega), if_pos ⟨trivial, by omega⟩]
    refine Ex.bnd ((tex_w3 (r := r) (N := N) (due := due) (b := b) (P := P) (E := E) hr hd hPE due 0 100000 _ (by omega) (by rw [hF 29 2 (by unfold FRu; omega)]; exact h29) (bfC_fr hF (fun o k z => by unfold FRu at z; omega) hB) (fun j hj => by rw [hF 31 j (by unfold FRu; omega), hF 33 j (by unfold FRu; omega)]; exact h31 j hj) (fun j h1 h2 => z23 j (by omega)) (fun j hj => by omega) (by omega)).mono (fun _ σ' z => Ex.ret ?_))
    obtain ⟨z1, z2, z3⟩ := z
    refine ⟨rfl, hF.tr (z1.mono (fun o k y => by unfold FTr at y; unfold FRu; omega)), ?_, ?_, ?_, z2, fun j h1 h2 => (z3 j h1).trans (z23 j h2)⟩
    · show σ' 13 r = so
      rw [z1 13 r (by unfold FTr; omega)]; simp [upM]
    · show σ' 15 r = pr
      rw [z1 15 r (by unfold FTr; omega)]; simp [upM]
    · show σ' 17 r = st
      rw [z1 17 r (by unfold FTr; omega)]; simp [upM]
  unfold Ai_makeRule
  rw [rul_hasR hr h13]
  simp only [Option.bind_some]
  by_cases q : 0 < σ 13 r
  · rw [if_pos q, wr_1, if_neg n10]; exact key 1
  · rw [if_neg q, wr_0, if_pos rfl]; exact key 0
/-- the reference writes a rule down -/
theorem md_makes_60 {r N due : Nat} {b : Nat → Int} {P E : Nat → Nat} {so pr st mo cl v : Int} (hr : r < 12) (hd : (so = 1 ∧ due = 2) ∨ ((so = 2 ∨ so = 3) ∧ due = 1)) (hPE : ∀ j, j < due → P j < E j ∧ E j ≤ N ∧ E j - P j ≤ 8) (hB : bfM τ b N) (h17 : ∀ j, j < due → τ 17 j = P j ∧ τ 18 j = E j) : Ex (Md_makes_60 so pr st mo cl (701 + 23 * (r : Int)) v τ) (fun v' τ' => v' = v ∧ Fr (FRm r) τ τ' ∧ τ' 1 (701 + 23 * r) = so ∧ τ' 1 (702 + 23 * r) = pr ∧ τ' 1 (703 + 23 * r) = st ∧ τ' 1 (704 + 23 * r) = mo ∧ τ' 1 (705 + 23 * r) = cl ∧ ∀ j, j < due → τ' 1 (706 + 23 * r + 9 * j) = ((E j - P j : Nat) : Int) ∧ ∀ k, k < E j - P j → τ' 1 (707 + 23 * r + 9 * j + k) = b (P j + k)) := by
  have hN := hB.2.1
  unfold Md_makes_60
  rw [if_pos (inb (by omega) (by omega) (by omega)), wrn (n := 701 + 23 * r) (by omega) (by omega)]
  refine Ex.lt ?_
  rw [if_pos (inb (by omega) (by omega) (by omega)), wrn (n := 702 + 23 * r) (by omega) (by omega)]
  refine Ex.lt ?_
  rw [if_pos (inb (by omega) (by omega) (by omega)), wrn (n := 703 + 23 * r) (by omega) (by omega)]
  refine Ex.lt ?_
  rw [if_pos (inb (by omega) (by omega) (by omega)), wrn (n := 704 + 23 * r) (by omega) (by omega)]
  refine Ex.lt ?_
  rw [if_pos (inb (by omega) (by omega) (by omega)), wrn (n := 705 + 23 * r) (by omega) (by omega)]
  refine Ex.lt ?_
  generalize hτ1 : upM (upM (upM (upM (upM τ 1 (701 + 23 * r) so) 1 (702 + 23 * r) pr) 1 (703 + 23 * r) st) 1 (704 + 23 * r) mo) 1 (705 + 23 * r) cl = τ1
  have hF : Fr (FRm r) τ τ1 := by
    rw [← hτ1]
    exact Fr.up (Fr.up (Fr.up (Fr.up (Fr.up Fr.rf (by unfold FRm; omega)) (by unfold FRm; omega)) (by unfold FRm; omega)) (by unfold FRm; omega)) (by unfold FRm; omega)
  have v1 : τ1 1 (701 + 23 * r) = so ∧ τ1 1 (702 + 23 * r) = pr ∧ τ1 1 (703 + 23 * r) = st ∧ τ1 1 (704 + 23 * r) = mo ∧ τ1 1 (705 + 23 * r) = cl := by
    rw [← hτ1]
    refine ⟨?_, ?_, ?_, ?_, ?_⟩
    · simp only [upM]; rw [if_neg (by omega), if_neg (by omega), if_neg (by omega), if_neg (by omega), if_pos ⟨trivial, trivial⟩]
    · simp only [upM]; rw [if_neg (by omega), if_neg (by omega), if_neg (by omega), if_pos ⟨trivial, trivial⟩]
    · simp only [upM]; rw [if_neg (by omega), if_neg (by omega), if_pos ⟨trivial, trivial⟩]
    · simp only [upM]; rw [if_neg (by omega), if_pos ⟨trivial, trivial⟩]
    · simp only [upM]; rw [if_pos ⟨trivial, trivial⟩]
  have p0 := hPE 0 (by omega)
  have h0 := h17 0 (by omega)
  have b3 : ∀ k, k < N → τ1 3 k = b k := fun k hk => by rw [hF 3 k (by unfold FRm; omega)]; exact (hB.2.2 k hk).1
  obtain ⟨r1, τ2, e1, f1, g1, g2⟩ := md_writesText (τ := τ1) (t := 706 + 23 * r) (w := 0) (s := P 0) (e := E 0) (by omega) (by omega) (by omega) (by rw [hF 17 0 (by unfold FRm; omega)]; exact h0.1) (by rw [hF 18 0 (by unfold FRm; omega)]; exact h0.2) p0.1 (by omega) p0.2.2
  have e1' : Md_writesText (701 + 23 * (r : Int) + 5) 0 τ1 = some (r1, τ2) := by
    rw [show 701 + 23 * (r : Int) + 5 = ((706 + 23 * r : Nat) : Int) by omega]; exact e1
  rw [e1']
  simp only [Option.bind_some]
  have hF2 : Fr (FRm r) τ τ2 := hF.tr (f1.mono (fun o k z => by unfold FRm; omega))
  have w2 : τ2 1 (701 + 23 * r) = so ∧ τ2 1 (702 + 23 * r) = pr ∧ τ2 1 (703 + 23 * r) = st ∧ τ2 1 (704 + 23 * r) = mo ∧ τ2 1 (705 + 23 * r) = cl := by
    rw [f1 1 (701 + 23 * r) (by omega), f1 1 (702 + 23 * r) (by omega), f1 1 (703 + 23 * r) (by omega), f1 1 (704 + 23 * r) (by omega), f1 1 (705 + 23 * r) (by omega)]; exact v1
  rcases hd with ⟨rfl, rfl⟩ | ⟨hso, rfl⟩
  · rw [wr_1, if_pos rfl]
    have p1 := hPE 1 (by omega)
    have h1 := h17 1 (by omega)
    obtain ⟨r2, τ3, e2, f2, k1, k2⟩ := md_writesText (τ := τ2) (t := 715 + 23 * r) (w := 1) (s := P 1) (e := E 1) (by omega) (by omega) (by omega) (by rw [hF2 17 1 (by unfold FRm; omega)]; exact h1.1) (by rw [hF2 18 1 (by unfold FRm; omega)]; exact h1.2) p1.1 (by omega) p1.2.2
    have e2' : Md_writesText (701 + 23 * (r : Int) + 14) 1 τ2 = some (r2, τ3) := by
      rw [show 701 + 23 * (r : Int) + 14 = ((715 + 23 * r : Nat) : Int) by omega]; exact e2
    rw [e2']
    simp only [Option.bind_some]
    refine Ex.ret ⟨rfl, hF2.tr (f2.mono (fun o k z => by unfold FRm; omega)), ?_, ?_, ?_, ?_, ?_, fun j hj => ?_⟩
    · rw [f2 1 _ (by omega)]; exact w2.1
    · rw [f2 1 _ (by omega)]; exact w2.2.1
    · rw [f2 1 _ (by omega)]; exact w2.2.2.1
    · rw [f2 1 _ (by omega)]; exact w2.2.2.2.1
    · rw [f2 1 _ (by omega)]; exact w2.2.2.2.2
    · by_cases e : j = 0
      · subst e
        refine ⟨by rw [f2 1 _ (by omega)]; exact g1, fun k hk => ?_⟩
        rw [f2 1 _ (by omega), show 707 + 23 * r + 9 * 0 + k = 706 + 23 * r + 1 + k by omega, g2 k hk, b3 _ (by omega)]
      · have ej : j = 1 := by omega
        subst ej
        refine ⟨by rw [show 706 + 23 * r + 9 * 1 = 715 + 23 * r by omega]; exact k1, fun k hk => ?_⟩
        rw [show 707 + 23 * r + 9 * 1 + k = 715 + 23 * r + 1 + k by omega, k2 k hk, hF2 3 _ (by unfold FRm; omega)]
        exact (hB.2.2 _ (by omega)).1
  · have hne : ¬ wr so = 1 := by rcases hso with rfl | rfl <;> decide
    rw [if_neg hne]
    refine Ex.ret ⟨rfl, hF2, w2.1, w2.2.1, w2.2.2.1, w2.2.2.2.1, w2.2.2.2.2, fun j hj => ?_⟩
    have ej : j = 0 := by omega
    subst ej
    refine ⟨g1, fun k hk => ?_⟩
    rw [show 707 + 23 * r + 9 * 0 + k = 706 + 23 * r + 1 + k by omega, g2 k hk, b3 _ (by omega)]
end MK
