/-! ===== edits of the present state: tools; the buffer; settings; pins ===== -/
def edL (S : Mem) (n : Int) (ind len pin byt : Nat → Int) : Mem := fun c => match c with
  | 0 => fun k => if k = 0 then n else S 0 k
  | 1 => fun k => if (k : Int) < n then ind k else 0
  | 2 => fun k => if (k : Int) < n then len k else 0
  | 3 => fun k => if (k : Int) < n then pin k else 0
  | 4 => fun k => if ((k / 32 : Nat) : Int) < n ∧ ((k % 32 : Nat) : Int) < len (k / 32) then byt k else 0
  | c + 5 => S (c + 5)
theorem edL_mk {n n' stp bas cm : Int} {ind len pin byt ind' len' pin' byt' sort prec sp mode clos ts tb : Nat → Int} : edL (mkS n stp bas cm ind len pin byt sort prec sp mode clos ts tb) n' ind' len' pin' byt' = mkS n' stp bas cm ind' len' pin' byt' sort prec sp mode clos ts tb := by
  funext c k
  match c with
  | 0 => match k with
    | 0 => rfl
    | 1 => rfl
    | 2 => rfl
    | 3 => rfl
    | k + 4 => rfl
  | 1 => rfl
  | 2 => rfl
  | 3 => rfl
  | 4 => rfl
  | 5 => rfl
  | 6 => rfl
  | 7 => rfl
  | 8 => rfl
  | 9 => rfl
  | 10 => rfl
  | 11 => rfl
  | c + 12 => rfl
theorem edL_congr {S : Mem} {n : Int} {ind len pin byt ind' len' pin' byt' : Nat → Int} (h1 : ∀ k : Nat, (k : Int) < n → ind k = ind' k) (h2 : ∀ k : Nat, (k : Int) < n → len k = len' k) (h3 : ∀ k : Nat, (k : Int) < n → pin k = pin' k)
    (h4 : ∀ i k : Nat, (i : Int) < n → (k : Int) < len i → k < 32 → byt (32 * i + k) = byt' (32 * i + k)) : edL S n ind len pin byt = edL S n ind' len' pin' byt' := by
  funext c k
  match c with
  | 0 => rfl
  | 1 => show (if (k : Int) < n then ind k else 0) = if (k : Int) < n then ind' k else 0
         split
         · exact h1 k ‹_›
         · rfl
  | 2 => show (if (k : Int) < n then len k else 0) = if (k : Int) < n then len' k else 0
         split
         · exact h2 k ‹_›
         · rfl
  | 3 => show (if (k : Int) < n then pin k else 0) = if (k : Int) < n then pin' k else 0
         split
         · exact h3 k ‹_›
         · rfl
  | 4 =>
    show (if ((k / 32 : Nat) : Int) < n ∧ ((k % 32 : Nat) : Int) < len (k / 32) then byt k else 0) = if ((k / 32 : Nat) : Int) < n ∧ ((k % 32 : Nat) : Int) < len' (k / 32) then byt' k else 0
    by_cases q : ((k / 32 : Nat) : Int) < n
    · rw [← h2 (k / 32) q]
      by_cases q2 : ((k % 32 : Nat) : Int) < len (k / 32)
      · rw [if_pos ⟨q, q2⟩, if_pos ⟨q, q2⟩]
        have := h4 (k / 32) (k % 32) q q2 (by omega)
        rwa [show 32 * (k / 32) + k % 32 = k by omega] at this
      · rw [if_neg (fun z => q2 z.2), if_neg (fun z => q2 z.2)]
    · rw [if_neg (fun z => q z.1), if_neg (fun z => q z.1)]
  | c + 5 => rfl
theorem absC_edL {σ σ' : Mem} (h : ∀ o k, (o = 1 ∨ (12 ≤ o ∧ o ≤ 25)) → σ' o k = σ o k) : absC σ' 1 = edL (absC σ 1) (σ' 2 0) (σ' 4) (σ' 6) (σ' 8) (σ' 10) := by
  have e : ∀ o, (o = 1 ∨ (12 ≤ o ∧ o ≤ 25)) → σ' o = σ o := fun o ho => by funext k; exact h o k ho
  unfold absC
  rw [edL_mk, e 1 (by omega), e (1 + 12) (by omega), e (1 + 14) (by omega), e (1 + 16) (by omega), e (1 + 18) (by omega), e (1 + 20) (by omega), e (1 + 22) (by omega), e (1 + 24) (by omega)]
theorem absM_edL {τ τ' : Mem} (h : ∀ k, 701 ≤ k → k < 980 → τ' 1 k = τ 1 k) : absM τ' 0 = edL (absM τ 0) (τ' 1 0) (fun i => τ' 1 (1 + i)) (fun i => τ' 1 (21 + i)) (fun i => τ' 1 (41 + i)) (fun k => τ' 1 (61 + k)) := by
  rw [aM0, aM0, edL_mk, h 977 (by omega) (by omega), h 978 (by omega) (by omega), h 979 (by omega) (by omega)]
  have g : ∀ x y, 701 ≤ x → x < 980 → x = y → τ' 1 x = τ 1 y := fun x y h1 h2 h3 => by rw [← h3]; exact h x h1 h2
  exact mkS_congr (fun k hk => rfl) (fun k hk => rfl) (fun k hk => rfl) (fun i k hi hk h => rfl) (fun r hr => g _ _ (by omega) (by omega) rfl)
    (fun r hr _ => ⟨g _ _ (by omega) (by omega) rfl, g _ _ (by omega) (by omega) rfl, g _ _ (by omega) (by omega) rfl, fun k hk _ => g _ _ (by omega) (by omega) rfl⟩)
    (fun r hr _ => ⟨g _ _ (by omega) (by omega) rfl, g _ _ (by omega) (by omega) rfl, g _ _ (by omega) (by omega) rfl, fun k hk _ => g _ _ (by omega) (by omega) rfl⟩)
/-- what a line must keep -/
def lnOK (ind len pin : Int) (byt : Nat → Int) : Prop := (0 ≤ ind ∧ ind ≤ 40) ∧ (0 ≤ len ∧ len ≤ 32) ∧ (pin = 0 ∨ pin = 1) ∧ (len = 0 → ind = 0) ∧ (0 < len → byt 0 ≠ 32 ∧ byt (len - 1).toNat ≠ 32) ∧ ∀ k : Nat, (k : Int) < len → 32 ≤ byt k ∧ byt k ≤ 126
theorem SV.lnok {S : Mem} (h : SV S) {i : Nat} (hi : i < nS S) : lnOK (S 1 i) (S 2 i) (S 3 i) (fun k => S 4 (32 * i + k)) := h.2.2.2.2.1 i (by have := h.n; omega)
theorem SV_edL {S : Mem} (hS : SV S) {n : Int} {ind len pin byt : Nat → Int} (hn : 0 ≤ n ∧ n ≤ 20) (h : ∀ i : Nat, (i : Int) < n → lnOK (ind i) (len i) (pin i) (fun k => byt (32 * i + k))) : SV (edL S n ind len pin byt) := by
  obtain ⟨-, s1, s2, s3, -, s5⟩ := hS
  refine ⟨hn, s1, s2, s3, fun i hi => ?_, s5⟩
  have hi' : (i : Int) < n := hi
  obtain ⟨l1, l2, l3, l4, l5, l6⟩ := h i hi'
  have e1 : edL S n ind len pin byt 1 i = ind i := if_pos hi'
  have e2 : edL S n ind len pin byt 2 i = len i := if_pos hi'
  have e3 : edL S n ind len pin byt 3 i = pin i := if_pos hi'
  have e4 : ∀ k : Nat, (k : Int) < len i → edL S n ind len pin byt 4 (32 * i + k) = byt (32 * i + k) := fun k hk => by
    show (if (((32 * i + k) / 32 : Nat) : Int) < n ∧ (((32 * i + k) % 32 : Nat) : Int) < len ((32 * i + k) / 32) then byt (32 * i + k) else 0) = _
    rw [show (32 * i + k) / 32 = i by omega, show (32 * i + k) % 32 = k by omega, if_pos ⟨hi', hk⟩]
  rw [e1, e2, e3]
  refine ⟨l1, l2, l3, l4, fun z => ?_, fun k hk => by rw [e4 k hk]; exact l6 k hk⟩
  have := e4 0 (by omega)
  rw [Nat.add_zero] at this
  rw [this, e4 _ (by omega)]
  exact l5 z
section ED
variable {σ τ σ' τ' : Mem}
/-- an edit of lines -/
theorem Inv_lines (h : Inv σ τ) (h11 : σ' 0 11 = 0) (hσ : ∀ o k, σ' o k ≠ σ o k → (2 ≤ o ∧ o ≤ 10) ∨ FQ o k) (hτ : ∀ o k, τ' o k ≠ τ o k → FM o k ∧ (o = 1 → k < 701)) (hn : τ' 1 0 = σ' 2 0 ∧ 0 ≤ σ' 2 0 ∧ σ' 2 0 ≤ 20) (hl : ∀ i : Nat, (i : Int) < σ' 2 0 → τ' 1 (1 + i) = σ' 4 i ∧ τ' 1 (21 + i) = σ' 6 i ∧ τ' 1 (41 + i) = σ' 8 i ∧ (∀ k : Nat, (k : Int) < σ' 6 i → τ' 1 (61 + (32 * i + k)) = σ' 10 (32 * i + k)) ∧ lnOK (σ' 4 i) (σ' 6 i) (σ' 8 i) (fun k => σ' 10 (32 * i + k))) : Inv σ' τ' := by
  have kσ : ∀ o k, ¬ ((2 ≤ o ∧ o ≤ 10) ∨ FQ o k) → σ' o k = σ o k := fun o k q => Classical.byContradiction (fun z => q (hσ o k z))
  have kτ : ∀ o k, ¬ (FM o k ∧ (o = 1 → k < 701)) → τ' o k = τ o k := fun o k q => Classical.byContradiction (fun z => q (hτ o k z))
  refine Inv_edit h (fun o k q => kσ o k (fun z => q (z.elim (fun y => Or.inl (by omega)) (fun y => Or.inr y)))) (fun o k q => kτ o k (fun z => q z.1)) ?_
  have eC := absC_edL (σ := σ) (σ' := σ') (fun o k q => kσ o k (by unfold FQ; omega))
  have eM := absM_edL (τ := τ) (τ' := τ') (fun k q1 q2 => kτ 1 k (fun z => by have := z.2 rfl; omega))
  have e : absC σ' 1 = absM τ' 0 := by
    rw [eC, eM, h.1.1, hn.1]
    exact edL_congr (fun k hk => (hl k hk).1.symm) (fun k hk => (hl k hk).2.1.symm) (fun k hk => (hl k hk).2.2.1.symm) (fun i k hi hk _ => ((hl i hi).2.2.2.1 k hk).symm)
  refine ⟨e, ?_, ?_, Or.inl h11⟩
  · rw [← e, eC, h.1.1]
    exact SV_edL h.1.2.1 hn.2 (fun i hi => (hl i hi).2.2.2.2)
  · exact fun r hr => by rw [kσ (1 + 12) r (by unfold FQ; omega), kσ (1 + 22) (2 * r + 1) (by unfold FQ; omega)]; exact h.1.2.2.1 r hr
theorem Inv.lnok (h : Inv σ τ) {i : Nat} (hi : (i : Int) < σ 2 0) : τ 1 (1 + i) = σ 4 i ∧ τ 1 (21 + i) = σ 6 i ∧ τ 1 (41 + i) = σ 8 i ∧ (∀ k : Nat, (k : Int) < σ 6 i → τ 1 (61 + (32 * i + k)) = σ 10 (32 * i + k)) ∧ lnOK (σ 4 i) (σ 6 i) (σ 8 i) (fun k => σ 10 (32 * i + k)) := by
  have hn := h.n
  have h1 := h.ind (i := i) (by omega)
  have h2 := h.len (i := i) (by omega)
  have h3 := h.pin (i := i) (by omega)
  have hb : ∀ k : Nat, (k : Int) < σ 6 i → τ 1 (61 + (32 * i + k)) = σ 10 (32 * i + k) ∧ absM τ 0 4 (32 * i + k) = σ 10 (32 * i + k) := fun k hk => by
    have a1 := aM_byt (τ := τ) (i := i) (k := k) (by omega) (by omega) (by omega)
    have a2 := aC_byt (σ := σ) (i := i) (k := k) (by omega) (by omega) (by omega)
    rw [h.1.1] at a2
    rw [← a2]
    exact ⟨by rw [a1, show 61 + (32 * i + k) = 61 + 32 * i + k by omega], rfl⟩
  have hs := h.1.2.1.lnok (i := i) (by omega)
  obtain ⟨l1, l2, l3, l4, l5, l6⟩ := hs
  refine ⟨by rw [h1.1, h1.2.1], by rw [h2.1, h2.2.1], by rw [h3.1, h3.2.1], fun k hk => (hb k hk).1, ?_⟩
  rw [h1.1, h2.1, h3.1]
  rw [h2.1] at hb
  refine ⟨l1, l2, l3, l4, fun z => ?_, fun k hk => by have := l6 k hk; simp only [] at this; rw [(hb k hk).2] at this; exact this⟩
  have := l5 z
  simp only [] at this
  rw [(hb 0 (by omega)).2, (hb (absM τ 0 2 i - 1).toNat (by omega)).2] at this
  exact this
theorem t_type (h : Inv σ τ) {a : Int} (ha : RI a) : Two (Ai_type a σ) (Md_type a τ) := by
  obtain ⟨b1, b2, b3⟩ := h.2.1
  unfold Ai_type Md_type Two
  rw [ai_wi ha (by omega) (by omega), md_wi ha (by omega) (by omega)]
  simp only [Option.bind_some]
  by_cases q : 32 ≤ a ∧ a ≤ 126
  · rw [if_pos q, wr_1, if_neg n10, if_neg n10, b1, wr_id (n := τ 0 4) (by omega) (by omega)]
    by_cases q2 : τ 0 4 < 72
    · rw [if_pos q2, if_neg (by omega), if_pos (by omega)]
      unfold Buf_add
      rw [b1, wr_id (n := τ 0 4) (by omega) (by omega), if_pos q2, rs_27 (by omega) (by omega)]
      simp only [Option.bind_some]
      refine Ex.bnd (Ex.lt (Ex.ret (Ex.ret (Ex.lt (Ex.lt (Ex.ret ?_))))))
      have e26 : upM σ 28 (τ 0 4).toNat a 26 0 = τ 0 4 := by simp [upM, b1]
      show upM (upM τ 3 (τ 0 4).toNat a) 0 4 (upM τ 3 (τ 0 4).toNat a 0 4 + 1) 0 4 = upM (upM σ 28 (τ 0 4).toNat a) 26 0 (upM σ 28 (τ 0 4).toNat a 26 0 + 1) 26 0 ∧ Inv (upM (upM σ 28 (τ 0 4).toNat a) 26 0 (upM σ 28 (τ 0 4).toNat a 26 0 + 1)) (upM (upM τ 3 (τ 0 4).toNat a) 0 4 (upM τ 3 (τ 0 4).toNat a 0 4 + 1))
      have e04 : upM τ 3 (τ 0 4).toNat a 0 4 = τ 0 4 := by simp [upM]
      rw [e26, e04]
      refine ⟨by simp [upM], ?_⟩
      obtain ⟨⟨s1, s2, s3, s4⟩, -, ⟨h1, h2, h3, h4⟩, hI, hP⟩ := h
      have kσ : ∀ o k, o ≠ 28 → o ≠ 26 → upM (upM σ 28 (τ 0 4).toNat a) 26 0 (τ 0 4 + 1) o k = σ o k := fun o k q1 q2 => by simp only [upM]; rw [if_neg (by omega), if_neg (by omega)]
      have kτ : ∀ o k, o ≠ 3 → (o ≠ 0 ∨ k ≠ 4) → upM (upM τ 3 (τ 0 4).toNat a) 0 4 (τ 0 4 + 1) o k = τ o k := fun o k q1 q2 => by simp only [upM]; rw [if_neg (by omega), if_neg (by omega)]
      have kA : ∀ j, absM (upM (upM τ 3 (τ 0 4).toNat a) 0 4 (τ 0 4 + 1)) j = absM τ j := fun j => absM_congr (by funext k; exact kτ 1 k (by omega) (by omega)) j
      have kh : ∀ j, hAt (upM (upM σ 28 (τ 0 4).toNat a) 26 0 (τ 0 4 + 1)) j = hAt σ j := fun j => by unfold hAt; rw [kσ 34 1 (by omega) (by omega)]
      refine ⟨⟨?_, by rw [kA]; exact s2, CI_keep (fun o k q1 q2 => kσ o k (by omega) (by omega)) s3, ?_⟩, ⟨by simp [upM], by simp [upM]; omega, fun k hk => ?_⟩, ⟨?_, ?_, ?_, fun j hj => ?_⟩, fun k hk => ?_, ⟨fun k hk => ?_, fun k hk => ?_⟩⟩
      · rw [kA, absC_keep (σ := σ) (fun o k q1 q2 => kσ o k (by omega) (by omega))]; exact s1
      · rw [kA]
        rcases s4 with z | ⟨z1, z2⟩
        · left; rw [kσ 0 11 (by omega) (by omega)]; exact z
        · right
          refine ⟨by rw [kσ 0 11 (by omega) (by omega)]; exact z1, Kn_Fr (F := fun o k => ¬ (289 ≤ o)) (fun o k q => kσ o k (by omega) (by omega)) (fun o k q => by omega) z2⟩
      · have hk' : (k : Int) < τ 0 4 + 1 := by simpa [upM] using hk
        by_cases e : k = (τ 0 4).toNat
        · subst e; simp [upM, q]
        · have := b3 k (by omega)
          simpa [upM, e] using this
      · rw [kσ 34 0 (by omega) (by omega), kτ 0 1 (by omega) (by omega)]; exact h1
      · rw [kτ 0 1 (by omega) (by omega)]; exact h2
      · rw [kσ 34 1 (by omega) (by omega)]; exact h3
      · rw [kτ 0 1 (by omega) (by omega)] at hj
        have hj2 := h4 j hj
        have hb : 36 ≤ hAt σ j ∧ hAt σ j < 212 := by unfold hAt; omega
        rw [kA, kh, absC_keep (σ := σ) (fun o k q1 q2 => kσ o k (by omega) (by omega))]
        exact ⟨hj2.1, hj2.2.1, CI_keep (fun o k q1 q2 => kσ o k (by omega) (by omega)) hj2.2.2⟩
      · rw [kσ 288 k (by omega) (by omega), kτ 2 k (by omega) (by omega), kA, absC_keep (σ := σ) (fun o k q1 q2 => kσ o k (by omega) (by omega))]
        refine ⟨(hI k hk).1, (hI k hk).2.1, fun z => ?_⟩
        have := (hI k hk).2.2 z
        exact ⟨this.1, this.2.1, CI_keep (fun o k q1 q2 => kσ o k (by omega) (by omega)) this.2.2⟩
      · rw [kτ 19 k (by omega) (by omega)]; exact hP.1 k hk
      · rw [kτ 20 k (by omega) (by omega)]; exact hP.2 k hk
    · rw [if_neg q2, if_pos (by omega)]
      exact Ex.ret (Ex.ret ⟨rfl, h⟩)
  · rw [if_neg q, wr_0, if_pos rfl, if_pos rfl]
    exact Ex.ret (Ex.ret ⟨rfl, h⟩)
theorem t_clear (h : Inv σ τ) : Two (Ai_clear σ) (Md_clear τ) := by
  obtain ⟨b1, b2, b3⟩ := h.2.1
  unfold Ai_clear Md_clear Two
  refine Ex.lt (Ex.ret (Ex.lt (Ex.ret ⟨b1.symm, ?_⟩)))
  obtain ⟨⟨s1, s2, s3, s4⟩, -, ⟨h1, h2, h3, h4⟩, hI, hP⟩ := h
  have kσ : ∀ o k, o ≠ 26 → upM σ 26 0 0 o k = σ o k := fun o k q1 => by simp only [upM]; rw [if_neg (by omega)]
  have kτ : ∀ o k, (o ≠ 0 ∨ k ≠ 4) → upM τ 0 4 0 o k = τ o k := fun o k q2 => by simp only [upM]; rw [if_neg (by omega)]
  have kA : ∀ j, absM (upM τ 0 4 0) j = absM τ j := fun j => absM_congr (by funext k; exact kτ 1 k (by omega)) j
  have kh : ∀ j, hAt (upM σ 26 0 0) j = hAt σ j := fun j => by unfold hAt; rw [kσ 34 1 (by omega)]
  refine ⟨⟨?_, by rw [kA]; exact s2, CI_keep (fun o k q1 q2 => kσ o k (by omega)) s3, ?_⟩, ⟨by simp [upM], by simp [upM], fun k hk => ?_⟩, ⟨?_, ?_, ?_, fun j hj => ?_⟩, fun k hk => ?_, ⟨fun k hk => ?_, fun k hk => ?_⟩⟩
  · rw [kA, absC_keep (σ := σ) (fun o k q1 q2 => kσ o k (by omega))]; exact s1
  · rw [kA]
    rcases s4 with z | ⟨z1, z2⟩
    · left; rw [kσ 0 11 (by omega)]; exact z
    · right
      refine ⟨by rw [kσ 0 11 (by omega)]; exact z1, Kn_Fr (F := fun o k => ¬ (289 ≤ o)) (fun o k q => kσ o k (by omega)) (fun o k q => by omega) z2⟩
  · have hk' : (k : Int) < 0 := by simpa [upM] using hk
    omega
  · rw [kσ 34 0 (by omega), kτ 0 1 (by omega)]; exact h1
  · rw [kτ 0 1 (by omega)]; exact h2
  · rw [kσ 34 1 (by omega)]; exact h3
  · rw [kτ 0 1 (by omega)] at hj
    have hj2 := h4 j hj
    have hb : 36 ≤ hAt σ j ∧ hAt σ j < 212 := by unfold hAt; omega
    rw [kA, kh, absC_keep (σ := σ) (fun o k q1 q2 => kσ o k (by omega))]
    exact ⟨hj2.1, hj2.2.1, CI_keep (fun o k q1 q2 => kσ o k (by omega)) hj2.2.2⟩
  · rw [kσ 288 k (by omega), kτ 2 k (by omega), kA, absC_keep (σ := σ) (fun o k q1 q2 => kσ o k (by omega))]
    refine ⟨(hI k hk).1, (hI k hk).2.1, fun z => ?_⟩
    have := (hI k hk).2.2 z
    exact ⟨this.1, this.2.1, CI_keep (fun o k q1 q2 => kσ o k (by omega)) this.2.2⟩
  · rw [kτ 19 k (by omega)]; exact hP.1 k hk
  · rw [kτ 20 k (by omega)]; exact hP.2 k hk
end ED
