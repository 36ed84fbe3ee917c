/-! ===== the abstract state, of which both memories are pictures ===== -/
def mkS (n stp bas cm : Int) (ind len pin byt sort prec sp mode clos ts tb : Nat → Int) : Mem := fun c k => match c with
  | 0 => (match k with | 0 => n | 1 => stp | 2 => bas | 3 => cm | _ => 0)
  | 1 => if (k : Int) < n then ind k else 0
  | 2 => if (k : Int) < n then len k else 0
  | 3 => if (k : Int) < n then pin k else 0
  | 4 => if ((k / 32 : Nat) : Int) < n ∧ ((k % 32 : Nat) : Int) < len (k / 32) then byt k else 0
  | 5 => if k < 12 then sort k else 0
  | 6 => if k < 12 ∧ sort k ≠ 0 then prec k else 0
  | 7 => if k < 12 ∧ sort k ≠ 0 then sp k else 0
  | 8 => if k < 12 ∧ sort k = 1 then mode k else 0
  | 9 => if k < 12 ∧ sort k = 1 then clos k else 0
  | 10 => if k < 24 ∧ sort (k / 2) ≠ 0 ∧ (k % 2 = 0 ∨ sort (k / 2) = 1) then ts k else 0
  | 11 => if k < 192 ∧ sort (k / 16) ≠ 0 ∧ (k / 8 % 2 = 0 ∨ sort (k / 16) = 1) ∧ ((k % 8 : Nat) : Int) < ts (k / 8) then tb k else 0
  | _ => 0
theorem mkS_congr {n stp bas cm : Int} {ind len pin byt sort prec sp mode clos ts tb ind' len' pin' byt' sort' prec' sp' mode' clos' ts' tb' : Nat → Int}
    (h1 : ∀ k : Nat, (k : Int) < n → ind k = ind' k) (h2 : ∀ k : Nat, (k : Int) < n → len k = len' k) (h3 : ∀ k : Nat, (k : Int) < n → pin k = pin' k)
    (h4 : ∀ i k : Nat, (i : Int) < n → (k : Int) < len i → k < 32 → byt (32 * i + k) = byt' (32 * i + k)) (h5 : ∀ r, r < 12 → sort r = sort' r)
    (h6 : ∀ r, r < 12 → sort r ≠ 0 → prec r = prec' r ∧ sp r = sp' r ∧ ts (2 * r) = ts' (2 * r) ∧ ∀ k : Nat, k < 8 → (k : Int) < ts (2 * r) → tb (16 * r + k) = tb' (16 * r + k))
    (h7 : ∀ r, r < 12 → sort r = 1 → mode r = mode' r ∧ clos r = clos' r ∧ ts (2 * r + 1) = ts' (2 * r + 1) ∧ ∀ k : Nat, k < 8 → (k : Int) < ts (2 * r + 1) → tb (16 * r + 8 + k) = tb' (16 * r + 8 + k)) :
    mkS n stp bas cm ind len pin byt sort prec sp mode clos ts tb = mkS n stp bas cm ind' len' pin' byt' sort' prec' sp' mode' clos' ts' tb' := by
  funext c k
  unfold mkS
  match c with
  | 0 => rfl
  | 1 => simp only []; split <;> simp_all
  | 2 => simp only []; split <;> simp_all
  | 3 => simp only []; split <;> simp_all
  | 4 =>
    simp only []
    by_cases q : ((k / 32 : Nat) : Int) < n
    · rw [← h2 (k / 32) q]
      by_cases q2 : ((k % 32 : Nat) : Int) < len (k / 32)
      · rw [if_pos ⟨q, q2⟩, if_pos ⟨q, q2⟩]
        have := h4 (k / 32) (k % 32) q q2 (by omega)
        rwa [show 32 * (k / 32) + k % 32 = k by omega] at this
      · rw [if_neg (by omega), if_neg (by omega)]
    · rw [if_neg (by omega), if_neg (by omega)]
  | 5 => simp only []; split <;> simp_all
  | 6 =>
    simp only []
    by_cases q : k < 12
    · rw [← h5 k q]
      by_cases q2 : sort k ≠ 0
      · rw [if_pos ⟨q, q2⟩, if_pos ⟨q, q2⟩, (h6 k q q2).1]
      · rw [if_neg (fun z => q2 z.2), if_neg (fun z => q2 z.2)]
    · rw [if_neg (fun z => q z.1), if_neg (fun z => q z.1)]
  | 7 =>
    simp only []
    by_cases q : k < 12
    · rw [← h5 k q]
      by_cases q2 : sort k ≠ 0
      · rw [if_pos ⟨q, q2⟩, if_pos ⟨q, q2⟩, (h6 k q q2).2.1]
      · rw [if_neg (fun z => q2 z.2), if_neg (fun z => q2 z.2)]
    · rw [if_neg (fun z => q z.1), if_neg (fun z => q z.1)]
  | 8 =>
    simp only []
    by_cases q : k < 12
    · rw [← h5 k q]
      by_cases q2 : sort k = 1
      · rw [if_pos ⟨q, q2⟩, if_pos ⟨q, q2⟩, (h7 k q q2).1]
      · rw [if_neg (fun z => q2 z.2), if_neg (fun z => q2 z.2)]
    · rw [if_neg (fun z => q z.1), if_neg (fun z => q z.1)]
  | 9 =>
    simp only []
    by_cases q : k < 12
    · rw [← h5 k q]
      by_cases q2 : sort k = 1
      · rw [if_pos ⟨q, q2⟩, if_pos ⟨q, q2⟩, (h7 k q q2).2.1]
      · rw [if_neg (fun z => q2 z.2), if_neg (fun z => q2 z.2)]
    · rw [if_neg (fun z => q z.1), if_neg (fun z => q z.1)]
  | 10 =>
    simp only []
    by_cases q : k < 24
    · rw [← h5 (k / 2) (by omega)]
      by_cases q2 : sort (k / 2) ≠ 0
      · by_cases q3 : k % 2 = 0
        · rw [if_pos ⟨q, q2, Or.inl q3⟩, if_pos ⟨q, q2, Or.inl q3⟩]
          have := (h6 (k / 2) (by omega) q2).2.2.1
          rwa [show 2 * (k / 2) = k by omega] at this
        · by_cases q4 : sort (k / 2) = 1
          · rw [if_pos ⟨q, q2, Or.inr q4⟩, if_pos ⟨q, q2, Or.inr q4⟩]
            have := (h7 (k / 2) (by omega) q4).2.2.1
            rwa [show 2 * (k / 2) + 1 = k by omega] at this
          · rw [if_neg (fun z => z.2.2.elim q3 q4), if_neg (fun z => z.2.2.elim q3 q4)]
      · rw [if_neg (fun z => q2 z.2.1), if_neg (fun z => q2 z.2.1)]
    · rw [if_neg (fun z => q z.1), if_neg (fun z => q z.1)]
  | 11 =>
    simp only []
    by_cases q : k < 192
    · rw [← h5 (k / 16) (by omega)]
      by_cases q2 : sort (k / 16) ≠ 0
      · by_cases q3 : k / 8 % 2 = 0
        · have h := h6 (k / 16) (by omega) q2
          have e1 : 2 * (k / 16) = k / 8 := by omega
          rw [e1] at h
          rw [← h.2.2.1]
          by_cases q5 : ((k % 8 : Nat) : Int) < ts (k / 8)
          · rw [if_pos ⟨q, q2, Or.inl q3, q5⟩, if_pos ⟨q, q2, Or.inl q3, q5⟩]
            have := h.2.2.2 (k % 8) (by omega) q5
            rwa [show 16 * (k / 16) + k % 8 = k by omega] at this
          · rw [if_neg (fun z => q5 z.2.2.2), if_neg (fun z => q5 z.2.2.2)]
        · by_cases q4 : sort (k / 16) = 1
          · have h := h7 (k / 16) (by omega) q4
            have e1 : 2 * (k / 16) + 1 = k / 8 := by omega
            rw [e1] at h
            rw [← h.2.2.1]
            by_cases q5 : ((k % 8 : Nat) : Int) < ts (k / 8)
            · rw [if_pos ⟨q, q2, Or.inr q4, q5⟩, if_pos ⟨q, q2, Or.inr q4, q5⟩]
              have := h.2.2.2 (k % 8) (by omega) q5
              rwa [show 16 * (k / 16) + 8 + k % 8 = k by omega] at this
            · rw [if_neg (fun z => q5 z.2.2.2), if_neg (fun z => q5 z.2.2.2)]
          · rw [if_neg (fun z => z.2.2.1.elim q3 q4), if_neg (fun z => z.2.2.1.elim q3 q4)]
      · rw [if_neg (fun z => q2 z.2.1), if_neg (fun z => q2 z.2.1)]
    · rw [if_neg (fun z => q z.1), if_neg (fun z => q z.1)]
  | _ + 12 => rfl
/-- a block of the reference's page, and a State of the class, as abstract states -/
def absM (τ : Mem) (j : Nat) : Mem := mkS (τ 1 (980 * j)) (τ 1 (980 * j + 977)) (τ 1 (980 * j + 978)) (τ 1 (980 * j + 979)) (fun i => τ 1 (980 * j + 1 + i)) (fun i => τ 1 (980 * j + 21 + i)) (fun i => τ 1 (980 * j + 41 + i)) (fun k => τ 1 (980 * j + 61 + k))
  (fun r => τ 1 (980 * j + 701 + 23 * r)) (fun r => τ 1 (980 * j + 702 + 23 * r)) (fun r => τ 1 (980 * j + 703 + 23 * r)) (fun r => τ 1 (980 * j + 704 + 23 * r)) (fun r => τ 1 (980 * j + 705 + 23 * r))
  (fun q => τ 1 (980 * j + 701 + 23 * (q / 2) + (5 + 9 * (q % 2)))) (fun k => τ 1 (980 * j + 701 + 23 * (k / 16) + (6 + 9 * (k / 8 % 2)) + k % 8))
def absC (σ : Mem) (b : Nat) : Mem := mkS (σ (b + 1) 0) (σ b 2) (σ b 3) (σ b 4) (σ (b + 3)) (σ (b + 5)) (σ (b + 7)) (σ (b + 9)) (σ (b + 12)) (σ (b + 14)) (σ (b + 16)) (σ (b + 18)) (σ (b + 20)) (σ (b + 22)) (σ (b + 24))
/-- what is always true of an abstract state -/
def SV (S : Mem) : Prop := (0 ≤ S 0 0 ∧ S 0 0 ≤ 20) ∧ (1 ≤ S 0 1 ∧ S 0 1 ≤ 8) ∧ (0 ≤ S 0 2 ∧ S 0 2 ≤ 20) ∧ (S 0 3 = 0 ∨ (33 ≤ S 0 3 ∧ S 0 3 ≤ 126 ∧ S 0 3 ≠ 34 ∧ ¬ isW (S 0 3)))
  ∧ (∀ i : Nat, (i : Int) < S 0 0 → (0 ≤ S 1 i ∧ S 1 i ≤ 40) ∧ (0 ≤ S 2 i ∧ S 2 i ≤ 32) ∧ (S 3 i = 0 ∨ S 3 i = 1) ∧ (S 2 i = 0 → S 1 i = 0) ∧ (0 < S 2 i → S 4 (32 * i) ≠ 32 ∧ S 4 (32 * i + (S 2 i - 1).toNat) ≠ 32) ∧ ∀ k : Nat, (k : Int) < S 2 i → 32 ≤ S 4 (32 * i + k) ∧ S 4 (32 * i + k) ≤ 126)
  ∧ (∀ r : Nat, r < 12 → 0 ≤ S 5 r ∧ S 5 r ≤ 3 ∧ (S 5 r ≠ 0 → (0 ≤ S 6 r ∧ S 6 r ≤ 9) ∧ (-4 ≤ S 7 r ∧ S 7 r ≤ 4) ∧ (1 ≤ S 10 (2 * r) ∧ S 10 (2 * r) ≤ 8)) ∧ (S 5 r = 1 → 0 ≤ S 7 r ∧ (S 8 r = 0 ∨ S 8 r = 1) ∧ (0 ≤ S 9 r ∧ S 9 r ≤ 2) ∧ (1 ≤ S 10 (2 * r + 1) ∧ S 10 (2 * r + 1) ≤ 8)) ∧ ∀ k : Nat, k < 16 → 0 ≤ S 11 (16 * r + k) ∧ S 11 (16 * r + k) ≤ 126)
