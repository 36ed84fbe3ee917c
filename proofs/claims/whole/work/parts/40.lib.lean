/-! ===== pure: helpers ===== -/
theorem wrn {a : Int} {n : Nat} (h : a = (n : Int)) (hn : n ≤ 2147483647) : (wr a).toNat = n := by
  rw [wr_id (by omega) (by omega)]; omega
theorem inb {a n : Int} (h0 : 0 ≤ a) (h1 : a < n) (hn : n ≤ 2147483648) : 0 ≤ wr a ∧ wr a < n := by
  rw [wr_id (by omega) (by omega)]; exact ⟨h0, h1⟩
def Ex (E : Option (Int × Mem)) (Q : Int → Mem → Prop) : Prop := ∃ r σ, E = some (r, σ) ∧ Q r σ
theorem Ex.ret {r : Int} {σ : Mem} {Q : Int → Mem → Prop} (h : Q r σ) : Ex (some (r, σ)) Q := ⟨r, σ, rfl, h⟩
theorem Ex.ite {c : Prop} {_ : Decidable c} {A B : Option (Int × Mem)} {Q : Int → Mem → Prop} (h1 : c → Ex A Q) (h2 : ¬ c → Ex B Q) : Ex (if c then A else B) Q := by
  by_cases h : c
  · rw [if_pos h]; exact h1 h
  · rw [if_neg h]; exact h2 h
theorem Ex.bnd {E : Option (Int × Mem)} {F : Int × Mem → Option (Int × Mem)} {Q : Int → Mem → Prop} (h : Ex E (fun r σ => Ex (F (r, σ)) Q)) : Ex (E.bind F) Q := by
  obtain ⟨r, σ, h1, h2⟩ := h
  rw [h1]; exact h2
theorem Ex.lt {σ : Mem} {F : Mem → Option (Int × Mem)} {Q : Int → Mem → Prop} (h : Ex (F σ) Q) : Ex (letM σ F) Q := h
theorem Ex.mono {E : Option (Int × Mem)} {Q Q' : Int → Mem → Prop} (h : Ex E Q) (k : ∀ r σ, Q r σ → Q' r σ) : Ex E Q' := by
  obtain ⟨r, σ, h1, h2⟩ := h
  exact ⟨r, σ, h1, k r σ h2⟩
theorem Ex.of {E : Option (Int × Mem)} {r : Int} {σ : Mem} {Q : Int → Mem → Prop} (h : E = some (r, σ)) (k : Q r σ) : Ex E Q := ⟨r, σ, h, k⟩
theorem fixS {α : Type} (bot : α) (step : α → α) (n : Nat) : fixN bot step (n + 1) = step (fixN bot step n) := rfl
abbrev isW (c : Int) : Prop := (97 ≤ c ∧ c ≤ 122) ∨ (65 ≤ c ∧ c ≤ 90) ∨ (48 ≤ c ∧ c ≤ 57) ∨ c = 95
abbrev trip (g : Int → Int) (k : Int) : Prop := g k = 34 ∧ g (k + 1) = 34 ∧ g (k + 2) = 34
def sLit (g : Int → Int) (len : Int) : Nat → Int → Int
  | 0, _ => -9
  | n + 1, k => if k < len then (if trip g k then k + 3 else sLit g len n (k + 1)) else -9
def sStr (g : Int → Int) (len : Int) : Nat → Int → Int
  | 0, _ => len
  | n + 1, k => if k < len then (if g k = 34 then k + 1 else if g k = 92 then sStr g len n (k + 2) else sStr g len n (k + 1)) else len
def sWord (g : Int → Int) : Nat → Int → Int
  | 0, k => k
  | n + 1, k => if isW (g k) then sWord g n (k + 1) else k
/-- the tokens of a line from k on (start, end, kind), and whether a literal goes on behind it -/
def sLine (g : Int → Int) (len cm : Int) : Nat → Int → List (Int × Int × Int) × Int
  | 0, _ => ([], 0)
  | n + 1, k =>
    if k < len then
      (if g k = 32 then sLine g len cm n (k + 1)
      else if trip g k then (if sLit g len 40 (k + 3) = -9 then ([(k, len, 2)], 1) else ((k, sLit g len 40 (k + 3), 2) :: (sLine g len cm n (sLit g len 40 (k + 3))).1, (sLine g len cm n (sLit g len 40 (k + 3))).2))
      else if g k = 34 then ((k, sStr g len 40 (k + 1), 2) :: (sLine g len cm n (sStr g len 40 (k + 1))).1, (sLine g len cm n (sStr g len 40 (k + 1))).2)
      else if g k = cm then ([], 0)
      else if isW (g k) then ((k, sWord g 40 k, 0) :: (sLine g len cm n (sWord g 40 k)).1, (sLine g len cm n (sWord g 40 k)).2)
      else ((k, k + 1, 1) :: (sLine g len cm n (k + 1)).1, (sLine g len cm n (k + 1)).2))
    else ([], 0)
theorem sLit_rng (g : Int → Int) (len : Int) : ∀ (n : Nat) (k : Int), sLit g len n k = -9 ∨ (k + 3 ≤ sLit g len n k ∧ sLit g len n k < len + 3)
  | 0, k => Or.inl rfl
  | n + 1, k => by
    unfold sLit
    split
    · split
      · right; omega
      · have := sLit_rng g len n (k + 1); omega
    · left; rfl
theorem sStr_rng (g : Int → Int) (len : Int) : ∀ (n : Nat) (k : Int), sStr g len n k = len ∨ (k + 1 ≤ sStr g len n k ∧ sStr g len n k ≤ len)
  | 0, k => Or.inl rfl
  | n + 1, k => by
    unfold sStr
    split
    · split
      · right; omega
      · split
        · have := sStr_rng g len n (k + 2); omega
        · have := sStr_rng g len n (k + 1); omega
    · left; rfl
theorem sWord_rng (g : Int → Int) (len : Int) (hg : ∀ k, len ≤ k → ¬ isW (g k)) : ∀ (n : Nat) (k : Int), k ≤ sWord g n k ∧ (k ≤ len → sWord g n k ≤ len)
  | 0, k => ⟨Int.le_refl _, fun h => h⟩
  | n + 1, k => by
    unfold sWord
    split
    · rename_i h
      have := sWord_rng g len hg n (k + 1)
      refine ⟨by omega, fun h2 => this.2 ?_⟩
      by_cases h3 : len ≤ k
      · exact absurd h (hg k h3)
      · omega
    · exact ⟨Int.le_refl _, fun h => h⟩
theorem sWord_gt (g : Int → Int) (len : Int) (hg : ∀ k, len ≤ k → ¬ isW (g k)) {k : Int} (h : isW (g k)) (n : Nat) (hn : 0 < n) : k + 1 ≤ sWord g n k := by
  obtain ⟨n, rfl⟩ : ∃ z, n = z + 1 := ⟨n - 1, by omega⟩
  unfold sWord
  rw [if_pos h]
  exact (sWord_rng g len hg n (k + 1)).1
