/-! ===== the tokens of all lines, by the abstract state; the reference finds them ===== -/
def gS (S : Mem) (i : Nat) (k : Int) : Int := if 0 ≤ k ∧ k < S 2 i then S 4 (32 * i + k.toNat) else -9
def lnS (S : Mem) (i : Nat) (go : Int) : List (Int × Int × Int) × Int := if go = 0 then sLine (gS S i) (S 2 i) (S 0 3) 40 0 else if sLit (gS S i) (S 2 i) 40 0 = -9 then ([], 1) else sLine (gS S i) (S 2 i) (S 0 3) 40 (sLit (gS S i) (S 2 i) 40 0)
def goS (S : Mem) : Nat → Int
  | 0 => 0
  | i + 1 => (lnS S i (goS S i)).2
def tkS (S : Mem) (i : Nat) : List (Int × Int × Int) := (lnS S i (goS S i)).1
def fsS (S : Mem) : Nat → Nat
  | 0 => 0
  | i + 1 => fsS S i + (tkS S i).length
def hdS (S : Mem) (i : Nat) : Int := if goS S i ≠ 0 ∧ S 2 i ≠ 0 then 1 else 0
def nS (S : Mem) : Nat := (S 0 0).toNat
/-- the lines before i are divided -/
def TkP (S : Mem) (i : Nat) (hm st sz kd fr gd : Nat → Int) (cnt : Int) : Prop := cnt = fsS S i ∧ (∀ j, j < i → fr j = fsS S j) ∧ (∀ j, j < i → gd j = hdS S j) ∧ ∀ j, j < i → ∀ (t : Nat) (q : Int × Int × Int), (tkS S j)[t]? = some q → hm (fsS S j + t) = j ∧ st (fsS S j + t) = q.1 ∧ sz (fsS S j + t) = q.2.1 - q.1 ∧ kd (fsS S j + t) = q.2.2
def TkOK (S : Mem) (hm st sz kd fr gd : Nat → Int) (cnt : Int) : Prop := TkP S (nS S) hm st sz kd fr gd cnt ∧ fr (nS S) = fsS S (nS S)
def Fr (F : Nat → Nat → Prop) (τ τ' : Mem) : Prop := ∀ o k, ¬ F o k → τ' o k = τ o k
theorem Fr.rf {F : Nat → Nat → Prop} {τ : Mem} : Fr F τ τ := fun _ _ _ => rfl
theorem Fr.tr {F : Nat → Nat → Prop} {τ τ' τ'' : Mem} (h : Fr F τ τ') (h2 : Fr F τ' τ'') : Fr F τ τ'' := fun o k q => (h2 o k q).trans (h o k q)
theorem Fr.up {F : Nat → Nat → Prop} {τ τ' : Mem} {o k : Nat} {v : Int} (h : Fr F τ τ') (hF : F o k) : Fr F τ (upM τ' o k v) := fun o' k' q => by
  have : ¬ (o' = o ∧ k' = k) := fun e => q (by rw [e.1, e.2]; exact hF)
  simp only [upM, this, if_false]
  exact h o' k' q
theorem Fr.mono {F G : Nat → Nat → Prop} {τ τ' : Mem} (h : Fr F τ τ') (hFG : ∀ o k, F o k → G o k) : Fr G τ τ' := fun o k q => h o k (fun z => q (hFG o k z))
theorem gS_out {S : Mem} {i : Nat} {k : Int} (h : S 2 i ≤ k) : gS S i k = -9 := by unfold gS; rw [if_neg (by omega)]
theorem gS_nw {S : Mem} {i : Nat} {k : Int} (h : S 2 i ≤ k) : ¬ isW (gS S i k) := by rw [gS_out h]; simp [isW]
theorem sLine_go (g : Int → Int) (len cm : Int) : ∀ (n : Nat) (k : Int), (sLine g len cm n k).2 = 0 ∨ (sLine g len cm n k).2 = 1
  | 0, k => Or.inl rfl
  | n + 1, k => by
    unfold sLine
    split
    · split
      · exact sLine_go g len cm n _
      · split
        · split
          · exact Or.inr rfl
          · exact sLine_go g len cm n _
        · split
          · exact sLine_go g len cm n _
          · split
            · exact Or.inl rfl
            · split
              · exact sLine_go g len cm n _
              · exact sLine_go g len cm n _
    · exact Or.inl rfl
theorem lnS_go (S : Mem) (i : Nat) (go : Int) : (lnS S i go).2 = 0 ∨ (lnS S i go).2 = 1 := by
  unfold lnS
  split
  · exact sLine_go _ _ _ _ _
  · split
    · exact Or.inr rfl
    · exact sLine_go _ _ _ _ _
theorem goS_01 (S : Mem) : ∀ i, goS S i = 0 ∨ goS S i = 1
  | 0 => Or.inl rfl
  | _ + 1 => lnS_go _ _ _
theorem SV.len {S : Mem} (h : SV S) {i : Nat} (hi : i < nS S) : 0 ≤ S 2 i ∧ S 2 i ≤ 32 := by
  have := (h.2.2.2.2.1 i (by unfold nS at hi; omega)).2.1
  exact this
theorem SV.n {S : Mem} (h : SV S) : ((nS S : Nat) : Int) = S 0 0 ∧ nS S ≤ 20 := by have := h.1; unfold nS; omega
theorem tkS_len {S : Mem} (h : SV S) {i : Nat} (hi : i < nS S) : (tkS S i).length ≤ 32 := by
  have hl := h.len hi
  have key : ∀ k, 0 ≤ k → (sLine (gS S i) (S 2 i) (S 0 3) 40 k).1.length ≤ 32 := fun k hk => by
    have := sLine_len (gS S i) (S 2 i) (S 0 3) (fun _ h => gS_nw h) 40 k
    omega
  unfold tkS lnS
  split
  · exact key 0 (by omega)
  · split
    · simp
    · exact key _ (by have := sLit_rng (gS S i) (S 2 i) 40 0; omega)
theorem fsS_le {S : Mem} (h : SV S) : ∀ i, i ≤ nS S → fsS S i ≤ 32 * i
  | 0, _ => by simp [fsS]
  | i + 1, hi => by
    have := fsS_le h i (by omega)
    have := tkS_len h (i := i) (by omega)
    simp only [fsS]; omega
theorem fsS_mono (S : Mem) {i j : Nat} (h : i ≤ j) : fsS S i ≤ fsS S j := by
  induction j with
  | zero => rw [show i = 0 by omega]; exact Nat.le_refl _
  | succ j ih =>
    by_cases q : i = j + 1
    · rw [q]; exact Nat.le_refl _
    · have := ih (by omega)
      simp only [fsS]; omega
-- the reference
theorem aM0 (τ : Mem) : absM τ 0 = mkS (τ 1 0) (τ 1 977) (τ 1 978) (τ 1 979) (fun i => τ 1 (1 + i)) (fun i => τ 1 (21 + i)) (fun i => τ 1 (41 + i)) (fun k => τ 1 (61 + k))
  (fun r => τ 1 (701 + 23 * r)) (fun r => τ 1 (702 + 23 * r)) (fun r => τ 1 (703 + 23 * r)) (fun r => τ 1 (704 + 23 * r)) (fun r => τ 1 (705 + 23 * r))
  (fun q => τ 1 (701 + 23 * (q / 2) + (5 + 9 * (q % 2)))) (fun k => τ 1 (701 + 23 * (k / 16) + (6 + 9 * (k / 8 % 2)) + k % 8)) := by
  unfold absM; simp only [Nat.mul_zero, Nat.zero_add]
theorem aM_n (τ : Mem) : absM τ 0 0 0 = τ 1 0 := by rw [aM0]; rfl
theorem aM_stp (τ : Mem) : absM τ 0 0 1 = τ 1 977 := by rw [aM0]; rfl
theorem aM_bas (τ : Mem) : absM τ 0 0 2 = τ 1 978 := by rw [aM0]; rfl
theorem aM_cm (τ : Mem) : absM τ 0 0 3 = τ 1 979 := by rw [aM0]; rfl
theorem aM_ind {τ : Mem} {i : Nat} (h : (i : Int) < τ 1 0) : absM τ 0 1 i = τ 1 (1 + i) := by rw [aM0]; simp [mkS, h]
theorem aM_len {τ : Mem} {i : Nat} (h : (i : Int) < τ 1 0) : absM τ 0 2 i = τ 1 (21 + i) := by rw [aM0]; simp [mkS, h]
theorem aM_pin {τ : Mem} {i : Nat} (h : (i : Int) < τ 1 0) : absM τ 0 3 i = τ 1 (41 + i) := by rw [aM0]; simp [mkS, h]
theorem aM_byt {τ : Mem} {i k : Nat} (h : (i : Int) < τ 1 0) (hk : k < 32) (hk2 : (k : Int) < τ 1 (21 + i)) : absM τ 0 4 (32 * i + k) = τ 1 (61 + 32 * i + k) := by
  rw [aM0]
  simp only [mkS]
  rw [show (32 * i + k) / 32 = i by omega, show (32 * i + k) % 32 = k by omega, if_pos ⟨h, hk2⟩, show 61 + (32 * i + k) = 61 + 32 * i + k by omega]
theorem gM_gS {τ : Mem} {i : Nat} (h : (i : Int) < τ 1 0) (hl : τ 1 (21 + i) ≤ 32) : gM τ i = gS (absM τ 0) i := by
  funext k
  unfold gM gS
  rw [aM_len h]
  by_cases q : 0 ≤ k ∧ k < τ 1 (21 + i)
  · rw [if_pos q, if_pos q, aM_byt h (by omega) (by omega)]
  · rw [if_neg q, if_neg q]
theorem LnV_of {τ : Mem} (hS : SV (absM τ 0)) {i : Nat} (hi : i < nS (absM τ 0)) : LnV τ i := by
  have hn : (i : Int) < τ 1 0 := by have := hS.n; rw [aM_n] at this; omega
  obtain ⟨-, h2, -, -, -, h6⟩ := hS.2.2.2.2.1 i (by rw [aM_n]; exact hn)
  rw [aM_len hn] at h2 h6
  refine ⟨h2.1, h2.2, fun k hk => ?_⟩
  have := h6 k hk
  rw [aM_byt hn (by omega) hk] at this
  exact this
theorem putM_spec (i : Int) : ∀ (ts : List (Int × Int × Int)) (τ : Mem), 0 ≤ τ 0 12 →
    (putM i ts τ) 0 12 = τ 0 12 + ts.length ∧ Fr (fun o k => (4 ≤ o ∧ o ≤ 7 ∧ (τ 0 12).toNat ≤ k) ∨ (o = 0 ∧ k = 12)) τ (putM i ts τ) ∧
    ∀ (t : Nat) (q : Int × Int × Int), ts[t]? = some q → (putM i ts τ) 4 ((τ 0 12).toNat + t) = i ∧ (putM i ts τ) 5 ((τ 0 12).toNat + t) = q.1 ∧ (putM i ts τ) 6 ((τ 0 12).toNat + t) = q.2.1 - q.1 ∧ (putM i ts τ) 7 ((τ 0 12).toNat + t) = q.2.2
  | [], τ, _ => ⟨by simp [putM], fun _ _ _ => rfl, fun t q h => by simp at h⟩
  | a :: ts, τ, h0 => by
    obtain ⟨h1, h2, h3⟩ := putM_spec i ts (adM τ i a.1 a.2.1 a.2.2) (by rw [adM_n]; omega)
    rw [adM_n] at h1 h2 h3
    have e : (τ 0 12 + 1).toNat = (τ 0 12).toNat + 1 := by omega
    rw [e] at h2 h3
    refine ⟨?_, ?_, ?_⟩
    · show (putM i ts (adM τ i a.1 a.2.1 a.2.2)) 0 12 = _
      rw [h1]; simp only [List.length_cons]; omega
    · intro o k q
      show (putM i ts (adM τ i a.1 a.2.1 a.2.2)) o k = _
      rw [h2 o k (by omega)]
      unfold adM
      simp only [upM]
      repeat rw [if_neg (by omega)]
    · intro t q hq
      show (putM i ts (adM τ i a.1 a.2.1 a.2.2)) 4 _ = _ ∧ (putM i ts (adM τ i a.1 a.2.1 a.2.2)) 5 _ = _ ∧ (putM i ts (adM τ i a.1 a.2.1 a.2.2)) 6 _ = _ ∧ (putM i ts (adM τ i a.1 a.2.1 a.2.2)) 7 _ = _
      cases t with
      | zero =>
        simp at hq
        subst hq
        rw [h2 4 _ (by omega), h2 5 _ (by omega), h2 6 _ (by omega), h2 7 _ (by omega)]
        simp [adM, upM]
      | succ t =>
        simp at hq
        have := h3 t q hq
        rw [show (τ 0 12).toNat + 1 + t = (τ 0 12).toNat + (t + 1) by omega] at this
        exact this
