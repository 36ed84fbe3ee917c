/-! ===== digest: the reference ===== -/
section DH
variable {σ τ : Mem}
def F40 (o k : Nat) : Prop := o = 0 ∧ k = 40
theorem md_mixR {v : Int} (hv : RI v) : Md_mixes v τ = some (0, upM τ 0 40 (31 * τ 0 40 + v)) := by
  unfold Md_mixes letM
  rw [hv.w]
theorem up40 (v : Int) : upM τ 0 40 v 0 40 = v := by simp [upM]
theorem fr40 (v : Int) : Fr F40 τ (upM τ 0 40 v) := Fr.up Fr.rf ⟨rfl, rfl⟩
/-- one number is mixed in -/
theorem md_mixE {v : Int} (hv : RI v) {Q : Int → Mem → Prop} (k : ∀ τ', Fr F40 τ τ' → τ' 0 40 = 31 * τ 0 40 + v → Q 0 τ') : Ex (Md_mixes v τ) Q := Ex.of (md_mixR hv) (k _ (fr40 _) (up40 _))
theorem md_mt_2 {t D : Nat} (ht : t + 9 ≤ 10780) (hD : D ≤ 8) : ∀ (m n k : Nat) (τ : Mem), τ 1 t = D → (∀ j, j < D → 0 ≤ τ 1 (t + 1 + j) ∧ τ 1 (t + 1 + j) ≤ 126) → k + m = D → m < n → Ex (Md_mixesText_2 n t k τ) (fun _ τ' => Fr F40 τ τ' ∧ τ' 0 40 = hB (fun j => τ 1 (t + 1 + j)) m k (τ 0 40)) := by
  intro m
  induction m with
  | zero =>
    intro n k τ h1 hb hk hn
    obtain ⟨n, rfl⟩ : ∃ z, n = z + 1 := ⟨n - 1, by omega⟩
    show Ex (Md_mixesText_2b (Md_mixesText_2 n) t k τ) _
    unfold Md_mixesText_2b
    rw [if_pos (inb (by omega) (by omega) (by omega)), wrn (a := (t : Int)) rfl (by omega), h1, wr_id (n := (k : Int)) (by omega) (by omega), wr_id (n := (D : Int)) (by omega) (by omega), if_neg (by omega)]
    exact Ex.ret ⟨Fr.rf, by rw [hB_0]⟩
  | succ m ih =>
    intro n k τ h1 hb hk hn
    obtain ⟨n, rfl⟩ : ∃ z, n = z + 1 := ⟨n - 1, by omega⟩
    have hbk := hb k (by omega)
    show Ex (Md_mixesText_2b (Md_mixesText_2 n) t k τ) _
    unfold Md_mixesText_2b
    rw [if_pos (inb (by omega) (by omega) (by omega)), wrn (a := (t : Int)) rfl (by omega), h1, wr_id (n := (k : Int)) (by omega) (by omega), wr_id (n := (D : Int)) (by omega) (by omega), if_pos (by omega), if_pos (inb (by omega) (by omega) (by omega)), wrn (n := t + 1 + k) (by omega) (by omega)]
    refine Ex.bnd (md_mixE ⟨by omega, by omega⟩ (fun τ1 f1 e1 => ?_))
    have k1 : ∀ z, τ1 1 z = τ 1 z := fun z => f1 1 z (by unfold F40; omega)
    have := ih n (k + 1) τ1 (by rw [k1]; exact h1) (fun j hj => by rw [k1]; exact hb j hj) (by omega) (by omega)
    rw [show (((k + 1 : Nat)) : Int) = (k : Int) + 1 by omega] at this
    refine this.mono (fun _ τ2 z => ⟨f1.tr z.1, ?_⟩)
    rw [z.2, e1, hB_s]
    exact hB_congr m (k + 1) _ (fun j h1 h2 => k1 _)
theorem md_mixesText {t D : Nat} (ht : t + 9 ≤ 10780) (hD : D ≤ 8) (h1 : τ 1 t = D) (hb : ∀ j, j < D → 0 ≤ τ 1 (t + 1 + j) ∧ τ 1 (t + 1 + j) ≤ 126) : Ex (Md_mixesText t τ) (fun _ τ' => Fr F40 τ τ' ∧ τ' 0 40 = hB (fun j => τ 1 (t + 1 + j)) D 0 (τ 0 40)) := md_mt_2 ht hD D 100000 0 τ h1 hb (by omega) (by omega)
theorem md_mixesRule {r : Nat} (hr : r < 12) (hR : ruR σ τ r) : Ex (Md_mixesRule r τ) (fun _ τ' => Fr F40 τ τ' ∧ τ' 0 40 = ruH σ r (τ 0 40)) := by
  obtain ⟨a, b, c, d, f⟩ := hR
  unfold Md_mixesRule
  rw [if_pos (inb (by omega) (by omega) (by omega)), wrn (n := 701 + 23 * r) (by omega) (by omega), a]
  refine Ex.bnd (md_mixE ⟨by omega, by omega⟩ (fun τ1 f1 e1 => ?_))
  rw [wr_id (n := σ 13 r) (by omega) (by omega)]
  unfold ruH
  by_cases q : σ 13 r = 0
  · rw [if_pos q, if_pos q]
    exact Ex.ret ⟨f1, e1⟩
  · obtain ⟨d1, d2, d3, d4⟩ := d q
    obtain ⟨L0, hL0⟩ : ∃ z : Nat, σ 23 (2 * r) = (z : Int) := ⟨(σ 23 (2 * r)).toNat, by omega⟩
    rw [if_neg q, if_neg q, if_pos (inb (by omega) (by omega) (by omega)), wrn (n := 702 + 23 * r) (by omega) (by omega)]
    show Ex ((Md_mixes (τ1 1 (702 + 23 * r)) τ1).bind _) _
    rw [f1 1 (702 + 23 * r) (by unfold F40; omega), d1.1]
    refine Ex.bnd (md_mixE ⟨by omega, by omega⟩ (fun τ2 f2 e2 => ?_))
    rw [if_pos (inb (by omega) (by omega) (by omega)), wrn (n := 703 + 23 * r) (by omega) (by omega)]
    show Ex ((Md_mixes (τ2 1 (703 + 23 * r)) τ2).bind _) _
    rw [f2 1 (703 + 23 * r) (by unfold F40; omega), f1 1 (703 + 23 * r) (by unfold F40; omega), d2.1]
    refine Ex.bnd (md_mixE ⟨by omega, by omega⟩ (fun τ3 f3 e3 => ?_))
    have g3 : Fr F40 τ τ3 := (f1.tr f2).tr f3
    have txt0 : ∀ ρ, Fr F40 τ ρ → Ex (Md_mixesText (701 + 23 * (r : Int) + 5) ρ) (fun _ ρ' => Fr F40 ρ ρ' ∧ ρ' 0 40 = hB (fun k => σ 25 (16 * r + k)) (σ 23 (2 * r)).toNat 0 (ρ 0 40)) := by
      intro ρ g
      have k1 : ∀ z, ρ 1 z = τ 1 z := fun z => g 1 z (by unfold F40; omega)
      rw [show 701 + 23 * (r : Int) + 5 = ((706 + 23 * r : Nat) : Int) by omega]
      refine (md_mixesText (τ := ρ) (t := 706 + 23 * r) (D := L0) (by omega) (by omega) (by rw [k1, d3.1, hL0]) (fun j hj => by rw [k1, show 706 + 23 * r + 1 + j = 707 + 23 * r + j by omega, (d4 j (by omega)).1]; exact (d4 j (by omega)).2)).mono (fun _ ρ' z => ⟨z.1, ?_⟩)
      rw [z.2, hL0, show ((L0 : Int)).toNat = L0 by omega]
      exact hB_congr L0 0 _ (fun j h1 h2 => by rw [k1, show 706 + 23 * r + 1 + j = 707 + 23 * r + j by omega]; exact (d4 j (by omega)).1)
    by_cases q1 : σ 13 r = 1
    · obtain ⟨u0, u1, u2, u3, u4⟩ := f q1
      obtain ⟨L1, hL1⟩ : ∃ z : Nat, σ 23 (2 * r + 1) = (z : Int) := ⟨(σ 23 (2 * r + 1)).toNat, by omega⟩
      rw [if_pos q1, if_pos q1, if_pos (inb (by omega) (by omega) (by omega)), wrn (n := 704 + 23 * r) (by omega) (by omega)]
      show Ex ((Md_mixes (τ3 1 (704 + 23 * r)) τ3).bind _) _
      rw [g3 1 (704 + 23 * r) (by unfold F40; omega), u1.1]
      refine Ex.bnd (md_mixE ⟨by omega, by omega⟩ (fun τ4 f4 e4 => ?_))
      rw [if_pos (inb (by omega) (by omega) (by omega)), wrn (n := 705 + 23 * r) (by omega) (by omega)]
      show Ex ((Md_mixes (τ4 1 (705 + 23 * r)) τ4).bind _) _
      rw [f4 1 (705 + 23 * r) (by unfold F40; omega), g3 1 (705 + 23 * r) (by unfold F40; omega), u2.1]
      refine Ex.bnd (md_mixE ⟨by omega, by omega⟩ (fun τ5 f5 e5 => ?_))
      have g5 : Fr F40 τ τ5 := (g3.tr f4).tr f5
      unfold Md_mixesRule_81
      refine Ex.bnd ((txt0 τ5 g5).mono (fun _ τ6 z6 => ?_))
      rw [q1, wr_1, if_pos rfl]
      refine Ex.bnd (md_mixE ⟨by omega, by omega⟩ (fun τ7 f7 e7 => ?_))
      have g7 : Fr F40 τ τ7 := (g5.tr z6.1).tr f7
      have k7 : ∀ z, τ7 1 z = τ 1 z := fun z => g7 1 z (by unfold F40; omega)
      show Ex ((Md_mixesText (701 + 23 * (r : Int) + 14) τ7).bind _) _
      rw [show 701 + 23 * (r : Int) + 14 = ((715 + 23 * r : Nat) : Int) by omega]
      refine Ex.bnd ((md_mixesText (τ := τ7) (t := 715 + 23 * r) (D := L1) (by omega) (by omega) (by rw [k7, u3.1, hL1]) (fun j hj => by rw [k7, show 715 + 23 * r + 1 + j = 716 + 23 * r + j by omega, (u4 j (by omega)).1]; exact (u4 j (by omega)).2)).mono (fun _ τ8 z8 => Ex.ret ⟨g7.tr z8.1, ?_⟩))
      show τ8 0 40 = _
      have e7' : τ7 0 40 = 31 * τ6 0 40 + 32 := e7
      have e5' : τ5 0 40 = 31 * τ4 0 40 + σ 21 r := e5
      have e4' : τ4 0 40 = 31 * τ3 0 40 + σ 19 r := e4
      have e3' : τ3 0 40 = 31 * τ2 0 40 + σ 17 r := e3
      have e2' : τ2 0 40 = 31 * τ1 0 40 + σ 15 r := e2
      rw [z8.2, e7', z6.2, e5', e4', e3', e2', e1, hL1, show ((L1 : Int)).toNat = L1 by omega, q1]
      exact hB_congr L1 0 _ (fun j h1 h2 => by rw [k7, show 715 + 23 * r + 1 + j = 716 + 23 * r + j by omega]; exact (u4 j (by omega)).1)
    · rw [if_neg q1, if_neg q1]
      unfold Md_mixesRule_81
      refine Ex.bnd ((txt0 τ3 g3).mono (fun _ τ6 z6 => ?_))
      rw [wr_id (n := σ 13 r) (by omega) (by omega), if_neg q1]
      refine Ex.ret ⟨g3.tr z6.1, ?_⟩
      show τ6 0 40 = _
      have e3' : τ3 0 40 = 31 * τ2 0 40 + σ 17 r := e3
      have e2' : τ2 0 40 = 31 * τ1 0 40 + σ 15 r := e2
      rw [z6.2, e3', e2', e1]
theorem md_dg_234 {y : Int} (hy : y = 0 ∨ y = 1) (h2 : τ 2 1 = 0 ∨ τ 2 1 = 1) (h4 : 0 ≤ τ 0 4 ∧ τ 0 4 ≤ 72) : Ex (Md_digest_234 y τ) (fun r τ' => Fr F40 τ τ' ∧ r = 31 * (31 * τ 0 40 + (y + τ 2 1)) + τ 0 4) := by
  have go : ∀ v, RI v → v = y + τ 2 1 → Ex ((Md_mixes v τ).bind fun q18 => (Md_mixes (q18.2 0 4) q18.2).bind fun q19 => some ((q19.2 0 40), q19.2)) (fun r τ' => Fr F40 τ τ' ∧ r = 31 * (31 * τ 0 40 + (y + τ 2 1)) + τ 0 4) := by
    intro v hv e
    refine Ex.bnd (md_mixE hv (fun τ1 f1 e1 => ?_))
    show Ex ((Md_mixes (τ1 0 4) τ1).bind _) _
    rw [f1 0 4 (by unfold F40; omega)]
    refine Ex.bnd (md_mixE ⟨by omega, by omega⟩ (fun τ2 f2 e2 => Ex.ret ⟨f1.tr f2, ?_⟩))
    show τ2 0 40 = _
    rw [e2, e1, e]
  unfold Md_digest_234
  rw [if_pos (by decide), show (wr 1).toNat = 1 from by decide]
  rcases h2 with z | z
  · rw [z, wr_0, if_pos rfl]; rw [z] at go; exact go (y + 0) ⟨by omega, by omega⟩ rfl
  · rw [z, wr_1, if_neg n10]; rw [z] at go; exact go (y + 1) ⟨by omega, by omega⟩ rfl
theorem md_dg_194 (h1 : 0 ≤ τ 0 1 ∧ τ 0 1 ≤ 8) (h2 : ∀ k, k < 2 → τ 2 k = 0 ∨ τ 2 k = 1) (h4 : 0 ≤ τ 0 4 ∧ τ 0 4 ≤ 72) (hR : ∀ r, r < 12 → ruR σ τ r) : ∀ (m n r : Nat) (ρ : Mem), Fr F40 τ ρ → r + m = 12 → m < n → Ex (Md_digest_194 n r ρ) (fun v ρ' => Fr F40 τ ρ' ∧ v = 31 * (31 * (31 * rsH σ m r (ρ 0 40) + τ 0 1) + (τ 2 0 + τ 2 1)) + τ 0 4) := by
  intro m
  induction m with
  | zero =>
    intro n r ρ g hr hn
    obtain ⟨n, rfl⟩ : ∃ z, n = z + 1 := ⟨n - 1, by omega⟩
    show Ex (Md_digest_194b (Md_digest_194 n) r ρ) _
    unfold Md_digest_194b
    rw [wr_id (n := (r : Int)) (by omega) (by omega), if_neg (by omega), g 0 1 (by unfold F40; omega)]
    refine Ex.bnd (md_mixE ⟨by omega, by omega⟩ (fun τ1 f1 e1 => ?_))
    have g1 : Fr F40 τ τ1 := g.tr f1
    rw [if_pos (by decide), show (wr 0).toNat = 0 from by decide]
    show Ex (if wr (τ1 2 0) = 0 then _ else _) _
    rw [g1 2 0 (by unfold F40; omega)]
    have fin : ∀ y, y = τ 2 0 → Ex (Md_digest_234 y τ1) (fun v ρ' => Fr F40 τ ρ' ∧ v = 31 * (31 * (31 * rsH σ 0 r (ρ 0 40) + τ 0 1) + (τ 2 0 + τ 2 1)) + τ 0 4) := by
      intro y hy
      refine (md_dg_234 (τ := τ1) (y := y) (by rw [hy]; exact h2 0 (by omega)) (by rw [g1 2 1 (by unfold F40; omega)]; exact h2 1 (by omega)) (by rw [g1 0 4 (by unfold F40; omega)]; exact h4)).mono (fun v ρ' z => ⟨g1.tr z.1, ?_⟩)
      rw [z.2, e1, rsH_0, hy, g1 2 1 (by unfold F40; omega), g1 0 4 (by unfold F40; omega)]
    rcases h2 0 (by omega) with z | z
    · rw [z, wr_0, if_pos rfl]; rw [z] at fin; exact fin 0 rfl
    · rw [z, wr_1, if_neg n10]; rw [z] at fin; exact fin 1 rfl
  | succ m ih =>
    intro n r ρ g hr hn
    obtain ⟨n, rfl⟩ : ∃ z, n = z + 1 := ⟨n - 1, by omega⟩
    show Ex (Md_digest_194b (Md_digest_194 n) r ρ) _
    unfold Md_digest_194b
    rw [wr_id (n := (r : Int)) (by omega) (by omega), if_pos (by omega)]
    refine Ex.bnd ((md_mixesRule (σ := σ) (τ := ρ) (r := r) (by omega) (ruR_keep (hR r (by omega)) (fun o k q => rfl) (fun k h1 h2 => g 1 k (by unfold F40; omega)))).mono (fun _ τ1 z => ?_))
    have := ih n (r + 1) τ1 (g.tr z.1) (by omega) (by omega)
    rw [show (((r + 1 : Nat)) : Int) = (r : Int) + 1 by omega] at this
    refine this.mono (fun v ρ' y => ⟨y.1, ?_⟩)
    rw [y.2, z.2, rsH_s]
end DH
