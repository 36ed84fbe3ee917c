/-! ===== digest: the class ===== -/
section DG
variable {σ τ : Mem}
def hB (f : Nat → Int) : Nat → Nat → Int → Int
  | 0, _, h => h
  | m + 1, k, h => hB f m (k + 1) (31 * h + f k)
theorem hB_s (f : Nat → Int) (m k : Nat) (h : Int) : hB f (m + 1) k h = hB f m (k + 1) (31 * h + f k) := rfl
theorem hB_0 (f : Nat → Int) (k : Nat) (h : Int) : hB f 0 k h = h := rfl
theorem hB_congr {f g : Nat → Int} : ∀ (m k : Nat) (h : Int), (∀ j, k ≤ j → j < k + m → f j = g j) → hB f m k h = hB g m k h
  | 0, k, h, _ => rfl
  | m + 1, k, h, e => by rw [hB_s, hB_s, e k (by omega) (by omega)]; exact hB_congr m (k + 1) _ (fun j h1 h2 => e j (by omega) (by omega))
noncomputable def wvS (S : Mem) (stp bas : Int) (i : Nat) : Int := cif (frS S i) (wanS S (S 1) stp bas i) (-9)
noncomputable def lnH (S : Mem) (stp bas : Int) (i : Nat) (h : Int) : Int := 31 * (31 * hB (fun k => S 4 (32 * i + k)) (S 2 i).toNat 0 (31 * (31 * h + S 1 i) + S 2 i) + S 3 i) + wvS S stp bas i
noncomputable def lsH (S : Mem) (stp bas : Int) : Nat → Nat → Int → Int
  | 0, _, h => h
  | m + 1, i, h => lsH S stp bas m (i + 1) (lnH S stp bas i h)
theorem lsH_s (S : Mem) (stp bas : Int) (m i : Nat) (h : Int) : lsH S stp bas (m + 1) i h = lsH S stp bas m (i + 1) (lnH S stp bas i h) := rfl
theorem lsH_0 (S : Mem) (stp bas : Int) (i : Nat) (h : Int) : lsH S stp bas 0 i h = h := rfl
def ruH (σ : Mem) (r : Nat) (h : Int) : Int := if σ 13 r = 0 then 31 * h + σ 13 r else if σ 13 r = 1 then hB (fun k => σ 25 (16 * r + 8 + k)) (σ 23 (2 * r + 1)).toNat 0 (31 * hB (fun k => σ 25 (16 * r + k)) (σ 23 (2 * r)).toNat 0 (31 * (31 * (31 * (31 * (31 * h + σ 13 r) + σ 15 r) + σ 17 r) + σ 19 r) + σ 21 r) + 32) else hB (fun k => σ 25 (16 * r + k)) (σ 23 (2 * r)).toNat 0 (31 * (31 * (31 * h + σ 13 r) + σ 15 r) + σ 17 r)
def rsH (σ : Mem) : Nat → Nat → Int → Int
  | 0, _, h => h
  | m + 1, r, h => rsH σ m (r + 1) (ruH σ r h)
theorem rsH_s (σ : Mem) (m r : Nat) (h : Int) : rsH σ (m + 1) r h = rsH σ m (r + 1) (ruH σ r h) := rfl
theorem rsH_0 (σ : Mem) (r : Nat) (h : Int) : rsH σ 0 r h = h := rfl
theorem bnd_s {x : Int} {ρ : Mem} {F : Int × Mem → Option (Int × Mem)} : (some (x, ρ)).bind F = F (x, ρ) := rfl
theorem ai_mixR {h v : Int} (hv : RI v) : Ai_mix h v σ = some (31 * h + v, σ) := by
  unfold Ai_mix
  rw [hv.w]
theorem Kw.byt {S σ1 : Mem} (hK : Kw S τ σ1) {i k : Nat} (hi : i < nS S) (hk : (k : Int) < S 2 i) : σ1 10 (32 * i + k) = S 4 (32 * i + k) ∧ 32 ≤ S 4 (32 * i + k) ∧ S 4 (32 * i + k) ≤ 126 := by
  have hn := hK.n
  have hl := hK.1.1.len hi
  have h1 := aC_byt (σ := σ1) (i := i) (k := k) (by omega) (by omega) (by rw [hK.sz hi]; exact hk)
  rw [hK.1.2.2.1] at h1
  exact ⟨h1.symm, (hK.1.1.2.2.2.2.1 i (by omega)).2.2.2.2.2 k hk⟩
theorem ai_ml_44 (h : Inv σ τ) {σ1 : Mem} (hK : Kw (absM τ 0) τ σ1) (e1 : σ1 1 = σ 1) {i L : Nat} (hi : i < nS (absM τ 0)) (hL : absM τ 0 2 i = L) : ∀ (m n k : Nat) (hh : Int), k + m = L → m < n → Ai_mixLine_44 n i L hh k σ1 = some (31 * (31 * hB (fun k => absM τ 0 4 (32 * i + k)) m k hh + absM τ 0 3 i) + wvS (absM τ 0) (τ 1 977) (τ 1 978) i, σ1) := by
  have hn := hK.n
  have hl := hK.1.1.len hi
  have hw := wan_rng (S := absM τ 0) (rw := absM τ 0 1) (stp := τ 1 977) (bas := τ 1 978) (i := i)
  have hwr : RI (wvS (absM τ 0) (τ 1 977) (τ 1 978) i) := by
    unfold wvS
    by_cases q : frS (absM τ 0) i
    · rw [cif_pos q]; exact ⟨by omega, by omega⟩
    · rw [cif_neg q]; exact ⟨by omega, by omega⟩
  intro m
  induction m with
  | zero =>
    intro n k hh hk hnn
    obtain ⟨n, rfl⟩ : ∃ z, n = z + 1 := ⟨n - 1, by omega⟩
    have hp := hK.pin hi
    show Ai_mixLine_44b (Ai_mixLine_44 n) i L hh k σ1 = _
    unfold Ai_mixLine_44b
    rw [wr_id (n := (k : Int)) (by omega) (by omega), wr_id (n := (L : Int)) (by omega) (by omega), if_neg (by omega), rg_7 (by omega) (by omega)]
    rw [bnd_s]
    dsimp only
    rw [show ((i : Int)).toNat = i by omega, hp.1, ai_mixR ⟨by omega, by omega⟩]
    rw [bnd_s]
    dsimp only
    rw [hK.col h e1 hi]
    rw [bnd_s]
    dsimp only
    rw [show cif (frS (absM τ 0) i) (wanS (absM τ 0) (absM τ 0 1) (τ 1 977) (τ 1 978) i) (-9) = wvS (absM τ 0) (τ 1 977) (τ 1 978) i from rfl, ai_mixR hwr, hB_0, bnd_s]
  | succ m ih =>
    intro n k hh hk hnn
    obtain ⟨n, rfl⟩ : ∃ z, n = z + 1 := ⟨n - 1, by omega⟩
    have hb := hK.byt (k := k) hi (by omega)
    show Ai_mixLine_44b (Ai_mixLine_44 n) i L hh k σ1 = _
    unfold Ai_mixLine_44b
    rw [wr_id (n := (k : Int)) (by omega) (by omega), wr_id (n := (L : Int)) (by omega) (by omega), if_pos (by omega), lin_byteR (E := L) (by omega) (by rw [hK.sz hi]; exact hL) (by omega) (by omega), if_pos (by omega)]
    rw [bnd_s]
    dsimp only
    rw [hb.1, ai_mixR ⟨by omega, by omega⟩]
    rw [bnd_s]
    dsimp only
    rw [show (k : Int) + 1 = ((k + 1 : Nat) : Int) by omega, ih n (k + 1) _ (by omega) (by omega), hB_s]
theorem ai_mixLine (h : Inv σ τ) {σ1 : Mem} (hK : Kw (absM τ 0) τ σ1) (e1 : σ1 1 = σ 1) {i : Nat} (hi : i < nS (absM τ 0)) (hh : Int) : Ai_mixLine hh i σ1 = some (lnH (absM τ 0) (τ 1 977) (τ 1 978) i hh, σ1) := by
  have hn := hK.n
  have hl := hK.1.1.len hi
  have hind := hK.ind hi
  obtain ⟨L, hL⟩ : ∃ z : Nat, absM τ 0 2 i = (z : Int) := ⟨(absM τ 0 2 i).toNat, by omega⟩
  unfold Ai_mixLine
  rw [rg_5 (by omega) (by omega)]
  rw [bnd_s]
  dsimp only
  rw [rg_3 (by omega) (by omega)]
  rw [bnd_s]
  dsimp only
  rw [show ((i : Int)).toNat = i by omega, hK.sz hi, hind.1, ai_mixR ⟨by omega, by omega⟩]
  rw [bnd_s]
  dsimp only
  rw [hL, ai_mixR ⟨by omega, by omega⟩]
  rw [bnd_s]
  dsimp only
  have := ai_ml_44 h hK e1 hi hL L 100000 0 (31 * (31 * hh + absM τ 0 1 i) + (L : Int)) (by omega) (by omega)
  rw [show ((0 : Nat) : Int) = 0 from rfl] at this
  unfold lnH
  rw [this, hL, show ((L : Int)).toNat = L by omega]
theorem rul_mt_6 {q L : Nat} (hq : q < 24) (hL : σ 23 q = L) (hL8 : L ≤ 8) (hb : ∀ k, k < L → 0 ≤ σ 25 (8 * q + k) ∧ σ 25 (8 * q + k) ≤ 126) : ∀ (m n k : Nat) (h : Int), k + m = L → m < n → Rul_mixText_6 n q h k σ = some (hB (fun k => σ 25 (8 * q + k)) m k h, σ) := by
  intro m
  induction m with
  | zero =>
    intro n k h hk hn
    obtain ⟨n, rfl⟩ : ∃ z, n = z + 1 := ⟨n - 1, by omega⟩
    show Rul_mixText_6b (Rul_mixText_6 n) q h k σ = _
    unfold Rul_mixText_6b
    rw [rg_22 (by omega) (by omega)]
    rw [bnd_s]
    dsimp only
    rw [show ((q : Int)).toNat = q by omega, hL, wr_id (n := (k : Int)) (by omega) (by omega), wr_id (n := (L : Int)) (by omega) (by omega), if_neg (by omega), hB_0]
  | succ m ih =>
    intro n k h hk hn
    obtain ⟨n, rfl⟩ : ∃ z, n = z + 1 := ⟨n - 1, by omega⟩
    have := hb k (by omega)
    show Rul_mixText_6b (Rul_mixText_6 n) q h k σ = _
    unfold Rul_mixText_6b
    rw [rg_22 (by omega) (by omega)]
    rw [bnd_s]
    dsimp only
    rw [show ((q : Int)).toNat = q by omega, hL, wr_id (n := (k : Int)) (by omega) (by omega), wr_id (n := (L : Int)) (by omega) (by omega), if_pos (by omega), rg_24 (by omega) (by omega)]
    rw [bnd_s]
    dsimp only
    rw [show ((q : Int) * 8 + (k : Int)).toNat = 8 * q + k by omega, ai_mixR ⟨by omega, by omega⟩]
    rw [bnd_s]
    dsimp only
    rw [show (k : Int) + 1 = ((k + 1 : Nat) : Int) by omega, ih n (k + 1) _ (by omega) (by omega), hB_s]
theorem rul_mixText {q L : Nat} (hq : q < 24) (hL : σ 23 q = L) (hL8 : L ≤ 8) (hb : ∀ k, k < L → 0 ≤ σ 25 (8 * q + k) ∧ σ 25 (8 * q + k) ≤ 126) (h : Int) : Rul_mixText h q σ = some (hB (fun k => σ 25 (8 * q + k)) L 0 h, σ) := rul_mt_6 hq hL hL8 hb L 100000 0 h (by omega) (by omega)
theorem rul_mixRule {r : Nat} (hr : r < 12) (hR : ruR σ τ r) (h : Int) : Rul_mixRule h r σ = some (ruH σ r h, σ) := by
  obtain ⟨a, b, c, d, f⟩ := hR
  unfold Rul_mixRule ruH
  rw [rg_12 (by omega) (by omega)]
  rw [bnd_s]
  dsimp only
  rw [show ((r : Int)).toNat = r by omega, ai_mixR ⟨by omega, by omega⟩]
  rw [bnd_s]
  dsimp only
  rw [rul_hasR hr b]
  rw [bnd_s]
  dsimp only
  by_cases q : σ 13 r = 0
  · rw [if_neg (show ¬ 0 < σ 13 r by omega), wr_0, if_pos rfl, if_pos q]
  · obtain ⟨d1, d2, d3, d4⟩ := d q
    obtain ⟨L0, hL0⟩ : ∃ z : Nat, σ 23 (2 * r) = (z : Int) := ⟨(σ 23 (2 * r)).toNat, by omega⟩
    rw [if_pos (show 0 < σ 13 r by omega), wr_1, if_neg n10, if_neg q, rg_14 (by omega) (by omega)]
    rw [bnd_s]
    dsimp only
    rw [show ((r : Int)).toNat = r by omega, ai_mixR ⟨by omega, by omega⟩]
    rw [bnd_s]
    dsimp only
    rw [rg_16 (by omega) (by omega)]
    rw [bnd_s]
    dsimp only
    rw [show ((r : Int)).toNat = r by omega, ai_mixR ⟨by omega, by omega⟩]
    rw [bnd_s]
    dsimp only
    rw [wr_id (n := σ 13 r) (by omega) (by omega)]
    have t0 : ∀ h, Rul_mixText h (2 * (r : Int)) σ = some (hB (fun k => σ 25 (16 * r + k)) (σ 23 (2 * r)).toNat 0 h, σ) := fun h => by
      rw [show 2 * (r : Int) = ((2 * r : Nat) : Int) by omega, rul_mixText (q := 2 * r) (L := L0) (by omega) hL0 (by omega) (fun k hk => by rw [show 8 * (2 * r) + k = 16 * r + k by omega]; exact (d4 k (by omega)).2), hL0, show ((L0 : Int)).toNat = L0 by omega, hB_congr L0 0 h (g := fun k => σ 25 (16 * r + k)) (fun j h1 h2 => by rw [show 8 * (2 * r) + j = 16 * r + j by omega])]
    by_cases q1 : σ 13 r = 1
    · obtain ⟨f0, f1, f2, f3, f4⟩ := f q1
      obtain ⟨L1, hL1⟩ : ∃ z : Nat, σ 23 (2 * r + 1) = (z : Int) := ⟨(σ 23 (2 * r + 1)).toNat, by omega⟩
      have t1 : ∀ h, Rul_mixText h (2 * (r : Int) + 1) σ = some (hB (fun k => σ 25 (16 * r + 8 + k)) (σ 23 (2 * r + 1)).toNat 0 h, σ) := fun h => by
        rw [show 2 * (r : Int) + 1 = ((2 * r + 1 : Nat) : Int) by omega, rul_mixText (q := 2 * r + 1) (L := L1) (by omega) hL1 (by omega) (fun k hk => by rw [show 8 * (2 * r + 1) + k = 16 * r + 8 + k by omega]; exact (f4 k (by omega)).2), hL1, show ((L1 : Int)).toNat = L1 by omega, hB_congr L1 0 h (g := fun k => σ 25 (16 * r + 8 + k)) (fun j h1 h2 => by rw [show 8 * (2 * r + 1) + j = 16 * r + 8 + j by omega])]
      rw [if_pos q1, if_pos q1, rg_18 (by omega) (by omega)]
      rw [bnd_s]
      dsimp only
      rw [show ((r : Int)).toNat = r by omega, ai_mixR ⟨by omega, by omega⟩]
      rw [bnd_s]
      dsimp only
      rw [rg_20 (by omega) (by omega)]
      rw [bnd_s]
      dsimp only
      rw [show ((r : Int)).toNat = r by omega, ai_mixR ⟨by omega, by omega⟩]
      rw [bnd_s]
      dsimp only
      rw [t0]
      rw [bnd_s]
      dsimp only
      rw [ai_mixR ⟨by omega, by omega⟩]
      rw [bnd_s]
      dsimp only
      rw [t1]
      rw [bnd_s]
    · rw [if_neg q1, if_neg q1, t0]
      rw [bnd_s]
theorem ai_dg_84 (h : Inv σ τ) {σ1 : Mem} (hR : ∀ r, r < 12 → ruR σ1 τ r) (h34 : σ1 34 0 = σ 34 0) (h288 : σ1 288 0 = σ 288 0 ∧ σ1 288 1 = σ 288 1) (h26 : σ1 26 0 = σ 26 0) : ∀ (m n r : Nat) (hh : Int), r + m = 12 → m < n → Ai_digest_84 n hh r σ1 = some (31 * (31 * (31 * rsH σ1 m r hh + τ 0 1) + (τ 2 0 + τ 2 1)) + τ 0 4, σ1) := by
  obtain ⟨b1, b2, b3⟩ := h.2.1
  obtain ⟨x1, x2, x3, x4⟩ := h.2.2.1
  have i0 := h.2.2.2.1 0 (by omega)
  have i1 := h.2.2.2.1 1 (by omega)
  intro m
  induction m with
  | zero =>
    intro n r hh hr hn
    obtain ⟨n, rfl⟩ : ∃ z, n = z + 1 := ⟨n - 1, by omega⟩
    show Ai_digest_84b (Ai_digest_84 n) hh r σ1 = _
    unfold Ai_digest_84b
    rw [wr_id (n := (r : Int)) (by omega) (by omega), if_neg (by omega), h34, x1, ai_mixR ⟨by omega, by omega⟩]
    rw [bnd_s]
    dsimp only
    rw [rg_287 (by omega) (by omega)]
    rw [bnd_s]
    dsimp only
    rw [rg_287 (by omega) (by omega)]
    rw [bnd_s]
    dsimp only
    rw [show ((0 : Int)).toNat = 0 from rfl, show ((1 : Int)).toNat = 1 from rfl, h288.1, h288.2, i0.1, i1.1, ai_mixR ⟨by omega, by omega⟩]
    rw [bnd_s]
    dsimp only
    rw [h26, b1, ai_mixR ⟨by omega, by omega⟩, rsH_0, bnd_s]
  | succ m ih =>
    intro n r hh hr hn
    obtain ⟨n, rfl⟩ : ∃ z, n = z + 1 := ⟨n - 1, by omega⟩
    show Ai_digest_84b (Ai_digest_84 n) hh r σ1 = _
    unfold Ai_digest_84b
    rw [wr_id (n := (r : Int)) (by omega) (by omega), if_pos (by omega), rul_mixRule (by omega) (hR r (by omega))]
    rw [bnd_s]
    dsimp only
    rw [show (r : Int) + 1 = ((r + 1 : Nat) : Int) by omega, ih n (r + 1) _ (by omega) (by omega), rsH_s]
theorem ai_dg_23 (h : Inv σ τ) {σ1 : Mem} (hK : Kw (absM τ 0) τ σ1) (e1 : σ1 1 = σ 1) : ∀ (m n i : Nat) (hh : Int), i + m = nS (absM τ 0) → m < n → Ai_digest_23 n hh i σ1 = Ai_digest_84 100000 (31 * (31 * (31 * lsH (absM τ 0) (τ 1 977) (τ 1 978) m i hh + τ 1 977) + τ 1 978) + τ 1 979) 0 σ1 := by
  have hn := hK.n
  have hs := h.stp
  have hb := h.bas
  have hcm := h.1.2.1.cm
  rw [aM_cm] at hcm
  intro m
  induction m with
  | zero =>
    intro n i hh hi hnn
    obtain ⟨n, rfl⟩ : ∃ z, n = z + 1 := ⟨n - 1, by omega⟩
    show Ai_digest_23b (Ai_digest_23 n) hh i σ1 = _
    unfold Ai_digest_23b
    rw [wr_id (n := (i : Int)) (by omega) (by omega), wr_id (n := σ1 2 0) (by omega) (by omega), if_neg (by omega), e1, hs.1, ai_mixR ⟨by omega, by omega⟩]
    rw [bnd_s]
    dsimp only
    rw [e1, hb.1, ai_mixR ⟨by omega, by omega⟩]
    rw [bnd_s]
    dsimp only
    rw [e1, h.cm, ai_mixR ⟨by omega, by omega⟩, lsH_0, bnd_s]
  | succ m ih =>
    intro n i hh hi hnn
    obtain ⟨n, rfl⟩ : ∃ z, n = z + 1 := ⟨n - 1, by omega⟩
    show Ai_digest_23b (Ai_digest_23 n) hh i σ1 = _
    unfold Ai_digest_23b
    rw [wr_id (n := (i : Int)) (by omega) (by omega), wr_id (n := σ1 2 0) (by omega) (by omega), if_pos (by omega), ai_mixLine h hK e1 (by omega)]
    rw [bnd_s]
    dsimp only
    rw [show (i : Int) + 1 = ((i + 1 : Nat) : Int) by omega, ih n (i + 1) _ (by omega) (by omega), lsH_s]
end DG
