/-! ===== digest, the call ===== -/
section DI
variable {σ τ : Mem}
def FGD (o k : Nat) : Prop := o = 0 ∧ ((24 ≤ k ∧ k ≤ 27) ∨ k = 40)
theorem DM_gd {S τ' : Mem} {stp bas : Int} (h : Fr FGD τ τ') (hD : DM S τ stp bas) : DM S τ' stp bas := by
  obtain ⟨d1, d2, d3, d4, d5, d6, d7⟩ := hD
  have k : ∀ o z, (o ≠ 0 ∨ z < 24) → τ' o z = τ o z := fun o z q => h o z (by unfold FGD; omega)
  refine ⟨d1, by rw [absM_congr (by funext z; exact k 1 z (by omega))]; exact d2, Tk_keep (fun o z hz => k o z (by omega)) d3, Bk_keep (fun o z hz => k o z (by omega)) d4, fun j hj => by rw [k 16 j (by omega)]; exact d5 j hj, by rw [k 0 22 (by omega)]; exact d6, by rw [k 0 23 (by omega)]; exact d7⟩
noncomputable def dgT (τ : Mem) : Option (Int × Mem) := (if 0 ≤ wr 977 ∧ wr 977 < (10780 : Int) then ((Md_mixes (τ 1 (wr 977).toNat) τ).bind fun q4 => if 0 ≤ wr 978 ∧ wr 978 < (10780 : Int) then ((Md_mixes (q4.2 1 (wr 978).toNat) q4.2).bind fun q5 => if 0 ≤ wr 979 ∧ wr 979 < (10780 : Int) then ((Md_mixes (q5.2 1 (wr 979).toNat) q5.2).bind fun q6 => Md_digest_194 100000 0 q6.2) else none) else none) else none)
/-- a line is mixed in -/
theorem md_dg_76 {S : Mem} {stp bas : Int} {i L : Nat} (hi : i < nS S) (hL : S 2 i = L) {r39 : Int → Mem → Option (Int × Mem)} {Q : Int → Mem → Prop} : ∀ (m n k : Nat) (τ : Mem), DM S τ stp bas → (∀ j, j < nS S → τ 16 j = S 1 j) → k + m = L → m < n → (∀ τ', Fr FGD τ τ' → τ' 0 40 = 31 * (31 * hB (fun k => S 4 (32 * i + k)) m k (τ 0 40) + S 3 i) + wvS S stp bas i → Ex (r39 ((i : Int) + 1) τ') Q) → Ex (Md_digest_76 r39 n i k τ) Q := by
  intro m
  induction m with
  | zero =>
    intro n k τ hD h16 hk hn kk
    obtain ⟨n, rfl⟩ : ∃ z, n = z + 1 := ⟨n - 1, by omega⟩
    have hS := hD.1
    have hN := hS.n
    have hl := hS.len hi
    have en : (i : Int) < τ 1 0 := by have := aM_n τ; rw [hD.2.1] at this; omega
    have elen : τ 1 (21 + i) = L := by have := aM_len (τ := τ) (i := i) en; rw [hD.2.1] at this; rw [← this]; exact hL
    have epin : τ 1 (41 + i) = S 3 i := by have := aM_pin (τ := τ) (i := i) en; rw [hD.2.1] at this; exact this.symm
    have hpr := (hS.2.2.2.2.1 i (by omega)).2.2.1
    have hw := wan_rng (S := S) (rw := S 1) (stp := stp) (bas := bas) (i := i)
    show Ex (Md_digest_76b r39 (Md_digest_76 r39 n) i k τ) _
    unfold Md_digest_76b
    rw [if_pos (inb (by omega) (by omega) (by omega)), wrn (n := 21 + i) (by omega) (by omega), elen, wr_id (n := (k : Int)) (by omega) (by omega), wr_id (n := (L : Int)) (by omega) (by omega), if_neg (by omega), if_pos (inb (by omega) (by omega) (by omega)), wrn (n := 41 + i) (by omega) (by omega), epin]
    refine Ex.bnd (md_mixE ⟨by omega, by omega⟩ (fun τ1 f1 e1 => ?_))
    have g1 : Fr FGD τ τ1 := f1.mono (fun o k q => by unfold F40 at q; unfold FGD; omega)
    have hD1 := DM_gd g1 hD
    have r1 : ∀ j, j < nS S → τ1 16 j = S 1 j := fun j hj => by rw [g1 16 j (by unfold FGD; omega)]; exact h16 j hj
    show Ex ((Md_isFree i τ1).bind _) _
    rw [md_isFree hD1 hi]
    refine Ex.bnd (Ex.ret ?_)
    by_cases q : frS S i
    · show Ex (if wr (cif (frS S i) 1 0) = 0 then _ else _) _
      rw [cif_pos q, wr_1, if_neg n10]
      refine Ex.bnd ((md_decides hD1 rfl hi).mono (fun _ τ2 z => ?_))
      obtain ⟨hF2, h24, -, -⟩ := z
      have g2 : Fr FGD τ τ2 := g1.tr (hF2.mono (fun o k q => by unfold FD at q; unfold FGD; omega))
      rw [wan_congr hS r1 hi] at h24
      unfold Md_digest_133
      show Ex (if wr 1 = 0 then _ else _) _
      rw [wr_1, if_neg n10]
      show Ex ((Md_mixes (τ2 0 24) τ2).bind _) _
      rw [h24]
      refine Ex.bnd (md_mixE ⟨by omega, by omega⟩ (fun τ3 f3 e3 => kk τ3 (g2.tr (f3.mono (fun o k q => by unfold F40 at q; unfold FGD; omega))) ?_))
      rw [e3, hF2 0 40 (by unfold FD; omega), e1, hB_0]
      unfold wvS
      rw [cif_pos q]
    · show Ex (if wr (cif (frS S i) 1 0) = 0 then _ else _) _
      rw [cif_neg q, wr_0, if_pos rfl]
      unfold Md_digest_133
      show Ex (if wr 0 = 0 then _ else _) _
      rw [wr_0, if_pos rfl]
      refine Ex.bnd (md_mixE ⟨by omega, by omega⟩ (fun τ3 f3 e3 => kk τ3 (g1.tr (f3.mono (fun o k q => by unfold F40 at q; unfold FGD; omega))) ?_))
      rw [e3]
      show 31 * τ1 0 40 + -9 = _
      rw [e1, hB_0]
      unfold wvS
      rw [cif_neg q]
  | succ m ih =>
    intro n k τ hD h16 hk hn kk
    obtain ⟨n, rfl⟩ : ∃ z, n = z + 1 := ⟨n - 1, by omega⟩
    have hS := hD.1
    have hN := hS.n
    have hl := hS.len hi
    have en : (i : Int) < τ 1 0 := by have := aM_n τ; rw [hD.2.1] at this; omega
    have elen : τ 1 (21 + i) = L := by have := aM_len (τ := τ) (i := i) en; rw [hD.2.1] at this; rw [← this]; exact hL
    have ebyt : τ 1 (61 + (32 * i + k)) = S 4 (32 * i + k) := by have := aM_byt (τ := τ) (i := i) (k := k) en (by omega) (by rw [elen]; omega); rw [hD.2.1] at this; rw [show 61 + (32 * i + k) = 61 + 32 * i + k by omega]; exact this.symm
    have hbr := (hS.2.2.2.2.1 i (by omega)).2.2.2.2.2 k (by omega)
    show Ex (Md_digest_76b r39 (Md_digest_76 r39 n) i k τ) _
    unfold Md_digest_76b
    rw [if_pos (inb (by omega) (by omega) (by omega)), wrn (n := 21 + i) (by omega) (by omega), elen, wr_id (n := (k : Int)) (by omega) (by omega), wr_id (n := (L : Int)) (by omega) (by omega), if_pos (by omega), md_contentR (by omega) elen (by omega) (by omega), ebyt]
    refine Ex.bnd (Ex.ret (Ex.bnd (md_mixE ⟨by omega, by omega⟩ (fun τ1 f1 e1 => ?_))))
    have g1 : Fr FGD τ τ1 := f1.mono (fun o k q => by unfold F40 at q; unfold FGD; omega)
    have := ih n (k + 1) τ1 (DM_gd g1 hD) (fun j hj => by rw [g1 16 j (by unfold FGD; omega)]; exact h16 j hj) (by omega) (by omega) (fun τ' z1 z2 => kk τ' (g1.tr z1) (by rw [z2, e1, hB_s]))
    rw [show (((k + 1 : Nat)) : Int) = (k : Int) + 1 by omega] at this
    exact this
theorem md_dg_39 {S : Mem} {stp bas : Int} {Q : Int → Mem → Prop} : ∀ (m n i : Nat) (τ : Mem), DM S τ stp bas → (∀ j, j < nS S → τ 16 j = S 1 j) → i + m = nS S → m < n → (∀ τ', Fr FGD τ τ' → τ' 0 40 = lsH S stp bas m i (τ 0 40) → Ex (dgT τ') Q) → Ex (Md_digest_39 n i τ) Q := by
  intro m
  induction m with
  | zero =>
    intro n i τ hD h16 hi hn kk
    obtain ⟨n, rfl⟩ : ∃ z, n = z + 1 := ⟨n - 1, by omega⟩
    have hN := hD.1.n
    have en : τ 1 0 = S 0 0 := by have := aM_n τ; rw [hD.2.1] at this; omega
    show Ex (Md_digest_39b (Md_digest_39 n) i τ) _
    unfold Md_digest_39b
    rw [if_pos in0, show (wr 0).toNat = 0 from by decide, en, wr_id (n := (i : Int)) (by omega) (by omega), wr_id (n := S 0 0) (by omega) (by omega), if_neg (by omega)]
    exact kk τ Fr.rf (by rw [lsH_0])
  | succ m ih =>
    intro n i τ hD h16 hi hn kk
    obtain ⟨n, rfl⟩ : ∃ z, n = z + 1 := ⟨n - 1, by omega⟩
    have hS := hD.1
    have hN := hS.n
    have en : τ 1 0 = S 0 0 := by have := aM_n τ; rw [hD.2.1] at this; omega
    have eind : τ 1 (1 + i) = S 1 i := by have := aM_ind (τ := τ) (i := i) (by omega); rw [hD.2.1] at this; exact this.symm
    have elen : τ 1 (21 + i) = S 2 i := by have := aM_len (τ := τ) (i := i) (by omega); rw [hD.2.1] at this; exact this.symm
    have hl := hS.2.2.2.2.1 i (by omega)
    obtain ⟨L, hL⟩ : ∃ z : Nat, S 2 i = (z : Int) := ⟨(S 2 i).toNat, by omega⟩
    show Ex (Md_digest_39b (Md_digest_39 n) i τ) _
    unfold Md_digest_39b
    rw [if_pos in0, show (wr 0).toNat = 0 from by decide, en, wr_id (n := (i : Int)) (by omega) (by omega), wr_id (n := S 0 0) (by omega) (by omega), if_pos (by omega), if_pos (inb (by omega) (by omega) (by omega)), wrn (n := 1 + i) (by omega) (by omega), eind]
    refine Ex.bnd (md_mixE ⟨by omega, by omega⟩ (fun τ1 f1 e1 => ?_))
    rw [if_pos (inb (by omega) (by omega) (by omega)), wrn (n := 21 + i) (by omega) (by omega)]
    show Ex ((Md_mixes (τ1 1 (21 + i)) τ1).bind _) _
    rw [f1 1 (21 + i) (by unfold F40; omega), elen]
    refine Ex.bnd (md_mixE ⟨by omega, by omega⟩ (fun τ2 f2 e2 => ?_))
    have g2 : Fr FGD τ τ2 := (f1.tr f2).mono (fun o k q => by unfold F40 at q; unfold FGD; omega)
    have h162 : ∀ j, j < nS S → τ2 16 j = S 1 j := fun j hj => by rw [g2 16 j (by unfold FGD; omega)]; exact h16 j hj
    refine md_dg_76 (S := S) (stp := stp) (bas := bas) (i := i) (L := L) (by omega) hL L 100000 0 τ2 (DM_gd g2 hD) h162 (by omega) (by omega) (fun τ3 g3 e3 => ?_)
    have g : Fr FGD τ τ3 := g2.tr g3
    have := ih n (i + 1) τ3 (DM_gd g hD) (fun j hj => by rw [g 16 j (by unfold FGD; omega)]; exact h16 j hj) (by omega) (by omega) (fun τ' z1 z2 => kk τ' (g.tr z1) ?_)
    · rw [show (((i + 1 : Nat)) : Int) = (i : Int) + 1 by omega] at this
      exact this
    · rw [z2, e3, e2, e1, lsH_s]
      unfold lnH
      rw [hL, show ((L : Int)).toNat = L by omega]
theorem t_digest (h : Inv σ τ) : Two (Ai_digest σ) (Md_digest τ) := by
  have hs := h.stp
  have hb := h.bas
  have hn := h.n
  have hS := h.1.2.1
  have hcm := hS.cm
  rw [aM_cm] at hcm
  have hb4 := h.2.1.2.1
  have hh1 := h.2.2.1.2.1
  have hk2 : ∀ k, k < 2 → τ 2 k = 0 ∨ τ 2 k = 1 := fun k hk => (h.2.2.2.1 k hk).2.1
  unfold Ai_digest Md_digest Two
  obtain ⟨r1, σ1, e1, hK, f1, f2⟩ := h.study
  have hI1 : Inv σ1 τ := hK.2.2 σ1 τ Fr.rf Fr.rf
  rw [e1, bnd_s]
  dsimp only
  rw [hK.n.1, ai_mixR (σ := σ1) (v := absM τ 0 0 0) ⟨by have := hK.n; omega, by have := hK.n; omega⟩, bnd_s]
  dsimp only
  have eA := ai_dg_23 h hK f1 (nS (absM τ 0)) 100000 0 (31 * 18310 + absM τ 0 0 0) (by omega) (by omega)
  rw [show ((0 : Nat) : Int) = 0 from rfl] at eA
  rw [eA]
  have eB := ai_dg_84 hI1 (σ1 := σ1) (fun r hr => hI1.ru hr) rfl ⟨rfl, rfl⟩ rfl 12 100000 0 (31 * (31 * (31 * lsH (absM τ 0) (τ 1 977) (τ 1 978) (nS (absM τ 0)) 0 (31 * 18310 + absM τ 0 0 0) + τ 1 977) + τ 1 978) + τ 1 979) (by omega) (by omega)
  rw [show ((0 : Nat) : Int) = 0 from rfl] at eB
  refine Ex.of eB (Ex.lt ?_)
  rw [if_pos in0, show (wr 0).toNat = 0 from by decide, show upM τ 0 40 18310 1 0 = absM τ 0 0 0 by rw [aM_n]; simp [upM]]
  refine Ex.bnd (md_mixE (τ := upM τ 0 40 18310) ⟨by have := hK.n; omega, by have := hK.n; omega⟩ (fun τa ga ea => ?_))
  have g0 : Fr F40 τ τa := (fr40 _).tr ga
  have k1 : ∀ z, τa 1 z = τ 1 z := fun z => g0 1 z (by unfold F40; omega)
  have hA : absM τa 0 = absM τ 0 := absM_congr (by funext z; exact k1 z) 0
  rw [if_pos in977, if_pos in978, show (wr 977).toNat = 977 from by decide, show (wr 978).toNat = 978 from by decide]
  show Ex ((Md_uses (τa 1 977) (τa 1 978) τa).bind _) _
  rw [k1, k1]
  refine Ex.bnd ((md_uses (τ := τa) (stp := τ 1 977) (bas := τ 1 978) (by rw [hA]; exact hS) hs.2 hb.2).mono (fun _ τ1 z => ?_))
  obtain ⟨z1, z2, z3⟩ := z
  rw [hA] at z2 z3
  have e40 : τ1 0 40 = 31 * 18310 + absM τ 0 0 0 := by
    rw [z1 0 40 (by unfold FU FK FT FB; omega), ea, up40]
  have gR : Fr FR τ τ1 := (g0.mono (fun o k q => by unfold F40 at q; unfold FR; omega)).tr (z1.mono (fun o k => FU_R))
  refine md_dg_39 (S := absM τ 0) (stp := τ 1 977) (bas := τ 1 978) (nS (absM τ 0)) 100000 0 τ1 z2 z3 (by omega) (by omega) (fun τ2 y1 y2 => ?_)
  have g2R : Fr FR τ τ2 := gR.tr (y1.mono (fun o k q => by unfold FGD at q; unfold FR; omega))
  have k2 : ∀ z, τ2 1 z = τ 1 z := fun z => g2R 1 z (fun q => q (by omega))
  unfold dgT
  rw [if_pos in977, show (wr 977).toNat = 977 from by decide, k2]
  refine Ex.bnd (md_mixE ⟨by omega, by omega⟩ (fun τ3 f3 e3 => ?_))
  rw [if_pos in978, show (wr 978).toNat = 978 from by decide]
  show Ex ((Md_mixes (τ3 1 978) τ3).bind _) _
  rw [f3 1 978 (by unfold F40; omega), k2]
  refine Ex.bnd (md_mixE ⟨by omega, by omega⟩ (fun τ4 f4 e4 => ?_))
  rw [if_pos (by decide), show (wr 979).toNat = 979 from by decide]
  show Ex ((Md_mixes (τ4 1 979) τ4).bind _) _
  rw [f4 1 979 (by unfold F40; omega), f3 1 979 (by unfold F40; omega), k2]
  refine Ex.bnd (md_mixE ⟨by omega, by omega⟩ (fun τ5 f5 e5 => ?_))
  have g5R : Fr FR τ τ5 := g2R.tr (((f3.tr f4).tr f5).mono (fun o k q => by unfold F40 at q; unfold FR; omega))
  have hI5 : Inv σ1 τ5 := hK.2.2 σ1 τ5 Fr.rf g5R
  have t01 : τ5 0 1 = τ 0 1 := g5R 0 1 (fun q => q (by omega))
  have t04 : τ5 0 4 = τ 0 4 := g5R 0 4 (fun q => q (by omega))
  have t2 : ∀ k, τ5 2 k = τ 2 k := fun k => g5R 2 k (fun q => q (by omega))
  have := md_dg_194 (σ := σ1) (τ := τ5) (by rw [t01]; exact hh1) (fun k hk => by rw [t2]; exact hk2 k hk) (by rw [t04]; exact hb4) (fun r hr => hI5.ru hr) 12 100000 0 τ5 Fr.rf (by omega) (by omega)
  refine this.mono (fun v τ6 w => ⟨?_, hK.2.2 σ1 τ6 Fr.rf (g5R.tr (w.1.mono (fun o k q => by unfold F40 at q; unfold FR; omega)))⟩)
  have e5' : τ5 0 40 = 31 * τ4 0 40 + τ 1 979 := e5
  have e4' : τ4 0 40 = 31 * τ3 0 40 + τ 1 978 := e4
  have e3' : τ3 0 40 = 31 * τ2 0 40 + τ 1 977 := e3
  rw [w.2, t01, t04, t2, t2, e5', e4', e3', y2, e40]
end DI
