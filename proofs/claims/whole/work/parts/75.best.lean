/-! ===== the best step and base ===== -/
def sIn (c : Int → Int → Int) (s : Nat) : Nat → Nat → Int × Int × Int → Int × Int × Int
  | 0, _, x => x
  | m + 1, b, x => sIn c s m (b + 1) (if c s b < x.1 then (c s b, (s : Int), (b : Int)) else x)
def sOut (c : Int → Int → Int) : Nat → Nat → Int × Int × Int → Int × Int × Int
  | 0, _, x => x
  | m + 1, s, x => sOut c m (s + 1) (sIn c s 21 0 x)
def sOk (c : Int → Int → Int) (x : Int × Int × Int) : Prop := (x = (21, 0, 0)) ∨ ((1 ≤ x.2.1 ∧ x.2.1 ≤ 8) ∧ (0 ≤ x.2.2 ∧ x.2.2 ≤ 20) ∧ x.1 = c x.2.1 x.2.2)
section SR
variable {c : Int → Int → Int}
theorem sIn_ok {s : Nat} (hs : 1 ≤ s ∧ s ≤ 8) : ∀ (m b : Nat) (x : Int × Int × Int), b + m ≤ 21 → sOk c x → sOk c (sIn c s m b x) ∧ (sIn c s m b x).1 ≤ x.1 ∧ (0 < m → (sIn c s m b x).1 ≤ c s b)
  | 0, b, x, _, h => ⟨h, Int.le_refl _, fun z => absurd z (by omega)⟩
  | m + 1, b, x, hb, h => by
    unfold sIn
    by_cases q : c s b < x.1
    · rw [if_pos q]
      have := sIn_ok hs m (b + 1) (c s b, (s : Int), (b : Int)) (by omega) (Or.inr ⟨by simp only []; omega, by simp only []; omega, rfl⟩)
      refine ⟨this.1, ?_, fun _ => this.2.1⟩
      have := this.2.1
      simp only [] at this
      omega
    · rw [if_neg q]
      have := sIn_ok hs m (b + 1) x (by omega) h
      exact ⟨this.1, this.2.1, fun _ => by omega⟩
theorem sOut_ok : ∀ (m s : Nat) (x : Int × Int × Int), 1 ≤ s → s + m ≤ 9 → sOk c x → sOk c (sOut c m s x) ∧ (sOut c m s x).1 ≤ x.1 ∧ (0 < m → (sOut c m s x).1 ≤ c s 0)
  | 0, s, x, _, _, h => ⟨h, Int.le_refl _, fun z => absurd z (by omega)⟩
  | m + 1, s, x, h1, h2, h => by
    unfold sOut
    have a := sIn_ok (c := c) (s := s) (by omega) 21 0 x (by omega) h
    have b := sOut_ok m (s + 1) (sIn c s 21 0 x) (by omega) (by omega) a.1
    have a2 := a.2.2 (by omega)
    exact ⟨b.1, by omega, fun _ => by have := b.2.1; simp only [Int.natCast_zero] at a2; omega⟩
end SR
noncomputable def cS (S : Mem) (stp bas : Int) : Int := ((bitN (chS S stp bas) 20 : Nat) : Int)
noncomputable def bsS (S : Mem) : Int × Int × Int := sOut (cS S) 8 1 (21, 0, 0)
theorem bsS_ok (S : Mem) : (1 ≤ (bsS S).2.1 ∧ (bsS S).2.1 ≤ 8) ∧ (0 ≤ (bsS S).2.2 ∧ (bsS S).2.2 ≤ 20) ∧ (bsS S).1 = cS S (bsS S).2.1 (bsS S).2.2 ∧ (bsS S).1 ≤ 20 := by
  have h := sOut_ok (c := cS S) 8 1 (21, 0, 0) (by omega) (by omega) (Or.inl rfl)
  have h2 := h.2.2 (by omega)
  have hx : bsS S = sOut (cS S) 8 1 (21, 0, 0) := by unfold bsS; rfl
  rw [← hx] at h h2
  generalize bsS S = x at *
  have h3 : cS S ((1 : Nat) : Int) 0 ≤ 20 := by
    unfold cS
    have := bitN_le (chS S ((1 : Nat) : Int) 0) 20
    omega
  have e : x.1 ≤ 20 := by omega
  rcases h.1 with z | z
  · have : x.1 = 21 := by rw [z]
    omega
  · exact ⟨z.1, z.2.1, z.2.2, e⟩
section BE
variable {σ τ : Mem}
theorem cS_rng (S : Mem) (a b : Int) : 0 ≤ cS S a b ∧ cS S a b ≤ 20 := by
  unfold cS
  have := bitN_le (chS S a b) 20
  omega
theorem ai_best_16 {S : Mem} {s : Nat} (hs : 1 ≤ s ∧ s ≤ 8) {r7 : Int → Int → Int → Mem → Option (Int × Mem)} {Q : Int → Mem → Prop} : ∀ (m n b : Nat) (x : Int × Int × Int) (σ1 : Mem), Kw S τ σ1 → b + m = 21 → m < n → (0 ≤ x.1 ∧ x.1 ≤ 21) →
    (∀ σ2, Kw S τ σ2 → Fr FV σ1 σ2 → Ex (r7 (100 * (sIn (cS S) s m b x).2.1 + (sIn (cS S) s m b x).2.2) (sIn (cS S) s m b x).1 ((s : Int) + 1) σ2) Q) → Ex (Ai_findBestSetting_16 r7 n (100 * x.2.1 + x.2.2) x.1 s b σ1) Q := by
  intro m
  induction m with
  | zero =>
    intro n b x σ1 hK hb hn hx k
    obtain ⟨n, rfl⟩ : ∃ z, n = z + 1 := ⟨n - 1, by omega⟩
    show Ex (Ai_findBestSetting_16b r7 (Ai_findBestSetting_16 r7 n) (100 * x.2.1 + x.2.2) x.1 s b σ1) Q
    unfold Ai_findBestSetting_16b
    rw [wr_id (n := (b : Int)) (by omega) (by omega), if_pos (by omega)]
    exact k σ1 hK Fr.rf
  | succ m ih =>
    intro n b x σ1 hK hb hn hx k
    obtain ⟨n, rfl⟩ : ∃ z, n = z + 1 := ⟨n - 1, by omega⟩
    show Ex (Ai_findBestSetting_16b r7 (Ai_findBestSetting_16 r7 n) (100 * x.2.1 + x.2.2) x.1 s b σ1) Q
    unfold Ai_findBestSetting_16b
    rw [wr_id (n := (b : Int)) (by omega) (by omega), if_neg (by omega)]
    refine Ex.bnd ((ai_lcw hK (stp := (s : Int)) (bas := (b : Int)) (by omega) (by omega)).mono (fun r σ2 y => ?_))
    show Ex ((Itg_bitCount r σ2).bind _) _
    rw [y.1, itg_bitCount (chS_lt hK.1.1 _ _)]
    simp only [Option.bind_some]
    have hc := cS_rng S s b
    have hK2 := Kw_Fr hK y.2
    show Ex (if wr (cS S s b) < wr x.1 then Ai_findBestSetting_16 r7 n ((s : Int) * 100 + b) (cS S s b) s ((b : Int) + 1) σ2 else Ai_findBestSetting_16 r7 n (100 * x.2.1 + x.2.2) x.1 s ((b : Int) + 1) σ2) Q
    rw [wr_id (n := cS S s b) (by omega) (by omega), wr_id (n := x.1) (by omega) (by omega)]
    unfold sIn at k
    by_cases q : cS S s b < x.1
    · rw [if_pos q] at k ⊢
      have := ih n (b + 1) (cS S s b, (s : Int), (b : Int)) σ2 hK2 (by omega) (by omega) (by simp only []; omega) (fun σ3 h3 h4 => k σ3 h3 (y.2.tr h4))
      rw [show (((b + 1 : Nat)) : Int) = (b : Int) + 1 by omega] at this
      rw [show (s : Int) * 100 + b = 100 * s + b by omega]
      exact this
    · rw [if_neg q] at k ⊢
      have := ih n (b + 1) x σ2 hK2 (by omega) (by omega) hx (fun σ3 h3 h4 => k σ3 h3 (y.2.tr h4))
      rw [show (((b + 1 : Nat)) : Int) = (b : Int) + 1 by omega] at this
      exact this
theorem sIn_rng {S : Mem} {s : Nat} : ∀ (m b : Nat) (x : Int × Int × Int), (0 ≤ x.1 ∧ x.1 ≤ 21) → 0 ≤ (sIn (cS S) s m b x).1 ∧ (sIn (cS S) s m b x).1 ≤ 21
  | 0, b, x, h => h
  | m + 1, b, x, h => by
    unfold sIn
    have := cS_rng S s b
    split
    · exact sIn_rng m (b + 1) _ (by simp only []; omega)
    · exact sIn_rng m (b + 1) x h
theorem ai_best_7 {S : Mem} : ∀ (m n s : Nat) (x : Int × Int × Int) (σ1 : Mem), Kw S τ σ1 → 1 ≤ s → s + m = 9 → m < n → (0 ≤ x.1 ∧ x.1 ≤ 21) → Ex (Ai_findBestSetting_7 n (100 * x.2.1 + x.2.2) x.1 s σ1) (fun r σ2 => r = 100 * (sOut (cS S) m s x).2.1 + (sOut (cS S) m s x).2.2 ∧ Fr FV σ1 σ2) := by
  intro m
  induction m with
  | zero =>
    intro n s x σ1 hK h1 hs hn hx
    obtain ⟨n, rfl⟩ : ∃ z, n = z + 1 := ⟨n - 1, by omega⟩
    show Ex (Ai_findBestSetting_7b (Ai_findBestSetting_7 n) (100 * x.2.1 + x.2.2) x.1 s σ1) _
    unfold Ai_findBestSetting_7b
    rw [wr_id (n := (s : Int)) (by omega) (by omega), if_pos (by omega)]
    exact Ex.ret ⟨rfl, Fr.rf⟩
  | succ m ih =>
    intro n s x σ1 hK h1 hs hn hx
    obtain ⟨n, rfl⟩ : ∃ z, n = z + 1 := ⟨n - 1, by omega⟩
    show Ex (Ai_findBestSetting_7b (Ai_findBestSetting_7 n) (100 * x.2.1 + x.2.2) x.1 s σ1) _
    unfold Ai_findBestSetting_7b
    rw [wr_id (n := (s : Int)) (by omega) (by omega), if_neg (by omega)]
    refine ai_best_16 (by omega) 21 100000 0 x σ1 hK (by omega) (by omega) hx (fun σ2 hK2 hF => ?_)
    have := ih n (s + 1) (sIn (cS S) s 21 0 x) σ2 hK2 (by omega) (by omega) (by omega) (sIn_rng 21 0 x hx)
    rw [show (((s + 1 : Nat)) : Int) = (s : Int) + 1 by omega] at this
    exact this.mono (fun r ρ q => ⟨q.1, hF.tr q.2⟩)
theorem ai_best {S σ1 : Mem} (hK : Kw S τ σ1) : Ex (Ai_findBestSetting σ1) (fun r σ2 => r = 100 * (bsS S).2.1 + (bsS S).2.2 ∧ Fr FV σ1 σ2) := by
  have h := ai_best_7 8 100000 1 (21, 0, 0) σ1 hK (by omega) (by omega) (by omega) (by simp)
  rw [show (100 * ((21, 0, 0) : Int × Int × Int).2.1 + ((21, 0, 0) : Int × Int × Int).2.2) = 0 from rfl] at h
  unfold bsS Ai_findBestSetting
  exact h
def FBS (o k : Nat) : Prop := FU o k ∨ (o = 0 ∧ 33 ≤ k ∧ k ≤ 35)
def sM (x : Int × Int × Int) (τ : Mem) : Prop := τ 0 33 = x.1 ∧ (x.1 < 21 → τ 0 34 = x.2.1 ∧ τ 0 35 = x.2.2)
theorem md_search_16 {S : Mem} (hS : SV S) {s : Nat} (hs : 1 ≤ s ∧ s ≤ 8) {r8 : Int → Mem → Option (Int × Mem)} {Q : Int → Mem → Prop} : ∀ (m n b : Nat) (x : Int × Int × Int) (τ : Mem), absM τ 0 = S → sM x τ → b + m = 21 → m < n → (0 ≤ x.1 ∧ x.1 ≤ 21) →
    (∀ τ', Fr FBS τ τ' → sM (sIn (cS S) s m b x) τ' → Ex (r8 ((s : Int) + 1) τ') Q) → Ex (Md_searches_16 r8 n s b τ) Q := by
  intro m
  induction m with
  | zero =>
    intro n b x τ hA hM hb hn hx k
    obtain ⟨n, rfl⟩ : ∃ z, n = z + 1 := ⟨n - 1, by omega⟩
    show Ex (Md_searches_16b r8 (Md_searches_16 r8 n) s b τ) Q
    unfold Md_searches_16b
    rw [wr_id (n := (b : Int)) (by omega) (by omega), if_pos (by omega)]
    exact k τ Fr.rf hM
  | succ m ih =>
    intro n b x τ hA hM hb hn hx k
    obtain ⟨n, rfl⟩ : ∃ z, n = z + 1 := ⟨n - 1, by omega⟩
    show Ex (Md_searches_16b r8 (Md_searches_16 r8 n) s b τ) Q
    unfold Md_searches_16b
    rw [wr_id (n := (b : Int)) (by omega) (by omega), if_neg (by omega)]
    refine Ex.bnd ((md_changesBy (τ := τ) (by rw [hA]; exact hS) (stp := (s : Int)) (bas := (b : Int)) (by omega) (by omega)).mono (fun r τ1 y => ?_))
    rw [hA] at y
    obtain ⟨e, hF⟩ := y
    have e' : r = cS S s b := e
    have hc := cS_rng S s b
    have e33 : τ1 0 33 = x.1 := by rw [hF 0 33 (by unfold FU FK FT FB; omega)]; exact hM.1
    have hM1 : sM x τ1 := by
      refine ⟨e33, fun z => ?_⟩
      rw [hF 0 34 (by unfold FU FK FT FB; omega), hF 0 35 (by unfold FU FK FT FB; omega)]
      exact hM.2 z
    have hA1 : absM τ1 0 = S := by rw [absM_congr (τ := τ) (by funext z; exact hF 1 z (by unfold FU FK FT FB; omega))]; exact hA
    have hFB : Fr FBS τ τ1 := hF.mono (fun o k z => Or.inl z)
    show Ex (if wr r < wr (τ1 0 33) then letM (upM τ1 0 33 r) _ else Md_searches_16 r8 n s ((b : Int) + 1) τ1) Q
    rw [e33, e', wr_id (n := cS S s b) (by omega) (by omega), wr_id (n := x.1) (by omega) (by omega)]
    unfold sIn at k
    by_cases q : cS S s b < x.1
    · rw [if_pos q] at k ⊢
      refine Ex.lt (Ex.lt (Ex.lt ?_))
      have hFn : Fr FBS τ1 (upM (upM (upM τ1 0 33 (cS S s b)) 0 34 s) 0 35 b) := Fr.up (Fr.up (Fr.up Fr.rf (Or.inr ⟨rfl, by omega, by omega⟩)) (Or.inr ⟨rfl, by omega, by omega⟩)) (Or.inr ⟨rfl, by omega, by omega⟩)
      have := ih n (b + 1) (cS S s b, (s : Int), (b : Int)) _ (by rw [absM_congr (τ := τ1) (by funext z; simp [upM])]; exact hA1) ⟨by simp [upM], fun _ => ⟨by simp [upM], by simp [upM]⟩⟩ (by omega) (by omega) (by simp only []; omega) (fun τ' h3 h4 => k τ' ((hFB.tr hFn).tr h3) h4)
      rw [show (((b + 1 : Nat)) : Int) = (b : Int) + 1 by omega] at this
      exact this
    · rw [if_neg q] at k ⊢
      have := ih n (b + 1) x τ1 hA1 hM1 (by omega) (by omega) hx (fun τ' h3 h4 => k τ' (hFB.tr h3) h4)
      rw [show (((b + 1 : Nat)) : Int) = (b : Int) + 1 by omega] at this
      exact this
theorem FBS_A {S τ τ' : Mem} (h : Fr FBS τ τ') (hA : absM τ 0 = S) : absM τ' 0 = S := by
  rw [absM_congr (τ := τ) (by funext z; exact h 1 z (by unfold FBS FU FK FT FB; omega))]; exact hA
theorem md_search_8 {S : Mem} (hS : SV S) : ∀ (m n s : Nat) (x : Int × Int × Int) (τ : Mem), absM τ 0 = S → sM x τ → 1 ≤ s → s + m = 9 → m < n → (0 ≤ x.1 ∧ x.1 ≤ 21) → Ex (Md_searches_8 n s τ) (fun _ τ' => Fr FBS τ τ' ∧ sM (sOut (cS S) m s x) τ') := by
  intro m
  induction m with
  | zero =>
    intro n s x τ hA hM h1 hs hn hx
    obtain ⟨n, rfl⟩ : ∃ z, n = z + 1 := ⟨n - 1, by omega⟩
    show Ex (Md_searches_8b (Md_searches_8 n) s τ) _
    unfold Md_searches_8b
    rw [wr_id (n := (s : Int)) (by omega) (by omega), if_pos (by omega)]
    exact Ex.ret ⟨Fr.rf, hM⟩
  | succ m ih =>
    intro n s x τ hA hM h1 hs hn hx
    obtain ⟨n, rfl⟩ : ∃ z, n = z + 1 := ⟨n - 1, by omega⟩
    show Ex (Md_searches_8b (Md_searches_8 n) s τ) _
    unfold Md_searches_8b
    rw [wr_id (n := (s : Int)) (by omega) (by omega), if_neg (by omega)]
    refine md_search_16 hS (by omega) 21 100000 0 x τ hA hM (by omega) (by omega) hx (fun τ' hF hM2 => ?_)
    have := ih n (s + 1) (sIn (cS S) s 21 0 x) τ' (FBS_A hF hA) hM2 (by omega) (by omega) (by omega) (sIn_rng 21 0 x hx)
    rw [show (((s + 1 : Nat)) : Int) = (s : Int) + 1 by omega] at this
    exact this.mono (fun r ρ q => ⟨hF.tr q.1, q.2⟩)
theorem md_search (h : Inv σ τ) : Ex (Md_searches τ) (fun _ τ' => Fr FR τ τ' ∧ τ' 0 33 = (bsS (absM τ 0)).1 ∧ τ' 0 34 = (bsS (absM τ 0)).2.1 ∧ τ' 0 35 = (bsS (absM τ 0)).2.2) := by
  unfold Md_searches
  refine Ex.lt ?_
  have hF : Fr FBS τ (upM τ 0 33 21) := Fr.up Fr.rf (Or.inr ⟨rfl, by omega, by omega⟩)
  have hb := bsS_ok (absM τ 0)
  have := md_search_8 h.1.2.1 8 100000 1 (21, 0, 0) (upM τ 0 33 21) (FBS_A hF rfl) ⟨by simp [upM], fun z => absurd z (by simp)⟩ (by omega) (by omega) (by omega) (by simp)
  have hx : bsS (absM τ 0) = sOut (cS (absM τ 0)) 8 1 (21, 0, 0) := by unfold bsS; rfl
  rw [← hx] at this
  refine this.mono (fun _ τ' q => ?_)
  generalize bsS (absM τ 0) = x at *
  have q2 := q.2.2 (by omega)
  exact ⟨(hF.tr q.1).mono (fun o k z => by unfold FBS FU FK FT FB at z; unfold FR; omega), q.2.1, q2.1, q2.2⟩
theorem div100 {a b : Int} (ha : 0 ≤ a ∧ a ≤ 8) (hb : 0 ≤ b ∧ b ≤ 20) : (wr (100 * a + b)).tdiv (wr 100) = a ∧ (wr (100 * a + b)).tmod (wr 100) = b := by
  rw [wr_id (n := 100 * a + b) (by omega) (by omega), wr_id (n := 100) (by omega) (by omega)]
  rw [Int.tdiv_eq_ediv_of_nonneg (by omega), Int.tmod_eq_emod_of_nonneg (by omega)]
  omega
theorem t_fewestChanges (h : Inv σ τ) : Two (Ai_fewestChanges σ) (Md_fewestChanges τ) := by
  have hb := bsS_ok (absM τ 0)
  unfold Ai_fewestChanges Md_fewestChanges Two
  refine Ex.bnd (h.study.mono (fun _ σ1 z => ?_))
  obtain ⟨hK, -, -⟩ := z
  refine Ex.bnd ((ai_best hK).mono (fun r σ2 y => ?_))
  show Ex ((Ai_linesChangedWith ((wr r).tdiv (wr 100)) ((wr r).tmod (wr 100)) σ2).bind _) _
  have hd := div100 (a := (bsS (absM τ 0)).2.1) (b := (bsS (absM τ 0)).2.2) (by omega) (by omega)
  rw [y.1, hd.1, hd.2]
  refine Ex.bnd ((ai_lcw (Kw_Fr hK y.2) hb.1 hb.2.1).mono (fun r2 σ3 w => ?_))
  show Ex ((Itg_bitCount r2 σ3).bind _) _
  rw [w.1, itg_bitCount (chS_lt h.1.2.1 _ _)]
  refine Ex.bnd (Ex.ret (Ex.ret (Ex.bnd ((md_search h).mono (fun _ τ1 x => Ex.ret ⟨?_, hK.2.2 σ3 τ1 (y.2.tr w.2) x.1⟩)))))
  show τ1 0 33 = _
  rw [x.2.1, hb.2.2.1]
  rfl
theorem t_bestStep (h : Inv σ τ) : Two (Ai_bestStep σ) (Md_bestStep τ) := by
  have hb := bsS_ok (absM τ 0)
  have hd := div100 (a := (bsS (absM τ 0)).2.1) (b := (bsS (absM τ 0)).2.2) (by omega) (by omega)
  unfold Ai_bestStep Md_bestStep Two
  refine Ex.bnd (h.study.mono (fun _ σ1 z => ?_))
  obtain ⟨hK, -, -⟩ := z
  refine Ex.bnd ((ai_best hK).mono (fun r σ2 y => Ex.ret (Ex.bnd ((md_search h).mono (fun _ τ1 x => Ex.ret ⟨?_, hK.2.2 σ2 τ1 y.2 x.1⟩)))))
  show τ1 0 34 = (wr r).tdiv (wr 100)
  rw [x.2.2.1, y.1, hd.1]
theorem t_bestBase (h : Inv σ τ) : Two (Ai_bestBase σ) (Md_bestBase τ) := by
  have hb := bsS_ok (absM τ 0)
  have hd := div100 (a := (bsS (absM τ 0)).2.1) (b := (bsS (absM τ 0)).2.2) (by omega) (by omega)
  unfold Ai_bestBase Md_bestBase Two
  refine Ex.bnd (h.study.mono (fun _ σ1 z => ?_))
  obtain ⟨hK, -, -⟩ := z
  refine Ex.bnd ((ai_best hK).mono (fun r σ2 y => Ex.ret (Ex.bnd ((md_search h).mono (fun _ τ1 x => Ex.ret ⟨?_, hK.2.2 σ2 τ1 y.2 x.1⟩)))))
  show τ1 0 35 = (wr r).tmod (wr 100)
  rw [x.2.2.2, y.1, hd.2]
end BE
