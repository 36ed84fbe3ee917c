/-! ===== the class divides all lines ===== -/
theorem upM_upM (σ : Mem) (o k : Nat) (v v2 : Int) : upM (upM σ o k v) o k v2 = upM σ o k v2 := by
  funext o' k'
  simp only [upM]
  split <;> rfl
theorem putC_up9 (i v : Int) : ∀ (ts : List (Int × Int × Int)) (σ : Mem), putC i ts (upM σ 289 9 v) = upM (putC i ts σ) 289 9 v
  | [], _ => rfl
  | a :: ts, σ => by
    show putC i ts (adC (upM σ 289 9 v) i a.1 a.2.1 a.2.2) = upM (putC i ts (adC σ i a.1 a.2.1 a.2.2)) 289 9 v
    rw [adC_up9, putC_up9 i v ts]
theorem putC_spec (i : Int) : ∀ (ts : List (Int × Int × Int)) (σ : Mem), 0 ≤ σ 289 0 →
    (putC i ts σ) 289 0 = σ 289 0 + ts.length ∧ Fr (fun o k => ((o = 291 ∨ o = 293 ∨ o = 295 ∨ o = 297) ∧ (σ 289 0).toNat ≤ k) ∨ (o = 289 ∧ k = 0)) σ (putC i ts σ) ∧
    ∀ (t : Nat) (q : Int × Int × Int), ts[t]? = some q → (putC i ts σ) 291 ((σ 289 0).toNat + t) = i ∧ (putC i ts σ) 293 ((σ 289 0).toNat + t) = q.1 ∧ (putC i ts σ) 295 ((σ 289 0).toNat + t) = q.2.1 - q.1 ∧ (putC i ts σ) 297 ((σ 289 0).toNat + t) = q.2.2
  | [], σ, _ => ⟨by simp [putC], fun _ _ _ => rfl, fun t q h => by simp at h⟩
  | a :: ts, σ, h0 => by
    obtain ⟨h1, h2, h3⟩ := putC_spec i ts (adC σ i a.1 a.2.1 a.2.2) (by rw [adC_n]; omega)
    rw [adC_n] at h1 h2 h3
    have e : (σ 289 0 + 1).toNat = (σ 289 0).toNat + 1 := by omega
    rw [e] at h2 h3
    refine ⟨?_, ?_, ?_⟩
    · show (putC i ts (adC σ i a.1 a.2.1 a.2.2)) 289 0 = _
      rw [h1]; simp only [List.length_cons]; omega
    · intro o k q
      show (putC i ts (adC σ i a.1 a.2.1 a.2.2)) o k = _
      rw [h2 o k (by omega)]
      unfold adC
      simp only [upM]
      repeat rw [if_neg (by omega)]
    · intro t q hq
      show (putC i ts (adC σ i a.1 a.2.1 a.2.2)) 291 _ = _ ∧ (putC i ts (adC σ i a.1 a.2.1 a.2.2)) 293 _ = _ ∧ (putC i ts (adC σ i a.1 a.2.1 a.2.2)) 295 _ = _ ∧ (putC i ts (adC σ i a.1 a.2.1 a.2.2)) 297 _ = _
      cases t with
      | zero =>
        simp at hq
        subst hq
        rw [h2 291 _ (by omega), h2 293 _ (by omega), h2 295 _ (by omega), h2 297 _ (by omega)]
        simp [adC, upM]
      | succ t =>
        simp at hq
        have := h3 t q hq
        rw [show (σ 289 0).toNat + 1 + t = (σ 289 0).toNat + (t + 1) by omega] at this
        exact this
theorem aC_len {σ : Mem} {i : Nat} (h : (i : Int) < σ 2 0) : absC σ 1 2 i = σ 6 i := by simp [absC, mkS, h]
theorem aC_ind {σ : Mem} {i : Nat} (h : (i : Int) < σ 2 0) : absC σ 1 1 i = σ 4 i := by simp [absC, mkS, h]
theorem aC_pin {σ : Mem} {i : Nat} (h : (i : Int) < σ 2 0) : absC σ 1 3 i = σ 8 i := by simp [absC, mkS, h]
theorem aC_byt {σ : Mem} {i k : Nat} (h : (i : Int) < σ 2 0) (hk : k < 32) (hk2 : (k : Int) < σ 6 i) : absC σ 1 4 (32 * i + k) = σ 10 (32 * i + k) := by
  simp only [absC, mkS]
  rw [show (32 * i + k) / 32 = i by omega, show (32 * i + k) % 32 = k by omega, if_pos ⟨h, hk2⟩]
theorem aC_n (σ : Mem) : absC σ 1 0 0 = σ 2 0 := rfl
theorem aC_stp (σ : Mem) : absC σ 1 0 1 = σ 1 2 := rfl
theorem aC_bas (σ : Mem) : absC σ 1 0 2 = σ 1 3 := rfl
theorem aC_cm (σ : Mem) : absC σ 1 0 3 = σ 1 4 := rfl
theorem absC_Fr {F : Nat → Nat → Prop} {σ σ' : Mem} (h : Fr F σ σ') (hF : ∀ o k, F o k → 26 ≤ o) : absC σ' 1 = absC σ 1 := by
  have e : ∀ o, o < 26 → σ' o = σ o := fun o ho => by funext k; exact h o k (fun q => by have := hF o k q; omega)
  unfold absC
  rw [e 1 (by omega), e (1 + 1) (by omega), e (1 + 3) (by omega), e (1 + 5) (by omega), e (1 + 7) (by omega), e (1 + 9) (by omega), e (1 + 12) (by omega), e (1 + 14) (by omega), e (1 + 16) (by omega), e (1 + 18) (by omega), e (1 + 20) (by omega), e (1 + 22) (by omega), e (1 + 24) (by omega)]
theorem gS_GV {S : Mem} (hS : SV S) {i : Nat} (hi : i < nS S) : GV (gS S i) (S 2 i) := by
  have hl := hS.len hi
  refine ⟨hl.1, hl.2, fun k h0 h1 => ?_, fun k h => gS_out h⟩
  have := (hS.2.2.2.2.1 i (by have := hS.n; omega)).2.2.2.2.2 k.toNat (by omega)
  unfold gS
  rw [if_pos ⟨h0, h1⟩]
  exact this
theorem lin_byteOf {σ : Mem} {i : Nat} (hS : SV (absC σ 1)) (hi : i < nS (absC σ 1)) {k : Int} (h0 : 0 ≤ k) (h1 : k < 32) : Lin_byteOf i k σ = some (if k < absC σ 1 2 i then gS (absC σ 1) i k else 0, σ) := by
  have hN := hS.n
  have hn : (i : Int) < σ 2 0 := by rw [aC_n] at hN; omega
  have hl := hS.len hi
  have el := aC_len hn
  unfold Lin_byteOf
  rw [wr_id (n := k) (by omega) (by omega), if_neg (by omega), rg_5 (by omega) (by omega)]
  simp only [Option.bind_some]
  rw [show ((i : Int)).toNat = i by omega, ← el, wr_id (n := absC σ 1 2 i) (by omega) (by omega)]
  by_cases q : k < absC σ 1 2 i
  · rw [if_pos q, if_pos q, rg_9 (by omega) (by omega)]
    simp only [Option.bind_some]
    unfold gS
    rw [if_pos ⟨h0, q⟩, aC_byt hn (by omega) (by omega), show ((i : Int) * 32 + k).toNat = 32 * i + k.toNat by omega]
  · rw [if_neg q, if_neg q]
def FLd (o k : Nat) : Prop := o = 303 ∨ (o = 289 ∧ k = 8)
theorem tok_load_14 {S : Mem} (hS : SV S) {i : Nat} (hi : i < nS S) : ∀ (m n k : Nat) (σ : Mem), absC σ 1 = S → k + m = 32 → m < n → (∀ j : Nat, j < k → σ 303 j = if (j : Int) < S 2 i then gS S i j else 0) →
    Ex (Tok_load_14 n i k σ) (fun _ σ' => (∀ j : Nat, j < 32 → σ' 303 j = if (j : Int) < S 2 i then gS S i j else 0) ∧ Fr (fun o _ => o = 303) σ σ') := by
  intro m
  induction m with
  | zero =>
    intro n k σ hA hk hn hj
    obtain ⟨n, rfl⟩ : ∃ z, n = z + 1 := ⟨n - 1, by omega⟩
    show Ex (Tok_load_14b (Tok_load_14 n) i k σ) _
    unfold Tok_load_14b
    rw [wr_id (n := (k : Int)) (by omega) (by omega), if_neg (by omega)]
    exact Ex.ret ⟨fun j h => hj j (by omega), Fr.rf⟩
  | succ m ih =>
    intro n k σ hA hk hn hj
    obtain ⟨n, rfl⟩ : ∃ z, n = z + 1 := ⟨n - 1, by omega⟩
    show Ex (Tok_load_14b (Tok_load_14 n) i k σ) _
    unfold Tok_load_14b
    rw [wr_id (n := (k : Int)) (by omega) (by omega), if_pos (by omega), lin_byteOf (by rw [hA]; exact hS) (by rw [hA]; exact hi) (by omega) (by omega), hA]
    simp only [Option.bind_some]
    rw [rs_302 (by omega) (by omega)]
    simp only [Option.bind_some]
    rw [show ((k : Int)).toNat = k by omega]
    generalize hσ2 : upM σ 303 k (if (k : Int) < S 2 i then gS S i k else 0) = σ2
    have hF : Fr (fun o _ => o = 303) σ σ2 := by rw [← hσ2]; exact Fr.up Fr.rf rfl
    have := ih n (k + 1) σ2 (by rw [absC_Fr hF (fun o _ h => by omega)]; exact hA) (by omega) (by omega) (fun j h => by
      rw [← hσ2]
      by_cases q : j = k
      · subst q; simp [upM]
      · have := hj j (by omega)
        simp [upM, q]; exact this)
    exact this.mono (fun r ρ q => ⟨q.1, hF.tr q.2⟩)
theorem tok_load {σ : Mem} (hS : SV (absC σ 1)) {i : Nat} (hi : i < nS (absC σ 1)) : Ex (Tok_load i σ) (fun _ σ' => CtC σ' (gS (absC σ 1) i) (absC σ 1 2 i) ∧ Fr FLd σ σ') := by
  have hN := hS.n
  have hn : (i : Int) < σ 2 0 := by rw [aC_n] at hN; omega
  unfold Tok_load
  rw [rg_5 (by omega) (by omega)]
  simp only [Option.bind_some]
  rw [show ((i : Int)).toNat = i by omega, ← aC_len hn]
  refine Ex.lt ?_
  have hF : Fr FLd σ (upM σ 289 8 (absC σ 1 2 i)) := Fr.up Fr.rf (by unfold FLd; omega)
  have eA : absC (upM σ 289 8 (absC σ 1 2 i)) 1 = absC σ 1 := absC_Fr hF (fun o _ h => by unfold FLd at h; omega)
  have := tok_load_14 hS hi 32 100000 0 (upM σ 289 8 (absC σ 1 2 i)) eA rfl (by omega) (fun j h => by omega)
  refine this.mono (fun r ρ q => ⟨⟨?_, q.1⟩, hF.tr (q.2.mono (fun o k h => Or.inl h))⟩)
  rw [q.2 289 8 (by omega)]
  simp [upM]
noncomputable def lnC (S : Mem) (i : Nat) (σ : Mem) : Mem := upM (putC i (tkS S i) (upM σ 301 i (hdS S i))) 289 9 (goS S (i + 1))
theorem tok_divideLine {S : Mem} (hS : SV S) {i : Nat} (hi : i < nS S) {σ : Mem} (hc : CtC σ (gS S i) (S 2 i)) (h9 : σ 289 9 = goS S i) (hn0 : 0 ≤ σ 289 0) (hn1 : σ 289 0 ≤ 608) : Tok_divideLine i (S 0 3) σ = some (0, lnC S i σ) := by
  have hN := hS.n
  have hg := gS_GV hS hi
  have hl := hS.len hi
  have hcm := hS.2.2.2.1
  have h24 : ∀ z, z = hdS S i → Tok_divideLine_24 i (S 0 3) z i σ = some (0, lnC S i σ) := by
    intro z hz
    subst hz
    unfold Tok_divideLine_24
    rw [rs_300 (by omega) (by omega)]
    simp only [Option.bind_some]
    rw [show ((i : Int)).toNat = i by omega]
    unfold lnC
    generalize hσ2 : upM σ 301 i (hdS S i) = σ2
    have e9 : σ2 289 9 = goS S i := by rw [← hσ2]; simpa [upM] using h9
    have e0 : σ2 289 0 = σ 289 0 := by rw [← hσ2]; simp [upM]
    have hc2 : CtC σ2 (gS S i) (S 2 i) := by
      rw [← hσ2]
      exact ⟨by have := hc.1; simpa [upM] using this, fun k hk => by have := hc.2 k hk; simpa [upM] using this⟩
    rw [e9]
    rcases goS_01 S i with g0 | g1
    · rw [g0, wr_0, if_pos rfl, tok_divideLine_47 hg hcm (S 2 i).toNat 100000 40 0 0 σ2 hc2 (by omega) (by omega) (by omega) (by omega) (by omega) (by rw [e9, g0]) (by omega) (by omega) (by omega) (by omega)]
      have et : lnS S i (goS S i) = sLine (gS S i) (S 2 i) (S 0 3) 40 0 := by unfold lnS; rw [if_pos g0]
      have et1 : tkS S i = (sLine (gS S i) (S 2 i) (S 0 3) 40 0).1 := by unfold tkS; rw [et]
      have et2 : goS S (i + 1) = (sLine (gS S i) (S 2 i) (S 0 3) 40 0).2 := by show (lnS S i (goS S i)).2 = _; rw [et]
      rw [et1, et2]
    · rw [g1, wr_1, if_neg (by decide), tok_literalEnd hc2 hg (by omega) (by omega)]
      simp only [Option.bind_some]
      have hr := sLit_rng (gS S i) (S 2 i) 40 0
      by_cases q : sLit (gS S i) (S 2 i) 40 0 = -9
      · have et : lnS S i (goS S i) = ([], 1) := by unfold lnS; rw [if_neg (by omega), if_pos q]
        have et1 : tkS S i = [] := by unfold tkS; rw [et]
        have et2 : goS S (i + 1) = 1 := by show (lnS S i (goS S i)).2 = _; rw [et]
        rw [if_pos q, if_pos q, et1, et2]
        show Tok_divideLine_47b (Tok_divideLine_47 99999) i (S 0 3) (S 2 i) (S 2 i) _ = _
        unfold Tok_divideLine_47b
        have hc3 := CtC_up9 (v := 1) hc2
        rw [hc3.1, if_neg (by omega)]
        rfl
      · have et : lnS S i (goS S i) = sLine (gS S i) (S 2 i) (S 0 3) 40 (sLit (gS S i) (S 2 i) 40 0) := by unfold lnS; rw [if_neg (by omega), if_neg q]
        have et1 : tkS S i = (sLine (gS S i) (S 2 i) (S 0 3) 40 (sLit (gS S i) (S 2 i) 40 0)).1 := by unfold tkS; rw [et]
        have et2 : goS S (i + 1) = (sLine (gS S i) (S 2 i) (S 0 3) 40 (sLit (gS S i) (S 2 i) 40 0)).2 := by show (lnS S i (goS S i)).2 = _; rw [et]
        rw [if_neg q, if_neg q, et1, et2]
        have e8 : upM σ2 289 9 0 289 0 = σ 289 0 := by rw [← e0]; simp [upM]
        have e99 : upM σ2 289 9 0 289 9 = 0 := by simp [upM]
        rw [tok_divideLine_47 hg hcm (S 2 i).toNat 100000 40 _ _ (upM σ2 289 9 0) (CtC_up9 hc2) (by omega) (by omega) (by omega) (by omega) (by omega) e99 (by omega) (by omega) (by omega) (by omega), putC_up9, upM_upM]
  unfold Tok_divideLine
  rw [h9, hc.1, wr_id (n := S 2 i) (by omega) (by omega)]
  rcases goS_01 S i with g0 | g1
  · rw [g0, wr_0, if_pos rfl]
    exact h24 0 (by unfold hdS; rw [if_neg (by omega)])
  · rw [g1, wr_1, if_neg (by decide)]
    by_cases q : 0 < S 2 i
    · rw [if_pos q]
      exact h24 1 (by unfold hdS; rw [if_pos (by omega)])
    · rw [if_neg q]
      exact h24 0 (by unfold hdS; rw [if_neg (by omega)])
def FTC (o _k : Nat) : Prop := 289 ≤ o ∧ o ≤ 303
theorem lnC_Fr {S σ : Mem} {i : Nat} (h0 : 0 ≤ σ 289 0) : Fr FTC σ (lnC S i σ) := by
  have h := (putC_spec i (tkS S i) (upM σ 301 i (hdS S i)) (by simpa [upM] using h0)).2.1
  exact Fr.up (Fr.tr (Fr.up Fr.rf (by unfold FTC; omega)) (h.mono (fun o k q => by unfold FTC; omega))) (by unfold FTC; omega)
theorem lnC_TkP {S σ : Mem} {i : Nat} (h : TkP S i (σ 291) (σ 293) (σ 295) (σ 297) (σ 299) (σ 301) (σ 289 0)) (hf : σ 299 i = fsS S i) : TkP S (i + 1) (lnC S i σ 291) (lnC S i σ 293) (lnC S i σ 295) (lnC S i σ 297) (lnC S i σ 299) (lnC S i σ 301) (lnC S i σ 289 0) := by
  obtain ⟨h1, h2, h3, h4⟩ := h
  have e0 : (upM σ 301 i (hdS S i)) 289 0 = σ 289 0 := by simp [upM]
  obtain ⟨p1, p2, p3⟩ := putC_spec i (tkS S i) (upM σ 301 i (hdS S i)) (by rw [e0, h1]; omega)
  rw [e0] at p1 p2 p3
  have hc : (σ 289 0).toNat = fsS S i := by rw [h1]; omega
  rw [hc] at p2 p3
  have u : ∀ (o k : Nat), o ≠ 289 ∨ k ≠ 9 → lnC S i σ o k = (putC i (tkS S i) (upM σ 301 i (hdS S i))) o k := fun o k hok => by
    unfold lnC
    simp only [upM]
    rw [if_neg (by omega)]
  refine ⟨?_, ?_, ?_, ?_⟩
  · rw [u 289 0 (by omega), p1, h1]; simp only [fsS]; omega
  · intro j hj
    rw [u 299 j (by omega), p2 299 j (by omega)]
    by_cases q : j = i
    · subst q; simpa [upM] using hf
    · have := h2 j (by omega); simpa [upM, q] using this
  · intro j hj
    rw [u 301 j (by omega), p2 301 j (by omega)]
    by_cases q : j = i
    · subst q; simp [upM]
    · have := h3 j (by omega); simpa [upM, q] using this
  · intro j hj t q hq
    rw [u 291 _ (by omega), u 293 _ (by omega), u 295 _ (by omega), u 297 _ (by omega)]
    by_cases e : j = i
    · subst e; exact p3 t q hq
    · have := h4 j (by omega) t q hq
      have hlt : t < (tkS S j).length := (List.getElem?_eq_some_iff.mp hq).1
      have hm := fsS_mono S (show j + 1 ≤ i by omega)
      simp only [fsS] at hm
      rw [p2 291 _ (by omega), p2 293 _ (by omega), p2 295 _ (by omega), p2 297 _ (by omega)]
      simpa [upM] using this
theorem tok_divide_12 {S : Mem} (hS : SV S) : ∀ (m n i : Nat) (σ : Mem), absC σ 1 = S → i + m = nS S → m < n → TkP S i (σ 291) (σ 293) (σ 295) (σ 297) (σ 299) (σ 301) (σ 289 0) → σ 289 9 = goS S i →
    Ex (Tok_divide_12 n (S 0 3) i σ) (fun _ σ' => Fr FTC σ σ' ∧ TkOK S (σ' 291) (σ' 293) (σ' 295) (σ' 297) (σ' 299) (σ' 301) (σ' 289 0)) := by
  intro m
  induction m with
  | zero =>
    intro n i σ hA him hn hT h9
    obtain ⟨n, rfl⟩ : ∃ z, n = z + 1 := ⟨n - 1, by omega⟩
    have hN := hS.n
    have en : σ 2 0 = S 0 0 := by rw [← hA]; rfl
    show Ex (Tok_divide_12b (Tok_divide_12 n) (S 0 3) i σ) _
    unfold Tok_divide_12b
    rw [en, wr_id (n := (i : Int)) (by omega) (by omega), wr_id (n := S 0 0) (by omega) (by omega), if_neg (by omega), rs_298 (by omega) (by omega)]
    simp only [Option.bind_some]
    refine Ex.ret ⟨Fr.up Fr.rf (by unfold FTC; omega), ?_, ?_⟩
    · obtain ⟨h1, h2, h3, h4⟩ := hT
      rw [show nS S = i by omega]
      refine ⟨by simpa [upM] using h1, fun j hj => ?_, fun j hj => by simpa [upM] using h3 j hj, fun j hj t q hq => by simpa [upM] using h4 j hj t q hq⟩
      have := h2 j hj
      have hne : ¬ j = (S 0 0).toNat := by unfold nS at him; omega
      simpa [upM, hne] using this
    · have := hT.1
      rw [show i = nS S by omega] at this
      simp [upM, nS, this]
  | succ m ih =>
    intro n i σ hA him hn hT h9
    obtain ⟨n, rfl⟩ : ∃ z, n = z + 1 := ⟨n - 1, by omega⟩
    have hN := hS.n
    have en : σ 2 0 = S 0 0 := by rw [← hA]; rfl
    have hi : i < nS S := by omega
    have hcnt := fsS_le hS i (by omega)
    show Ex (Tok_divide_12b (Tok_divide_12 n) (S 0 3) i σ) _
    unfold Tok_divide_12b
    rw [en, wr_id (n := (i : Int)) (by omega) (by omega), wr_id (n := S 0 0) (by omega) (by omega), if_pos (by omega), rs_298 (by omega) (by omega)]
    simp only [Option.bind_some]
    rw [show ((i : Int)).toNat = i by omega]
    generalize hσ2 : upM σ 299 i (σ 289 0) = σ2
    have hF2 : Fr FTC σ σ2 := by rw [← hσ2]; exact Fr.up Fr.rf (by unfold FTC; omega)
    have hA2 : absC σ2 1 = S := by rw [absC_Fr hF2 (fun o _ h => by unfold FTC at h; omega)]; exact hA
    have hl := tok_load (σ := σ2) (i := i) (by rw [hA2]; exact hS) (by rw [hA2]; exact hi)
    rw [hA2] at hl
    refine Ex.bnd (hl.mono (fun r σ3 q => ?_))
    obtain ⟨hc, hF3⟩ := q
    have hF3' : Fr FTC σ2 σ3 := hF3.mono (fun o k h => by unfold FLd at h; unfold FTC; omega)
    have hA3 : absC σ3 1 = S := by rw [absC_Fr hF3' (fun o _ h => by unfold FTC at h; omega)]; exact hA2
    have k3 : ∀ o k, o ≠ 303 → (o ≠ 289 ∨ k ≠ 8) → (o ≠ 299 ∨ k ≠ i) → σ3 o k = σ o k := fun o k a b c => by
      rw [hF3 o k (by unfold FLd; omega), ← hσ2]
      simp only [upM]
      rw [if_neg (by omega)]
    have e0 : σ3 289 0 = σ 289 0 := k3 289 0 (by omega) (by omega) (by omega)
    have hc0 : σ 289 0 = fsS S i := hT.1
    have hf : σ3 299 i = fsS S i := by
      rw [hF3 299 i (by unfold FLd; omega), ← hσ2]
      simp [upM, hc0]
    have e9 : σ3 289 9 = goS S i := by rw [k3 289 9 (by omega) (by omega) (by omega)]; exact h9
    have hT3 : TkP S i (σ3 291) (σ3 293) (σ3 295) (σ3 297) (σ3 299) (σ3 301) (σ3 289 0) := by
      obtain ⟨h1, h2, h3, h4⟩ := hT
      refine ⟨by rw [e0]; exact h1, fun j hj => by rw [k3 299 j (by omega) (by omega) (by omega)]; exact h2 j hj, fun j hj => by rw [k3 301 j (by omega) (by omega) (by omega)]; exact h3 j hj, fun j hj t q hq => ?_⟩
      rw [k3 291 _ (by omega) (by omega) (by omega), k3 293 _ (by omega) (by omega) (by omega), k3 295 _ (by omega) (by omega) (by omega), k3 297 _ (by omega) (by omega) (by omega)]
      exact h4 j hj t q hq
    rw [tok_divideLine hS hi hc e9 (by omega) (by omega)]
    simp only [Option.bind_some]
    have hF4 : Fr FTC σ3 (lnC S i σ3) := lnC_Fr (by omega)
    have hA4 : absC (lnC S i σ3) 1 = S := by rw [absC_Fr hF4 (fun o _ h => by unfold FTC at h; omega)]; exact hA3
    have := ih n (i + 1) (lnC S i σ3) hA4 (by omega) (by omega) (lnC_TkP hT3 hf) (by unfold lnC; simp [upM])
    exact this.mono (fun r ρ q => ⟨((hF2.tr hF3').tr hF4).tr q.1, q.2⟩)
theorem tok_divide {σ : Mem} (hS : SV (absC σ 1)) : Ex (Tok_divide (absC σ 1 0 3) σ) (fun _ σ' => Fr FTC σ σ' ∧ TkOK (absC σ 1) (σ' 291) (σ' 293) (σ' 295) (σ' 297) (σ' 299) (σ' 301) (σ' 289 0)) := by
  have hN := hS.n
  unfold Tok_divide
  refine Ex.lt (Ex.lt ?_)
  have hF : Fr FTC σ (upM (upM σ 289 0 0) 289 9 0) := Fr.up (Fr.up Fr.rf (by unfold FTC; omega)) (by unfold FTC; omega)
  have := tok_divide_12 hS (nS (absC σ 1)) 100000 0 (upM (upM σ 289 0 0) 289 9 0) (absC_Fr hF (fun o _ h => by unfold FTC at h; omega)) (by omega) (by omega) ⟨by simp [upM, fsS], fun j h => by omega, fun j h => by omega, fun j h => by omega⟩ (by simp [upM, goS])
  exact this.mono (fun r ρ q => ⟨hF.tr q.1, q.2⟩)
