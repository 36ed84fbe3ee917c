/-! ===== settings, pins, dropped rules ===== -/
section SE
variable {σ τ : Mem}
theorem mkS_1 {n stp bas cm v : Int} {ind len pin byt sort prec sp mode clos ts tb : Nat → Int} : mkS n v bas cm ind len pin byt sort prec sp mode clos ts tb = upM (mkS n stp bas cm ind len pin byt sort prec sp mode clos ts tb) 0 1 v := by
  funext c k
  by_cases q : c = 0 ∧ k = 1
  · obtain ⟨rfl, rfl⟩ := q; rfl
  · have e : upM (mkS n stp bas cm ind len pin byt sort prec sp mode clos ts tb) 0 1 v c k = mkS n stp bas cm ind len pin byt sort prec sp mode clos ts tb c k := if_neg q
    rw [e]
    match c with
    | 0 => match k with
      | 0 => rfl
      | 1 => exact absurd ⟨rfl, rfl⟩ q
      | 2 => rfl
      | 3 => rfl
      | k + 4 => rfl
    | 1 => rfl
    | 2 => rfl
    | 3 => rfl
    | 4 => rfl
    | 5 => rfl
    | 6 => rfl
    | 7 => rfl
    | 8 => rfl
    | 9 => rfl
    | 10 => rfl
    | 11 => rfl
    | c + 12 => rfl
theorem mkS_2 {n stp bas cm v : Int} {ind len pin byt sort prec sp mode clos ts tb : Nat → Int} : mkS n stp v cm ind len pin byt sort prec sp mode clos ts tb = upM (mkS n stp bas cm ind len pin byt sort prec sp mode clos ts tb) 0 2 v := by
  funext c k
  by_cases q : c = 0 ∧ k = 2
  · obtain ⟨rfl, rfl⟩ := q; rfl
  · have e : upM (mkS n stp bas cm ind len pin byt sort prec sp mode clos ts tb) 0 2 v c k = mkS n stp bas cm ind len pin byt sort prec sp mode clos ts tb c k := if_neg q
    rw [e]
    match c with
    | 0 => match k with
      | 0 => rfl
      | 1 => rfl
      | 2 => exact absurd ⟨rfl, rfl⟩ q
      | 3 => rfl
      | k + 4 => rfl
    | 1 => rfl
    | 2 => rfl
    | 3 => rfl
    | 4 => rfl
    | 5 => rfl
    | 6 => rfl
    | 7 => rfl
    | 8 => rfl
    | 9 => rfl
    | 10 => rfl
    | 11 => rfl
    | c + 12 => rfl
theorem mkS_3 {n stp bas cm v : Int} {ind len pin byt sort prec sp mode clos ts tb : Nat → Int} : mkS n stp bas v ind len pin byt sort prec sp mode clos ts tb = upM (mkS n stp bas cm ind len pin byt sort prec sp mode clos ts tb) 0 3 v := by
  funext c k
  by_cases q : c = 0 ∧ k = 3
  · obtain ⟨rfl, rfl⟩ := q; rfl
  · have e : upM (mkS n stp bas cm ind len pin byt sort prec sp mode clos ts tb) 0 3 v c k = mkS n stp bas cm ind len pin byt sort prec sp mode clos ts tb c k := if_neg q
    rw [e]
    match c with
    | 0 => match k with
      | 0 => rfl
      | 1 => rfl
      | 2 => rfl
      | 3 => exact absurd ⟨rfl, rfl⟩ q
      | k + 4 => rfl
    | 1 => rfl
    | 2 => rfl
    | 3 => rfl
    | 4 => rfl
    | 5 => rfl
    | 6 => rfl
    | 7 => rfl
    | 8 => rfl
    | 9 => rfl
    | 10 => rfl
    | 11 => rfl
    | c + 12 => rfl
theorem absC_sc (j : Nat) (hj : j = 1 ∨ j = 2 ∨ j = 3) (v : Int) : absC (upM σ 1 (j + 1) v) 1 = upM (absC σ 1) 0 j v := by
  have e : ∀ o, o ≠ 1 → upM σ 1 (j + 1) v o = σ o := fun o h => upM_ne σ 1 (j + 1) v o h
  unfold absC
  rw [e (1 + 1) (by omega), e (1 + 3) (by omega), e (1 + 5) (by omega), e (1 + 7) (by omega), e (1 + 9) (by omega), e (1 + 12) (by omega), e (1 + 14) (by omega), e (1 + 16) (by omega), e (1 + 18) (by omega), e (1 + 20) (by omega), e (1 + 22) (by omega), e (1 + 24) (by omega)]
  rcases hj with rfl | rfl | rfl
  · rw [show upM σ 1 (1 + 1) v 1 2 = v by simp [upM], show upM σ 1 (1 + 1) v 1 3 = σ 1 3 by simp [upM], show upM σ 1 (1 + 1) v 1 4 = σ 1 4 by simp [upM]]
    exact mkS_1
  · rw [show upM σ 1 (2 + 1) v 1 2 = σ 1 2 by simp [upM], show upM σ 1 (2 + 1) v 1 3 = v by simp [upM], show upM σ 1 (2 + 1) v 1 4 = σ 1 4 by simp [upM]]
    exact mkS_2
  · rw [show upM σ 1 (3 + 1) v 1 2 = σ 1 2 by simp [upM], show upM σ 1 (3 + 1) v 1 3 = σ 1 3 by simp [upM], show upM σ 1 (3 + 1) v 1 4 = v by simp [upM]]
    exact mkS_3
theorem absM_sc (j : Nat) (hj : j = 1 ∨ j = 2 ∨ j = 3) (v : Int) (hn : τ 1 0 ≤ 20) : absM (upM τ 1 (j + 976) v) 0 = upM (absM τ 0) 0 j v := by
  have g : ∀ x y, x < 977 → x = y → upM τ 1 (j + 976) v 1 x = τ 1 y := fun x y h1 h2 => by rw [← h2]; simp only [upM]; rw [if_neg (by omega)]
  have key : ∀ (a b c : Int), mkS (τ 1 0) a b c (fun i => upM τ 1 (j + 976) v 1 (1 + i)) (fun i => upM τ 1 (j + 976) v 1 (21 + i)) (fun i => upM τ 1 (j + 976) v 1 (41 + i)) (fun k => upM τ 1 (j + 976) v 1 (61 + k)) (fun r => upM τ 1 (j + 976) v 1 (701 + 23 * r)) (fun r => upM τ 1 (j + 976) v 1 (702 + 23 * r)) (fun r => upM τ 1 (j + 976) v 1 (703 + 23 * r)) (fun r => upM τ 1 (j + 976) v 1 (704 + 23 * r)) (fun r => upM τ 1 (j + 976) v 1 (705 + 23 * r)) (fun q => upM τ 1 (j + 976) v 1 (701 + 23 * (q / 2) + (5 + 9 * (q % 2)))) (fun k => upM τ 1 (j + 976) v 1 (701 + 23 * (k / 16) + (6 + 9 * (k / 8 % 2)) + k % 8))
     = mkS (τ 1 0) a b c (fun i => τ 1 (1 + i)) (fun i => τ 1 (21 + i)) (fun i => τ 1 (41 + i)) (fun k => τ 1 (61 + k)) (fun r => τ 1 (701 + 23 * r)) (fun r => τ 1 (702 + 23 * r)) (fun r => τ 1 (703 + 23 * r)) (fun r => τ 1 (704 + 23 * r)) (fun r => τ 1 (705 + 23 * r)) (fun q => τ 1 (701 + 23 * (q / 2) + (5 + 9 * (q % 2)))) (fun k => τ 1 (701 + 23 * (k / 16) + (6 + 9 * (k / 8 % 2)) + k % 8)) := fun a b c =>
    mkS_congr (fun k hk => g _ _ (by omega) rfl) (fun k hk => g _ _ (by omega) rfl) (fun k hk => g _ _ (by omega) rfl) (fun i k hi hk h => g _ _ (by omega) rfl) (fun r hr => g _ _ (by omega) rfl)
      (fun r hr _ => ⟨g _ _ (by omega) rfl, g _ _ (by omega) rfl, g _ _ (by omega) rfl, fun k hk _ => g _ _ (by omega) rfl⟩)
      (fun r hr _ => ⟨g _ _ (by omega) rfl, g _ _ (by omega) rfl, g _ _ (by omega) rfl, fun k hk _ => g _ _ (by omega) rfl⟩)
  have e0 : upM τ 1 (j + 976) v 1 0 = τ 1 0 := g 0 0 (by omega) rfl
  rw [aM0, aM0, e0, key]
  rcases hj with rfl | rfl | rfl
  · rw [show upM τ 1 (1 + 976) v 1 977 = v by simp [upM], show upM τ 1 (1 + 976) v 1 978 = τ 1 978 by simp [upM], show upM τ 1 (1 + 976) v 1 979 = τ 1 979 by simp [upM]]
    exact mkS_1
  · rw [show upM τ 1 (2 + 976) v 1 977 = τ 1 977 by simp [upM], show upM τ 1 (2 + 976) v 1 978 = v by simp [upM], show upM τ 1 (2 + 976) v 1 979 = τ 1 979 by simp [upM]]
    exact mkS_2
  · rw [show upM τ 1 (3 + 976) v 1 977 = τ 1 977 by simp [upM], show upM τ 1 (3 + 976) v 1 978 = τ 1 978 by simp [upM], show upM τ 1 (3 + 976) v 1 979 = v by simp [upM]]
    exact mkS_3
theorem Inv_sc (h : Inv σ τ) (h11 : σ 0 11 = 0) (j : Nat) (hj : j = 1 ∨ j = 2 ∨ j = 3) {v : Int} (hv : SV (upM (absM τ 0) 0 j v)) : Inv (upM σ 1 (j + 1) v) (upM τ 1 (j + 976) v) := by
  have hn := h.n
  have eM := absM_sc (τ := τ) j hj v (by omega)
  refine Inv_edit h (fun o k q => ?_) (fun o k q => ?_) ⟨?_, ?_, ?_, Or.inl ?_⟩
  · unfold FN FQ at q; simp only [upM]; rw [if_neg (by omega)]
  · unfold FM at q; simp only [upM]; rw [if_neg (fun z => q (by omega))]
  · rw [eM, absC_sc j hj v, h.1.1]
  · rw [eM]; exact hv
  · have := h.1.2.2.1
    exact fun r hr => by rw [upM_ne σ 1 (j + 1) v (1 + 12) (by omega), upM_ne σ 1 (j + 1) v (1 + 22) (by omega)]; exact this r hr
  · simp only [upM]; rw [if_neg (by omega)]; exact h11
theorem SV_0 {S : Mem} (hS : SV S) (j : Nat) (hj : j ≠ 0) (v : Int) (h1 : j = 1 → 1 ≤ v ∧ v ≤ 8) (h2 : j = 2 → 0 ≤ v ∧ v ≤ 20) (h3 : j = 3 → v = 0 ∨ (33 ≤ v ∧ v ≤ 126 ∧ v ≠ 34 ∧ ¬ isW v)) : SV (upM S 0 j v) := by
  obtain ⟨s0, s1, s2, s3, s4, s5⟩ := hS
  have e : ∀ c, c ≠ 0 → upM S 0 j v c = S c := fun c hc => upM_ne S 0 j v c hc
  have e0 : ∀ k, k ≠ j → upM S 0 j v 0 k = S 0 k := fun k hk => by simp only [upM]; rw [if_neg (fun z => hk z.2)]
  have ev : upM S 0 j v 0 j = v := by simp [upM]
  unfold SV
  rw [e 1 (by omega), e 2 (by omega), e 3 (by omega), e 4 (by omega), e 5 (by omega), e 6 (by omega), e 7 (by omega), e 8 (by omega), e 9 (by omega), e 10 (by omega), e 11 (by omega), e0 0 (by omega)]
  refine ⟨s0, ?_, ?_, ?_, s4, s5⟩
  · by_cases q : j = 1
    · subst q; rw [ev]; exact h1 rfl
    · rw [e0 1 (by omega)]; exact s1
  · by_cases q : j = 2
    · subst q; rw [ev]; exact h2 rfl
    · rw [e0 2 (by omega)]; exact s2
  · by_cases q : j = 3
    · subst q; rw [ev]; exact h3 rfl
    · rw [e0 3 (by omega)]; exact s3
theorem sets_two (h : Inv σ τ) (j : Nat) (hj : j = 1 ∨ j = 2 ∨ j = 3) {a : Int} (hv : ∀ S, SV S → SV (upM S 0 j a)) (e : σ 1 (j + 1) = τ 1 (j + 976)) :
    Ex ((Ai_beginChange σ).bind fun q => letM (upM q.2 1 (j + 1) a) fun s => some (σ 1 (j + 1), s)) (fun r σ' => Ex (Md_sets ((j + 976 : Nat) : Int) a τ) (fun r' τ' => r' = r ∧ Inv σ' τ')) := by
  refine Ex.bnd (h.begin.mono (fun _ σ1 z => Ex.lt (Ex.ret ?_)))
  unfold Md_sets
  refine Ex.bnd (z.mono (fun _ τ1 y => ?_))
  obtain ⟨hI, h11, hF1, hF2⟩ := y
  rw [if_pos (inb (by omega) (by omega) (by omega)), if_pos (inb (by omega) (by omega) (by omega)), wrn (n := j + 976) rfl (by omega)]
  refine Ex.lt (Ex.ret ⟨?_, Inv_sc hI h11 j hj (hv _ hI.1.2.1)⟩)
  show τ1 1 (j + 976) = _
  rw [hF2 1 (j + 976) (by unfold FBm; omega), e]
theorem t_setStep (h : Inv σ τ) {a : Int} (ha : RI a) : Two (Ai_setStep a σ) (Md_setStep a τ) := by
  unfold Ai_setStep Md_setStep Two
  rw [ai_wi ha (by omega) (by omega), md_wi ha (by omega) (by omega)]
  simp only [Option.bind_some]
  by_cases q : 1 ≤ a ∧ a ≤ 8
  · rw [if_pos q, wr_1, if_neg n10, if_neg n10]
    refine (sets_two h 1 (by omega) (a := a) (fun S hS => SV_0 hS 1 (by omega) a (fun _ => q) (by omega) (by omega)) h.stp.1).mono (fun r σ' z => Ex.bnd (z.mono (fun r' τ' y => Ex.ret y)))
  · rw [if_neg q, wr_0, if_pos rfl, if_pos rfl]
    exact Ex.ret (Ex.ret ⟨rfl, h⟩)
theorem t_setBase (h : Inv σ τ) {a : Int} (ha : RI a) : Two (Ai_setBase a σ) (Md_setBase a τ) := by
  unfold Ai_setBase Md_setBase Two
  rw [ai_wi ha (by omega) (by omega), md_wi ha (by omega) (by omega)]
  simp only [Option.bind_some]
  by_cases q : 0 ≤ a ∧ a ≤ 20
  · rw [if_pos q, wr_1, if_neg n10, if_neg n10]
    refine (sets_two h 2 (by omega) (a := a) (fun S hS => SV_0 hS 2 (by omega) a (by omega) (fun _ => q) (by omega)) h.bas.1).mono (fun r σ' z => Ex.bnd (z.mono (fun r' τ' y => Ex.ret y)))
  · rw [if_neg q, wr_0, if_pos rfl, if_pos rfl]
    exact Ex.ret (Ex.ret ⟨rfl, h⟩)
theorem t_setComment (h : Inv σ τ) {a : Int} (ha : RI a) : Two (Ai_setComment a σ) (Md_setComment a τ) := by
  unfold Ai_setComment Md_setComment Ai_canBeginComment Two
  rw [ai_wi ha (by omega) (by omega), md_wi ha (by omega) (by omega), ha.w]
  simp only [Option.bind_some]
  by_cases q0 : a = 0
  · rw [if_pos q0, if_pos q0]
    refine (sets_two h 3 (by omega) (a := a) (fun S hS => SV_0 hS 3 (by omega) a (by omega) (by omega) (fun _ => Or.inl q0)) h.cm).mono (fun r σ' z => Ex.bnd (z.mono (fun r' τ' y => Ex.ret y)))
  · rw [if_neg q0, if_neg q0]
    by_cases q : 33 ≤ a ∧ a ≤ 126
    · rw [if_pos q, wr_1, if_neg n10, if_neg n10]
      by_cases q2 : a = 34
      · rw [if_pos q2, if_pos q2]
        simp only [Option.bind_some]
        rw [wr_0, if_pos rfl]
        exact Ex.ret (Ex.ret ⟨rfl, h⟩)
      · rw [if_neg q2, if_neg q2, ai_isWordByte a σ ha.w, md_isWord a τ ha.w]
        simp only [Option.bind_some]
        by_cases q3 : isW a
        · rw [if_pos q3, wr_1, if_neg n10, if_neg n10]
          simp only [Option.bind_some]
          rw [wr_0, if_pos rfl]
          exact Ex.ret (Ex.ret ⟨rfl, h⟩)
        · rw [if_neg q3, wr_0, if_pos rfl, if_pos rfl]
          simp only [Option.bind_some]
          rw [wr_1, if_neg n10]
          refine (sets_two h 3 (by omega) (a := a) (fun S hS => SV_0 hS 3 (by omega) a (by omega) (by omega) (fun _ => Or.inr ⟨q.1, q.2, q2, q3⟩)) h.cm).mono (fun r σ' z => Ex.bnd (z.mono (fun r' τ' y => Ex.ret y)))
    · rw [if_neg q, wr_0, if_pos rfl, if_pos rfl]
      simp only [Option.bind_some]
      rw [wr_0, if_pos rfl]
      exact Ex.ret (Ex.ret ⟨rfl, h⟩)
theorem t_pin (h : Inv σ τ) {a : Int} (ha : RI a) : Two (Ai_pin a σ) (Md_pin a τ) := by
  have hb := h.nb
  have hn := h.n
  unfold Ai_pin Md_pin Two
  rw [lin_has ha hb.1, md_isLine ha hb.2]
  simp only [Option.bind_some]
  rw [hn.1]
  by_cases q : 0 ≤ a ∧ a < τ 1 0
  · obtain ⟨i, rfl⟩ : ∃ z : Nat, a = (z : Int) := ⟨a.toNat, by omega⟩
    rw [if_pos q, wr_1, if_neg n10, if_neg n10]
    refine Ex.bnd (h.begin.mono (fun _ σ1 z => ?_))
    rw [rg_7 (by omega) (by omega)]
    simp only [Option.bind_some]
    rw [rs_7 (by omega) (by omega)]
    simp only [Option.bind_some]
    rw [rg_7 (by omega) (by omega)]
    simp only [Option.bind_some]
    rw [show ((i : Int)).toNat = i by omega]
    refine Ex.ret (Ex.bnd (z.mono (fun _ τ1 y => ?_)))
    obtain ⟨hI, h11, hF1, hF2⟩ := y
    rw [if_pos (inb (by omega) (by omega) (by omega)), if_pos (inb (by omega) (by omega) (by omega)), wrn (n := 41 + i) (by omega) (by omega)]
    refine Ex.lt ?_
    rw [if_pos (inb (by omega) (by omega) (by omega))]
    have n1 : σ1 2 0 = σ 2 0 := hF1 2 0 (by unfold FBg; omega)
    have hl := hI.lnok (i := i) (by omega)
    refine Ex.ret ⟨?_, ?_⟩
    · show upM τ1 1 (41 + i) (1 - τ1 1 (41 + i)) 1 (41 + i) = upM σ1 8 i (1 - σ1 8 i) 8 i
      simp only [upM]
      rw [if_pos ⟨trivial, trivial⟩, if_pos ⟨trivial, trivial⟩, hl.2.2.1]
    · show Inv (upM σ1 8 i (1 - σ1 8 i)) (upM τ1 1 (41 + i) (1 - τ1 1 (41 + i)))
      have k1 : ∀ o k, (o ≠ 8 ∨ k ≠ i) → upM σ1 8 i (1 - σ1 8 i) o k = σ1 o k := fun o k z => by simp only [upM]; rw [if_neg (by omega)]
      have k2 : ∀ o k, (o ≠ 1 ∨ k ≠ 41 + i) → upM τ1 1 (41 + i) (1 - τ1 1 (41 + i)) o k = τ1 o k := fun o k z => by simp only [upM]; rw [if_neg (by omega)]
      have n2 := hI.n
      refine Inv_lines hI (by rw [k1 0 11 (by omega)]; exact h11) (fun o k z => Or.inl (Classical.byContradiction (fun y => z (k1 o k (by omega))))) (fun o k z => Classical.byContradiction (fun y => z (k2 o k (by unfold FM at y; omega)))) (by rw [k1 2 0 (by omega), k2 1 0 (by omega)]; omega) (fun j hj => ?_)
      rw [k1 2 0 (by omega)] at hj
      have hlj := hI.lnok (i := j) hj
      have e4 : upM σ1 8 i (1 - σ1 8 i) 4 = σ1 4 := upM_ne _ _ _ _ _ (by omega)
      have e6 : upM σ1 8 i (1 - σ1 8 i) 6 = σ1 6 := upM_ne _ _ _ _ _ (by omega)
      have e10 : upM σ1 8 i (1 - σ1 8 i) 10 = σ1 10 := upM_ne _ _ _ _ _ (by omega)
      rw [e4, e6, e10, k2 1 (1 + j) (by omega), k2 1 (21 + j) (by omega)]
      obtain ⟨m1, m2, m3, m4, m5⟩ := hlj
      refine ⟨m1, m2, ?_, fun k hk => ?_, ?_⟩
      · by_cases e : j = i
        · subst e; simp only [upM]; rw [if_pos ⟨trivial, trivial⟩, if_pos ⟨trivial, trivial⟩, hl.2.2.1]
        · rw [k1 8 j (by omega), k2 1 (41 + j) (by omega)]; exact m3
      · rw [k2 1 _ (by omega)]; exact m4 k hk
      · obtain ⟨x1, x2, x3, x4⟩ := m5
        refine ⟨x1, x2, ?_, x4⟩
        by_cases e : j = i
        · subst e; simp only [upM]; rw [if_pos ⟨trivial, trivial⟩]; omega
        · rw [k1 8 j (by omega)]; exact x3
  · rw [if_neg q, wr_0, if_pos rfl, if_pos rfl]
    exact Ex.ret (Ex.ret ⟨rfl, h⟩)
end SE
