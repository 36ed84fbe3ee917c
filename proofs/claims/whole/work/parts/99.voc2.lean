/-! ===== the vocabulary of the reference; the calls ===== -/
section VP
variable {σ τ S : Mem}
/-- the reference has divided the lines -/
def VM (S τ : Mem) : Prop := SV S ∧ absM τ 0 = S ∧ TkM S τ
theorem md_byteT (hV : VM S τ) {T : Nat} (hT : T < fsS S (nS S)) {k : Nat} (hk : (k : Int) < (tq S T).2.2.1) : Md_contentAt ((tq S T).1 : Int) ((tq S T).2.1 + k) τ = some (gS S (tq S T).1 ((tq S T).2.1 + k), τ) ∧ 32 ≤ gS S (tq S T).1 ((tq S T).2.1 + k) ∧ gS S (tq S T).1 ((tq S T).2.1 + k) ≤ 126 := by
  obtain ⟨hS, hA, hM⟩ := hV
  have a := tq_ok hS hT
  have hN := hS.n
  have hl := hS.len a.1
  have hg := gS_GV hS a.1
  have hv : LnV τ (tq S T).1 := LnV_of (by rw [hA]; exact hS) (by rw [hA]; exact a.1)
  have en : ((tq S T).1 : Int) < τ 1 0 := by have := aM_n τ; rw [hA] at this; omega
  have e := gM_gS (τ := τ) (i := (tq S T).1) en hv.2.1
  rw [hA] at e
  refine ⟨?_, hg.2.2.1 _ (by omega) (by omega)⟩
  rw [md_contentAt (by omega) hv (by omega) (by omega), e]
def sameP (S : Mem) (t u : Nat) : Prop := (tq S t).2.2.2 = (tq S u).2.2.2 ∧ eqX S t u
theorem md_is_0 (hV : VM S τ) {t u : Nat} (ht : t < fsS S (nS S)) (hu : u < fsS S (nS S)) : Md_isSame_39 100000 t u 0 0 τ = some (0, τ) := by
  have hfs := fsS_le hV.1 (nS S) (Nat.le_refl _)
  have hN := hV.1.n
  have a := tq_ok hV.1 ht
  have hl := hV.1.len a.1
  have at1 := tk_arr hV.2.2 ht
  show Md_isSame_39b (Md_isSame_39 99999) t u 0 0 τ = _
  unfold Md_isSame_39b
  rw [if_pos (inb (by omega) (by omega) (by omega)), wrn (a := (t : Int)) rfl (by omega), at1.2.2.1, wr_0, wr_id (n := (tq S t).2.2.1) (by omega) (by omega), if_pos (by omega), if_pos rfl, if_pos (Or.inl rfl)]
theorem md_is_39 (hV : VM S τ) {t u L : Nat} (ht : t < fsS S (nS S)) (hu : u < fsS S (nS S)) (hL : (tq S t).2.2.1 = L) (hL2 : (tq S u).2.2.1 = L) : ∀ (m n k : Nat), k + m = L → m + 1 < n → Md_isSame_39 n t u 1 k τ = some (cif (∀ j : Nat, k ≤ j → j < L → gS S (tq S t).1 ((tq S t).2.1 + j) = gS S (tq S u).1 ((tq S u).2.1 + j)) 1 0, τ) := by
  have hfs := fsS_le hV.1 (nS S) (Nat.le_refl _)
  have hN := hV.1.n
  have a := tq_ok hV.1 ht
  have b := tq_ok hV.1 hu
  have hl := hV.1.len a.1
  have at1 := tk_arr hV.2.2 ht
  have au1 := tk_arr hV.2.2 hu
  intro m
  induction m with
  | zero =>
    intro n k hk hn
    obtain ⟨n, rfl⟩ : ∃ z, n = z + 1 := ⟨n - 1, by omega⟩
    show Md_isSame_39b (Md_isSame_39 n) t u 1 k τ = _
    unfold Md_isSame_39b
    rw [if_pos (inb (by omega) (by omega) (by omega)), wrn (a := (t : Int)) rfl (by omega), at1.2.2.1, hL, wr_id (n := (k : Int)) (by omega) (by omega), wr_id (n := (L : Int)) (by omega) (by omega), if_neg (by omega), if_pos (Or.inr rfl), cif_pos (fun j h1 h2 => by omega)]
  | succ m ih =>
    intro n k hk hn
    obtain ⟨n, rfl⟩ : ∃ z, n = z + 1 := ⟨n - 1, by omega⟩
    have b1 := md_byteT hV ht (k := k) (by omega)
    have b2 := md_byteT hV hu (k := k) (by omega)
    show Md_isSame_39b (Md_isSame_39 n) t u 1 k τ = _
    unfold Md_isSame_39b
    rw [if_pos (inb (by omega) (by omega) (by omega)), wrn (a := (t : Int)) rfl (by omega), at1.2.2.1, hL, wr_id (n := (k : Int)) (by omega) (by omega), wr_id (n := (L : Int)) (by omega) (by omega), if_pos (by omega), wr_1, if_neg n10, if_pos (inb (by omega) (by omega) (by omega)), if_pos (inb (by omega) (by omega) (by omega)), at1.1, at1.2.1, b1.1, bnd_s]
    dsimp only
    rw [if_pos (inb (by omega) (by omega) (by omega)), if_pos (inb (by omega) (by omega) (by omega)), wrn (a := (u : Int)) rfl (by omega), au1.1, au1.2.1, b2.1, bnd_s]
    dsimp only
    rw [wr_id (n := gS S (tq S t).1 ((tq S t).2.1 + k)) (by omega) (by omega), wr_id (n := gS S (tq S u).1 ((tq S u).2.1 + k)) (by omega) (by omega), show (k : Int) + 1 = ((k + 1 : Nat) : Int) by omega]
    by_cases q : gS S (tq S t).1 ((tq S t).2.1 + k) = gS S (tq S u).1 ((tq S u).2.1 + k)
    · rw [if_pos q, ih n (k + 1) (by omega) (by omega)]
      refine congrArg (fun x => some (x, τ)) (cif_congr ⟨fun z j h1 h2 => ?_, fun z j h1 h2 => z j (by omega) h2⟩)
      by_cases e : j = k
      · subst e; exact q
      · exact z j (by omega) h2
    · rw [if_neg q, cif_neg (fun z => q (z k (by omega) (by omega)))]
      obtain ⟨n, rfl⟩ : ∃ z, n = z + 1 := ⟨n - 1, by omega⟩
      show Md_isSame_39b (Md_isSame_39 n) t u 0 ((k + 1 : Nat) : Int) τ = _
      unfold Md_isSame_39b
      rw [if_pos (inb (by omega) (by omega) (by omega)), wrn (a := (t : Int)) rfl (by omega), at1.2.2.1, hL, wr_id (n := ((k + 1 : Nat) : Int)) (by omega) (by omega), wr_id (n := (L : Int)) (by omega) (by omega)]
      by_cases q2 : k + 1 < L
      · rw [if_pos (by omega), wr_0, if_pos rfl, if_pos (Or.inl rfl)]
      · rw [if_neg (by omega), if_pos (Or.inl rfl)]
theorem md_isSame (hV : VM S τ) {t u : Nat} (ht : t < fsS S (nS S)) (hu : u < fsS S (nS S)) : Md_isSame t u τ = some (cif (sameP S t u) 1 0, τ) := by
  have hfs := fsS_le hV.1 (nS S) (Nat.le_refl _)
  have hN := hV.1.n
  have a := tq_ok hV.1 ht
  have b := tq_ok hV.1 hu
  have hl := hV.1.len a.1
  have hl2 := hV.1.len b.1
  have at1 := tk_arr hV.2.2 ht
  have au1 := tk_arr hV.2.2 hu
  unfold Md_isSame
  rw [if_pos (inb (by omega) (by omega) (by omega)), if_pos (inb (by omega) (by omega) (by omega)), wrn (a := (t : Int)) rfl (by omega), wrn (a := (u : Int)) rfl (by omega), at1.2.2.2, au1.2.2.2, at1.2.2.1, au1.2.2.1, wr_id (n := (tq S t).2.2.2) (by omega) (by omega), wr_id (n := (tq S u).2.2.2) (by omega) (by omega), wr_id (n := (tq S t).2.2.1) (by omega) (by omega), wr_id (n := (tq S u).2.2.1) (by omega) (by omega)]
  by_cases q : (tq S t).2.2.2 = (tq S u).2.2.2
  · rw [if_pos q, if_pos (inb (by omega) (by omega) (by omega)), if_pos (inb (by omega) (by omega) (by omega))]
    by_cases q2 : (tq S t).2.2.1 = (tq S u).2.2.1
    · obtain ⟨L, hL⟩ : ∃ z : Nat, (tq S t).2.2.1 = (z : Int) := ⟨((tq S t).2.2.1).toNat, by omega⟩
      have := md_is_39 hV ht hu hL (by rw [← q2]; exact hL) L 100000 0 (by omega) (by omega)
      rw [show ((0 : Nat) : Int) = 0 from rfl] at this
      rw [if_pos q2, this]
      exact congrArg (fun x => some (x, τ)) (cif_congr ⟨fun z => ⟨q, q2, fun k hk => z k (by omega) (by omega)⟩, fun z j h1 h2 => z.2.2 j (by omega)⟩)
    · rw [if_neg q2, md_is_0 hV ht hu, cif_neg (fun z => q2 z.2.1)]
  · rw [if_neg q, md_is_0 hV ht hu, cif_neg (fun z => q z.1)]
theorem md_if_18 (hV : VM S τ) {t : Nat} (ht : t < fsS S (nS S)) : ∀ (m n x : Nat), x + m = t → m + 1 < n → Md_isFirst_18 n t 1 x τ = some (cif (∀ u, x ≤ u → u < t → ¬ sameP S t u) 1 0, τ) := by
  have hfs := fsS_le hV.1 (nS S) (Nat.le_refl _)
  have hN := hV.1.n
  intro m
  induction m with
  | zero =>
    intro n x hx hn
    obtain ⟨n, rfl⟩ : ∃ z, n = z + 1 := ⟨n - 1, by omega⟩
    show Md_isFirst_18b (Md_isFirst_18 n) t 1 x τ = _
    unfold Md_isFirst_18b
    rw [wr_id (n := (x : Int)) (by omega) (by omega), wr_id (n := (t : Int)) (by omega) (by omega), if_neg (by omega), if_pos (Or.inr rfl), cif_pos (fun j h1 h2 => by omega)]
  | succ m ih =>
    intro n x hx hn
    obtain ⟨n, rfl⟩ : ∃ z, n = z + 1 := ⟨n - 1, by omega⟩
    show Md_isFirst_18b (Md_isFirst_18 n) t 1 x τ = _
    unfold Md_isFirst_18b
    rw [wr_id (n := (x : Int)) (by omega) (by omega), wr_id (n := (t : Int)) (by omega) (by omega), if_pos (by omega), wr_1, if_neg n10, md_isSame hV ht (by omega), bnd_s]
    dsimp only
    rw [show (x : Int) + 1 = ((x + 1 : Nat) : Int) by omega]
    by_cases q : sameP S t x
    · rw [cif_pos q, wr_1, if_neg n10, cif_neg (fun z => z x (by omega) (by omega) q)]
      obtain ⟨n, rfl⟩ : ∃ z, n = z + 1 := ⟨n - 1, by omega⟩
      show Md_isFirst_18b (Md_isFirst_18 n) t 0 ((x + 1 : Nat) : Int) τ = _
      unfold Md_isFirst_18b
      rw [wr_id (n := ((x + 1 : Nat) : Int)) (by omega) (by omega), wr_id (n := (t : Int)) (by omega) (by omega)]
      by_cases q2 : x + 1 < t
      · rw [if_pos (by omega), wr_0, if_pos rfl, if_pos (Or.inl rfl)]
      · rw [if_neg (by omega), if_pos (Or.inl rfl)]
    · rw [cif_neg q, wr_0, if_pos rfl, ih n (x + 1) (by omega) (by omega)]
      refine congrArg (fun y => some (y, τ)) (cif_congr ⟨fun z j h1 h2 => ?_, fun z j h1 h2 => z j (by omega) h2⟩)
      by_cases e : j = x
      · subst e; exact q
      · exact z j (by omega) h2
theorem fstT_iff (hS : SV S) {t : Nat} (ht : t < fsS S (nS S)) : fstT S t ↔ kd2 S t ∧ ∀ u, 0 ≤ u → u < t → ¬ sameP S t u := by
  refine ⟨fun h => ⟨h.1, fun u _ h2 h3 => h.2 u h2 (fun z => h.1 (by rw [h3.1]; exact z)) h3.2⟩, fun h => ⟨h.1, fun u h2 h3 h4 => h.2 u (by omega) h2 ⟨eqX_kd hS ht (by omega) h.1 h3 h4, h4⟩⟩⟩
theorem md_isFirst (hV : VM S τ) {t : Nat} (ht : t < fsS S (nS S)) : Md_isFirst t τ = some (cif (fstT S t) 1 0, τ) := by
  have hfs := fsS_le hV.1 (nS S) (Nat.le_refl _)
  have hN := hV.1.n
  have a := tq_ok hV.1 ht
  have at1 := tk_arr hV.2.2 ht
  rw [cif_congr (fstT_iff hV.1 ht)]
  unfold Md_isFirst
  rw [if_pos (inb (by omega) (by omega) (by omega)), wrn (a := (t : Int)) rfl (by omega), at1.2.2.2, wr_id (n := (tq S t).2.2.2) (by omega) (by omega)]
  by_cases q : (tq S t).2.2.2 < 2
  · have := md_if_18 hV ht t 100000 0 (by omega) (by omega)
    rw [show ((0 : Nat) : Int) = 0 from rfl] at this
    rw [if_pos q, this]
    exact congrArg (fun y => some (y, τ)) (cif_congr ⟨fun z => ⟨by unfold kd2; omega, z⟩, fun z => z.2⟩)
  · rw [if_neg q, cif_neg (fun z => z.1 (by omega))]
    show Md_isFirst_18b (Md_isFirst_18 99999) t 0 0 τ = _
    unfold Md_isFirst_18b
    rw [wr_0, wr_id (n := (t : Int)) (by omega) (by omega)]
    by_cases q2 : 0 < t
    · rw [if_pos (by omega), if_pos rfl, if_pos (Or.inl rfl)]
    · rw [if_neg (by omega), if_pos (Or.inl rfl)]
theorem md_vo_8 (hV : VM S τ) : ∀ (d n m : Nat), m + d = fsS S (nS S) → d < n → Md_vocabulary_8 n ((vl S m).length : Nat) m τ = some ((((vl S (fsS S (nS S))).length : Nat) : Int), τ) := by
  have hfs := fsS_le hV.1 (nS S) (Nat.le_refl _)
  have hN := hV.1.n
  intro d
  induction d with
  | zero =>
    intro n m hm hn
    obtain ⟨n, rfl⟩ : ∃ z, n = z + 1 := ⟨n - 1, by omega⟩
    show Md_vocabulary_8b (Md_vocabulary_8 n) ((vl S m).length : Nat) m τ = _
    unfold Md_vocabulary_8b
    rw [show τ 0 12 = ((fsS S (nS S) : Nat) : Int) from hV.2.2.1.1, wr_id (n := (m : Int)) (by omega) (by omega), wr_id (n := ((fsS S (nS S) : Nat) : Int)) (by omega) (by omega), if_neg (by omega), show fsS S (nS S) = m by omega]
  | succ d ih =>
    intro n m hm hn
    obtain ⟨n, rfl⟩ : ∃ z, n = z + 1 := ⟨n - 1, by omega⟩
    show Md_vocabulary_8b (Md_vocabulary_8 n) ((vl S m).length : Nat) m τ = _
    unfold Md_vocabulary_8b
    rw [show τ 0 12 = ((fsS S (nS S) : Nat) : Int) from hV.2.2.1.1, wr_id (n := (m : Int)) (by omega) (by omega), wr_id (n := ((fsS S (nS S) : Nat) : Int)) (by omega) (by omega), if_pos (by omega), md_isFirst hV (by omega), bnd_s]
    dsimp only
    have nx := ih n (m + 1) (by omega) (by omega)
    rw [vl_s] at nx
    rw [show (m : Int) + 1 = ((m + 1 : Nat) : Int) by omega]
    by_cases q : fstT S m
    · rw [cif_pos q, List.length_append, List.length_singleton] at nx
      rw [cif_pos q, wr_1, if_neg n10, ← nx, show (((vl S m).length : Nat) : Int) + 1 = (((vl S m).length + 1 : Nat) : Int) by omega]
    · rw [cif_neg q] at nx
      rw [cif_neg q, wr_0, if_pos rfl, Int.add_zero]
      exact nx
theorem Inv.vm (h : Inv σ τ) : Ex (Md_tokenizes τ) (fun _ τ1 => Fr FR τ τ1 ∧ VM (absM τ 0) τ1) := (md_tokenizes h.1.2.1).mono (fun _ τ1 y => ⟨y.1.mono (fun o k => FT_R), h.1.2.1, absM_congr (by funext z; exact y.1 1 z (by unfold FT; omega)) 0, y.2⟩)
theorem t_vocabulary (h : Inv σ τ) : Two (Ai_vocabulary σ) (Md_vocabulary τ) := by
  have hS := h.1.2.1
  have hfs := fsS_le hS (nS (absM τ 0)) (Nat.le_refl _)
  have hN := hS.n
  unfold Ai_vocabulary Md_vocabulary Two
  refine Ex.bnd (h.study.mono (fun _ σ1 z => ?_))
  obtain ⟨hK, -, -⟩ := z
  refine Ex.bnd ((voc_count hK).mono (fun _ σ2 y => Ex.ret ?_))
  refine Ex.bnd (h.vm.mono (fun _ τ1 x => ?_))
  have := md_vo_8 x.2 (fsS (absM τ 0) (nS (absM τ 0))) 100000 0 (by omega) (by omega)
  refine Ex.of this ⟨?_, hK.2.2 σ2 τ1 y.1 x.1⟩
  exact y.2.1.symm
end VP
