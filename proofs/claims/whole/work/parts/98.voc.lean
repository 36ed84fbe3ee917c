/-! ===== the vocabulary: what it is; the class counts it ===== -/
section VO
variable {σ τ S : Mem}
theorem gdL {l : List Nat} {x n : Nat} (h : n < l.length) : (l ++ [x]).getD n 0 = l.getD n 0 := by
  rw [List.getD_eq_getElem?_getD, List.getElem?_append_left h, ← List.getD_eq_getElem?_getD]
theorem gdR (l : List Nat) (x : Nat) : (l ++ [x]).getD l.length 0 = x := by
  rw [List.getD_eq_getElem?_getD, List.getElem?_append_right (Nat.le_refl _), Nat.sub_self]; rfl
theorem sLine_kd {g : Int → Int} {len cm : Int} : ∀ (n : Nat) (k : Int), ∀ q ∈ (sLine g len cm n k).1, (q.2.2 = 0 → isW (g q.1)) ∧ (q.2.2 = 1 → ¬ isW (g q.1))
  | 0, k => by intro q h; simp [sLine] at h
  | n + 1, k => by
    intro q h
    unfold sLine at h
    split at h
    · split at h
      · exact sLine_kd n (k + 1) q h
      · split at h
        · split at h
          · simp at h; subst h; exact ⟨fun z => by simp at z, fun z => by simp at z⟩
          · rcases List.mem_cons.mp h with e | e
            · subst e; exact ⟨fun z => by simp at z, fun z => by simp at z⟩
            · exact sLine_kd n _ q e
        · split at h
          · rcases List.mem_cons.mp h with e | e
            · subst e; exact ⟨fun z => by simp at z, fun z => by simp at z⟩
            · exact sLine_kd n _ q e
          · split at h
            · simp at h
            · split at h
              · rename_i hw
                rcases List.mem_cons.mp h with e | e
                · subst e; exact ⟨fun _ => hw, fun z => by simp at z⟩
                · exact sLine_kd n _ q e
              · rename_i hw
                rcases List.mem_cons.mp h with e | e
                · subst e; exact ⟨fun z => by simp at z, fun _ => hw⟩
                · exact sLine_kd n _ q e
    · simp at h
theorem tq_kd {T : Nat} (h : T < fsS S (nS S)) : ((tq S T).2.2.2 = 0 → isW (gS S (tq S T).1 (tq S T).2.1)) ∧ ((tq S T).2.2.2 = 1 → ¬ isW (gS S (tq S T).1 (tq S T).2.1)) := by
  obtain ⟨j, t, q, h1, h2, h3⟩ := fs_find S (nS S) T h
  subst h2
  rw [tq_at h1 h3]
  have hm : q ∈ tkS S j := List.mem_of_getElem? h3
  have : (q.2.2 = 0 → isW (gS S j q.1)) ∧ (q.2.2 = 1 → ¬ isW (gS S j q.1)) := by
    unfold tkS lnS at hm
    split at hm
    · exact sLine_kd 40 0 q hm
    · split at hm
      · simp at hm
      · exact sLine_kd 40 _ q hm
  exact this
/-- two tokens have one text -/
def eqX (S : Mem) (t u : Nat) : Prop := (tq S t).2.2.1 = (tq S u).2.2.1 ∧ ∀ k : Nat, (k : Int) < (tq S t).2.2.1 → gS S (tq S t).1 ((tq S t).2.1 + k) = gS S (tq S u).1 ((tq S u).2.1 + k)
theorem eqX.rf (t : Nat) : eqX S t t := ⟨rfl, fun _ _ => rfl⟩
theorem eqX.sy {t u : Nat} (h : eqX S t u) : eqX S u t := ⟨h.1.symm, fun k hk => (h.2 k (by rw [h.1]; exact hk)).symm⟩
theorem eqX.tr {t u v : Nat} (h : eqX S t u) (h2 : eqX S u v) : eqX S t v := ⟨h.1.trans h2.1, fun k hk => (h.2 k hk).trans (h2.2 k (by rw [← h.1]; exact hk))⟩
/-- a word or a sign -/
def kd2 (S : Mem) (t : Nat) : Prop := (tq S t).2.2.2 ≠ 2
theorem eqX_kd (hS : SV S) {t u : Nat} (ht : t < fsS S (nS S)) (hu : u < fsS S (nS S)) (h1 : kd2 S t) (h2 : kd2 S u) (h : eqX S t u) : (tq S t).2.2.2 = (tq S u).2.2.2 := by
  have a := tq_ok hS ht
  have b := tq_ok hS hu
  have c := tq_kd ht
  have d := tq_kd hu
  have e := h.2 0 (by omega)
  rw [show ((0 : Nat) : Int) = 0 from rfl, Int.add_zero, Int.add_zero] at e
  unfold kd2 at h1 h2
  rcases a.2.2.2.2 with x | x | x <;> rcases b.2.2.2.2 with y | y | y
  · rw [x, y]
  · exact absurd (c.1 x) (by rw [e]; exact d.2 y)
  · exact absurd y h2
  · exact absurd (d.1 y) (by rw [← e]; exact c.2 x)
  · rw [x, y]
  · exact absurd y h2
  · exact absurd x h1
  · exact absurd x h1
  · exact absurd x h1
/-- the first token of its text -/
def fstT (S : Mem) (t : Nat) : Prop := kd2 S t ∧ ∀ u, u < t → kd2 S u → ¬ eqX S t u
noncomputable def vl (S : Mem) : Nat → List Nat
  | 0 => []
  | m + 1 => cif (fstT S m) (vl S m ++ [m]) (vl S m)
noncomputable def cntT (S : Mem) (t : Nat) : Nat → Nat
  | 0 => 0
  | m + 1 => cntT S t m + cif (kd2 S m ∧ eqX S t m) 1 0
theorem vl_s (S : Mem) (m : Nat) : vl S (m + 1) = cif (fstT S m) (vl S m ++ [m]) (vl S m) := rfl
theorem cntT_s (S : Mem) (t m : Nat) : cntT S t (m + 1) = cntT S t m + cif (kd2 S m ∧ eqX S t m) 1 0 := rfl
theorem vl_len (S : Mem) : ∀ m, (vl S m).length ≤ m
  | 0 => Nat.le_refl _
  | m + 1 => by
    rw [vl_s]
    have := vl_len S m
    by_cases q : fstT S m
    · rw [cif_pos q, List.length_append]; simp; omega
    · rw [cif_neg q]; omega
theorem vl_mem (S : Mem) : ∀ m t, t ∈ vl S m → t < m ∧ fstT S t
  | 0, t, h => by simp [vl] at h
  | m + 1, t, h => by
    rw [vl_s] at h
    by_cases q : fstT S m
    · rw [cif_pos q] at h
      rcases List.mem_append.mp h with z | z
      · have := vl_mem S m t z; exact ⟨by omega, this.2⟩
      · simp at z; subst z; exact ⟨by omega, q⟩
    · rw [cif_neg q] at h
      have := vl_mem S m t h; exact ⟨by omega, this.2⟩
theorem vl_get {m w : Nat} (h : w < (vl S m).length) : (vl S m).getD w 0 < m ∧ fstT S ((vl S m).getD w 0) := vl_mem S m _ (getD_mem h)
/-- each word or sign has its text in the vocabulary -/
theorem vl_rep (S : Mem) : ∀ (m u : Nat), u < m → kd2 S u → ∃ w, w < (vl S m).length ∧ eqX S ((vl S m).getD w 0) u
  | 0, u, h, _ => by omega
  | m + 1, u, h, hk => by
    rw [vl_s]
    by_cases e : u = m
    · subst e
      by_cases q : fstT S u
      · rw [cif_pos q]
        refine ⟨(vl S u).length, by simp, ?_⟩
        rw [gdR]
        exact eqX.rf u
      · rw [cif_neg q]
        have : ∃ v, v < u ∧ kd2 S v ∧ eqX S u v := Classical.byContradiction (fun z => q ⟨hk, fun v h1 h2 h3 => z ⟨v, h1, h2, h3⟩⟩)
        obtain ⟨v, h1, h2, h3⟩ := this
        obtain ⟨w, w1, w2⟩ := vl_rep S u v h1 h2
        exact ⟨w, w1, w2.tr h3.sy⟩
    · obtain ⟨w, w1, w2⟩ := vl_rep S m u (by omega) hk
      by_cases q : fstT S m
      · rw [cif_pos q]
        refine ⟨w, by rw [List.length_append]; omega, ?_⟩
        rw [gdL w1]
        exact w2
      · rw [cif_neg q]; exact ⟨w, w1, w2⟩
/-- the texts in the vocabulary differ -/
theorem vl_ne (S : Mem) : ∀ (m w v : Nat), w < v → v < (vl S m).length → (vl S m).getD w 0 < (vl S m).getD v 0
  | 0, w, v, _, h => by simp [vl] at h
  | m + 1, w, v, h1, h2 => by
    rw [vl_s] at h2 ⊢
    by_cases q : fstT S m
    · rw [cif_pos q] at h2 ⊢
      rw [List.length_append, List.length_singleton] at h2
      by_cases e : v < (vl S m).length
      · rw [gdL e, gdL (by omega)]
        exact vl_ne S m w v h1 e
      · rw [show v = (vl S m).length by omega, gdR, gdL (by omega)]
        exact (vl_get (by omega)).1
    · rw [cif_neg q] at h2 ⊢
      exact vl_ne S m w v h1 h2
theorem vl_dis {m w v : Nat} (h1 : w < (vl S m).length) (h2 : v < (vl S m).length) (h : eqX S ((vl S m).getD w 0) ((vl S m).getD v 0)) : w = v := by
  rcases Nat.lt_trichotomy w v with q | q | q
  · exact absurd h.sy ((vl_get h2).2.2 _ (vl_ne S m w v q h2) (vl_get h1).2.1)
  · exact q
  · exact absurd h ((vl_get h1).2.2 _ (vl_ne S m v w q h1) (vl_get h2).2.1)
theorem voc_byte (hS : SV S) {σ1 : Mem} (hA : absC σ1 1 = S) {T : Nat} (hT : T < fsS S (nS S)) {k : Nat} (hk : (k : Int) < (tq S T).2.2.1) : Lin_byteOf ((tq S T).1 : Int) ((tq S T).2.1 + k) σ1 = some (gS S (tq S T).1 ((tq S T).2.1 + k), σ1) ∧ 32 ≤ gS S (tq S T).1 ((tq S T).2.1 + k) ∧ gS S (tq S T).1 ((tq S T).2.1 + k) ≤ 126 := by
  have a := tq_ok hS hT
  have hl := hS.len a.1
  have hg := gS_GV hS a.1
  have := lin_byteOf (σ := σ1) (i := (tq S T).1) (by rw [hA]; exact hS) (by rw [hA]; exact a.1) (k := (tq S T).2.1 + k) (by omega) (by omega)
  rw [hA, if_pos (by omega)] at this
  exact ⟨this, hg.2.2.1 _ (by omega) (by omega)⟩
theorem voc_st_28 (hS : SV S) {σ1 : Mem} (hA : absC σ1 1 = S) (hT : TkC S σ1) {t u L : Nat} (ht : t < fsS S (nS S)) (hu : u < fsS S (nS S)) (hL : (tq S t).2.2.1 = L) (hL2 : (tq S u).2.2.1 = L) : ∀ (m n k : Nat), k + m = L → m < n → Voc_sameText_28 n t u L k σ1 = some (cif (∀ j : Nat, k ≤ j → j < L → gS S (tq S t).1 ((tq S t).2.1 + j) = gS S (tq S u).1 ((tq S u).2.1 + j)) 1 0, σ1) := by
  have hfs := fsS_le hS (nS S) (Nat.le_refl _)
  have hN := hS.n
  have a := tq_ok hS ht
  have hl := hS.len a.1
  have at1 := tk_arr hT ht
  have au1 := tk_arr hT hu
  intro m
  induction m with
  | zero =>
    intro n k hk hn
    obtain ⟨n, rfl⟩ : ∃ z, n = z + 1 := ⟨n - 1, by omega⟩
    show Voc_sameText_28b (Voc_sameText_28 n) t u L k σ1 = _
    unfold Voc_sameText_28b
    rw [wr_id (n := (k : Int)) (by omega) (by omega), wr_id (n := (L : Int)) (by omega) (by omega), if_neg (by omega), cif_pos (fun j h1 h2 => by omega)]
  | succ m ih =>
    intro n k hk hn
    obtain ⟨n, rfl⟩ : ∃ z, n = z + 1 := ⟨n - 1, by omega⟩
    have b1 := voc_byte hS hA ht (k := k) (by omega)
    have b2 := voc_byte hS hA hu (k := k) (by omega)
    show Voc_sameText_28b (Voc_sameText_28 n) t u L k σ1 = _
    unfold Voc_sameText_28b
    rw [wr_id (n := (k : Int)) (by omega) (by omega), wr_id (n := (L : Int)) (by omega) (by omega), if_pos (by omega), rg_290 (by omega) (by omega), bnd_s]
    dsimp only
    rw [rg_292 (by omega) (by omega), bnd_s]
    dsimp only
    rw [show ((t : Int)).toNat = t by omega, at1.1, at1.2.1, b1.1, bnd_s]
    dsimp only
    rw [rg_290 (by omega) (by omega), bnd_s]
    dsimp only
    rw [rg_292 (by omega) (by omega), bnd_s]
    dsimp only
    rw [show ((u : Int)).toNat = u by omega, au1.1, au1.2.1, b2.1, bnd_s]
    dsimp only
    rw [wr_id (n := gS S (tq S t).1 ((tq S t).2.1 + k)) (by omega) (by omega), wr_id (n := gS S (tq S u).1 ((tq S u).2.1 + k)) (by omega) (by omega)]
    by_cases q : gS S (tq S t).1 ((tq S t).2.1 + k) = gS S (tq S u).1 ((tq S u).2.1 + k)
    · rw [if_pos q, show (k : Int) + 1 = ((k + 1 : Nat) : Int) by omega, ih n (k + 1) (by omega) (by omega)]
      refine congrArg (fun x => some (x, σ1)) (cif_congr ⟨fun z j h1 h2 => ?_, fun z j h1 h2 => z j (by omega) h2⟩)
      by_cases e : j = k
      · subst e; exact q
      · exact z j (by omega) h2
    · rw [if_neg q, cif_neg (fun z => q (z k (by omega) (by omega)))]
theorem voc_sameText (hS : SV S) {σ1 : Mem} (hA : absC σ1 1 = S) (hT : TkC S σ1) {t u : Nat} (ht : t < fsS S (nS S)) (hu : u < fsS S (nS S)) : Voc_sameText t u σ1 = some (cif (eqX S t u) 1 0, σ1) := by
  have hfs := fsS_le hS (nS S) (Nat.le_refl _)
  have hN := hS.n
  have a := tq_ok hS ht
  have b := tq_ok hS hu
  have hl := hS.len a.1
  have hl2 := hS.len b.1
  have at1 := tk_arr hT ht
  have au1 := tk_arr hT hu
  unfold Voc_sameText
  rw [rg_294 (by omega) (by omega), bnd_s]
  dsimp only
  rw [rg_294 (by omega) (by omega), bnd_s]
  dsimp only
  rw [show ((t : Int)).toNat = t by omega, show ((u : Int)).toNat = u by omega, at1.2.2.1, au1.2.2.1, wr_id (n := (tq S t).2.2.1) (by omega) (by omega), wr_id (n := (tq S u).2.2.1) (by omega) (by omega)]
  by_cases q : (tq S t).2.2.1 = (tq S u).2.2.1
  · obtain ⟨L, hL⟩ : ∃ z : Nat, (tq S t).2.2.1 = (z : Int) := ⟨((tq S t).2.2.1).toNat, by omega⟩
    have := voc_st_28 hS hA hT ht hu hL (by rw [← q]; exact hL) L 100000 0 (by omega) (by omega)
    rw [show ((0 : Nat) : Int) = 0 from rfl] at this
    rw [if_pos q, hL, this]
    refine congrArg (fun x => some (x, σ1)) (cif_congr ⟨fun z => ⟨q, fun k hk => z k (by omega) (by omega)⟩, fun z j h1 h2 => z.2 j (by omega)⟩)
  · rw [if_neg q, cif_neg (fun z => q z.1)]
/-- the class's vocabulary of the first m tokens -/
def vcP (S : Mem) (m : Nat) (σ : Mem) : Prop := σ 340 0 = ((vl S m).length : Nat) ∧ ∀ w, w < (vl S m).length → σ 342 w = ((vl S m).getD w 0 : Nat) ∧ σ 344 w = (cntT S ((vl S m).getD w 0) m : Nat)
theorem cnt_le (S : Mem) (t : Nat) : ∀ m, cntT S t m ≤ m
  | 0 => Nat.le_refl _
  | m + 1 => by
    rw [cntT_s]
    have := cnt_le S t m
    by_cases q : kd2 S m ∧ eqX S t m
    · rw [cif_pos q]; omega
    · rw [cif_neg q]; omega
theorem voc_ct_3 (hS : SV S) {t : Nat} (ht : t < fsS S (nS S)) (hk : kd2 S t) : ∀ (d n w : Nat) (σ : Mem), Kw S τ σ → vcP S t σ → w + d = (vl S t).length → d < n → (∀ v, v < w → ¬ eqX S ((vl S t).getD v 0) t) → Ex (Voc_countToken_3 n t w σ) (fun _ σ' => Fr FV σ σ' ∧ vcP S (t + 1) σ') := by
  have hfs := fsS_le hS (nS S) (Nat.le_refl _)
  have hN := hS.n
  have hvl := vl_len S t
  intro d
  induction d with
  | zero =>
    intro n w σ hK hv hw hn hno
    obtain ⟨n, rfl⟩ : ∃ z, n = z + 1 := ⟨n - 1, by omega⟩
    have hf : fstT S t := ⟨hk, fun u h1 h2 h3 => by
      obtain ⟨w', w1, w2⟩ := vl_rep S t u h1 h2
      exact hno w' (by omega) (w2.tr h3.sy)⟩
    show Ex (Voc_countToken_3b (Voc_countToken_3 n) t w σ) _
    unfold Voc_countToken_3b
    rw [hv.1, wr_id (n := (w : Int)) (by omega) (by omega), wr_id (n := (((vl S t).length : Nat) : Int)) (by omega) (by omega), if_neg (by omega), rs_341 (by omega) (by omega), bnd_s]
    dsimp only
    rw [show ((((vl S t).length : Nat) : Int)).toNat = (vl S t).length by omega, show upM σ 342 (vl S t).length (t : Int) 340 0 = ((vl S t).length : Nat) by simp [upM, hv.1], rs_343 (by omega) (by omega), bnd_s]
    dsimp only
    rw [show ((((vl S t).length : Nat) : Int)).toNat = (vl S t).length by omega]
    refine Ex.lt (Ex.ret ⟨Fr.up (Fr.up (Fr.up Fr.rf (by unfold FV; omega)) (by unfold FV; omega)) (by unfold FV; omega), ?_, fun v hv2 => ?_⟩)
    · rw [vl_s, cif_pos hf, List.length_append, List.length_singleton]
      simp [upM, hv.1]
    · rw [vl_s, cif_pos hf] at hv2 ⊢
      rw [List.length_append, List.length_singleton] at hv2
      rw [cntT_s]
      by_cases e : v < (vl S t).length
      · have hne : ¬ (kd2 S t ∧ eqX S ((vl S t).getD v 0) t) := fun z => hno v (by omega) z.2
        have h0 := hv.2 v e
        rw [gdL e, cif_neg hne, Nat.add_zero]
        refine ⟨?_, ?_⟩
        · simp only [upM]; rw [if_neg (by omega), if_neg (by omega), if_neg (by omega)]; exact h0.1
        · simp only [upM]; rw [if_neg (by omega), if_neg (by omega), if_neg (by omega)]; exact h0.2
      · have ev : v = (vl S t).length := by omega
        subst ev
        rw [gdR]
        have c0 : cntT S t t = 0 := by
          have : ∀ m, m ≤ t → cntT S t m = 0 := by
            intro m
            induction m with
            | zero => intro _; rfl
            | succ m ih =>
              intro hm
              rw [cntT_s, ih (by omega), cif_neg (fun z => hf.2 m (by omega) z.1 z.2)]
          exact this t (Nat.le_refl _)
        show upM _ 340 0 _ 342 _ = ((t : Nat) : Int) ∧ upM _ 340 0 _ 344 _ = ((cntT S t t + cif (kd2 S t ∧ eqX S t t) 1 0 : Nat) : Int)
        rw [c0, cif_pos ⟨hk, eqX.rf t⟩]
        refine ⟨?_, ?_⟩
        · simp only [upM]; rw [if_neg (by omega), if_neg (by omega), if_pos ⟨trivial, trivial⟩]
        · simp only [upM]; rw [if_neg (by omega), if_pos ⟨trivial, trivial⟩]; rfl
  | succ d ih =>
    intro n w σ hK hv hw hn hno
    obtain ⟨n, rfl⟩ : ∃ z, n = z + 1 := ⟨n - 1, by omega⟩
    have hwl : w < (vl S t).length := by omega
    have h0 := hv.2 w hwl
    have hg := vl_get hwl
    have hc := cnt_le S ((vl S t).getD w 0) t
    show Ex (Voc_countToken_3b (Voc_countToken_3 n) t w σ) _
    unfold Voc_countToken_3b
    rw [hv.1, wr_id (n := (w : Int)) (by omega) (by omega), wr_id (n := (((vl S t).length : Nat) : Int)) (by omega) (by omega), if_pos (by omega), rg_341 (by omega) (by omega), bnd_s]
    dsimp only
    rw [show ((w : Int)).toNat = w by omega, h0.1, voc_sameText hS hK.1.2.2.1 hK.1.2.2.2.2.1 (by omega) ht, bnd_s]
    dsimp only
    by_cases q : eqX S ((vl S t).getD w 0) t
    · rw [cif_pos q, wr_1, if_neg n10, rg_343 (by omega) (by omega), bnd_s]
      dsimp only
      rw [rs_343 (by omega) (by omega), bnd_s]
      dsimp only
      rw [show ((w : Int)).toNat = w by omega, h0.2]
      have hnf : ¬ fstT S t := fun z => z.2 _ hg.1 hg.2.1 q.sy
      refine Ex.ret ⟨Fr.up Fr.rf (by unfold FV; omega), ?_, fun v hv2 => ?_⟩
      · rw [vl_s, cif_neg hnf]; simp only [upM]; rw [if_neg (by omega)]; exact hv.1
      · rw [vl_s, cif_neg hnf] at hv2 ⊢
        have h1 := hv.2 v hv2
        rw [cntT_s]
        refine ⟨by simp only [upM]; rw [if_neg (by omega)]; exact h1.1, ?_⟩
        by_cases e : v = w
        · subst e
          rw [cif_pos ⟨hk, q⟩]
          simp only [upM]; rw [if_pos ⟨trivial, trivial⟩]; omega
        · rw [cif_neg (fun z => e (vl_dis hv2 hwl (z.2.tr q.sy)))]
          simp only [upM]; rw [if_neg (by omega)]; exact h1.2
    · rw [cif_neg q, wr_0, if_pos rfl, show (w : Int) + 1 = ((w + 1 : Nat) : Int) by omega]
      refine ih n (w + 1) σ hK hv (by omega) (by omega) (fun v hv2 => ?_)
      by_cases e : v = w
      · subst e; exact q
      · exact hno v (by omega)
theorem voc_c_7 (hS : SV S) : ∀ (d n m : Nat) (σ : Mem), Kw S τ σ → vcP S m σ → m + d = fsS S (nS S) → d < n → Ex (Voc_count_7 n m σ) (fun _ σ' => Fr FV σ σ' ∧ vcP S (fsS S (nS S)) σ') := by
  have hfs := fsS_le hS (nS S) (Nat.le_refl _)
  have hN := hS.n
  intro d
  induction d with
  | zero =>
    intro n m σ hK hv hm hn
    obtain ⟨n, rfl⟩ : ∃ z, n = z + 1 := ⟨n - 1, by omega⟩
    have hT := hK.1.2.2.2.2.1
    show Ex (Voc_count_7b (Voc_count_7 n) m σ) _
    unfold Voc_count_7b
    rw [show σ 289 0 = ((fsS S (nS S) : Nat) : Int) from hT.1.1, wr_id (n := (m : Int)) (by omega) (by omega), wr_id (n := ((fsS S (nS S) : Nat) : Int)) (by omega) (by omega), if_neg (by omega)]
    exact Ex.ret ⟨Fr.rf, by rw [show fsS S (nS S) = m by omega]; exact hv⟩
  | succ d ih =>
    intro n m σ hK hv hm hn
    obtain ⟨n, rfl⟩ : ∃ z, n = z + 1 := ⟨n - 1, by omega⟩
    have hT := hK.1.2.2.2.2.1
    have a := tq_ok hS (T := m) (by omega)
    have am := tk_arr hT (T := m) (by omega)
    show Ex (Voc_count_7b (Voc_count_7 n) m σ) _
    unfold Voc_count_7b
    rw [show σ 289 0 = ((fsS S (nS S) : Nat) : Int) from hT.1.1, wr_id (n := (m : Int)) (by omega) (by omega), wr_id (n := ((fsS S (nS S) : Nat) : Int)) (by omega) (by omega), if_pos (by omega), rg_296 (by omega) (by omega), bnd_s]
    dsimp only
    rw [show ((m : Int)).toNat = m by omega, am.2.2.2, wr_id (n := (tq S m).2.2.2) (by omega) (by omega), show (m : Int) + 1 = ((m + 1 : Nat) : Int) by omega]
    by_cases q : (tq S m).2.2.2 = 2
    · rw [if_pos q]
      refine ih n (m + 1) σ hK ?_ (by omega) (by omega)
      have hnk : ¬ kd2 S m := fun z => z q
      have hnf : ¬ fstT S m := fun z => hnk z.1
      refine ⟨by rw [vl_s, cif_neg hnf]; exact hv.1, fun w hw => ?_⟩
      rw [vl_s, cif_neg hnf] at hw ⊢
      rw [cntT_s, cif_neg (fun z => hnk z.1), Nat.add_zero]
      exact hv.2 w hw
    · rw [if_neg q]
      have hk : kd2 S m := q
      have hvl := vl_len S m
      refine Ex.bnd (((voc_ct_3 hS (by omega) hk (vl S m).length 100000 0 σ hK hv (by omega) (by omega) (fun v hv => by omega))).mono (fun _ σ1 z => ?_))
      exact (ih n (m + 1) σ1 (Kw_Fr hK z.1) z.2 (by omega) (by omega)).mono (fun _ σ2 y => ⟨z.1.tr y.1, y.2⟩)
theorem voc_count {σ1 : Mem} (hK : Kw S τ σ1) : Ex (Voc_count σ1) (fun _ σ2 => Fr FV σ1 σ2 ∧ vcP S (fsS S (nS S)) σ2) := by
  have hS := hK.1.1
  have hfs := fsS_le hS (nS S) (Nat.le_refl _)
  have hN := hS.n
  unfold Voc_count
  have hF : Fr FV σ1 (upM σ1 340 0 0) := Fr.up Fr.rf (by unfold FV; omega)
  refine Ex.lt ((voc_c_7 hS (fsS S (nS S)) 100000 0 (upM σ1 340 0 0) (Kw_Fr hK hF) ⟨by simp [upM, vl], fun w hw => by simp [vl] at hw⟩ (by omega) (by omega)).mono (fun _ σ2 z => ⟨hF.tr z.1, z.2⟩))
end VO
