/-! ===== shift ===== -/
section SH
variable {σ τ : Mem}
theorem md_isBlankR {i : Nat} (hi : i < 20) (h : 0 ≤ τ 1 (21 + i) ∧ τ 1 (21 + i) ≤ 32) : Md_isBlank i τ = some (if 0 < τ 1 (21 + i) then 0 else 1, τ) := by
  unfold Md_isBlank
  rw [if_pos (inb (by omega) (by omega) (by omega)), wrn (n := 21 + i) (by omega) (by omega), wr_id (n := τ 1 (21 + i)) (by omega) (by omega)]
  by_cases q : 0 < τ 1 (21 + i)
  · rw [if_neg (by omega), if_pos q]
  · rw [if_pos (by omega), if_neg q]
theorem md_shift_28 {d : Int} (hd : -40 ≤ d ∧ d ≤ 40) {f t : Nat} (ht : t ≤ 20) (h6 : ∀ j, j < t → (0 ≤ τ 1 (21 + j) ∧ τ 1 (21 + j) ≤ 32) ∧ 0 ≤ τ 1 (1 + j) ∧ τ 1 (1 + j) ≤ 40) : ∀ (m n x c : Nat), x + m = t → m < n → Md_shift_28 n f t d c x τ = cif (canP (fun j => τ 1 (21 + j)) (fun j => τ 1 (1 + j)) d x t) ((Md_begins τ).bind fun q => Md_shift_82 100000 t d ((c + nbL (fun j => τ 1 (21 + j)) m x : Nat) : Int) f q.2) (some (-2, τ)) := by
  intro m
  induction m with
  | zero =>
    intro n x c hx hn
    obtain ⟨n, rfl⟩ : ∃ z, n = z + 1 := ⟨n - 1, by omega⟩
    show Md_shift_28b (Md_shift_28 n) f t d c x τ = _
    unfold Md_shift_28b
    rw [wr_id (n := (x : Int)) (by omega) (by omega), wr_id (n := (t : Int)) (by omega) (by omega), if_neg (by omega), cif_pos (show canP (fun j => τ 1 (21 + j)) (fun j => τ 1 (1 + j)) d x t from fun j h1 h2 => by omega)]
    rfl
  | succ m ih =>
    intro n x c hx hn
    obtain ⟨n, rfl⟩ : ∃ z, n = z + 1 := ⟨n - 1, by omega⟩
    have hj := h6 x (by omega)
    show Md_shift_28b (Md_shift_28 n) f t d c x τ = _
    unfold Md_shift_28b
    rw [wr_id (n := (x : Int)) (by omega) (by omega), wr_id (n := (t : Int)) (by omega) (by omega), if_pos (by omega), md_isBlankR (by omega) hj.1, cif_congr (canP_s (by omega))]
    simp only [Option.bind_some]
    by_cases q : 0 < τ 1 (21 + x)
    · rw [if_pos q, wr_0, if_pos rfl, if_pos (inb (by omega) (by omega) (by omega)), wrn (n := 1 + x) (by omega) (by omega), md_wi ⟨by omega, by omega⟩ (by omega) (by omega)]
      simp only [Option.bind_some]
      by_cases q2 : 0 ≤ τ 1 (1 + x) + d ∧ τ 1 (1 + x) + d ≤ 40
      · have nx := ih n (x + 1) (c + 1) (by omega) (by omega)
        rw [show (((x + 1 : Nat)) : Int) = (x : Int) + 1 by omega, show (((c + 1 : Nat)) : Int) = (c : Int) + 1 by omega] at nx
        rw [if_pos q2, wr_1, if_neg n10, nx, cif_congr (show ((0 < τ 1 (21 + x) → 0 ≤ τ 1 (1 + x) + d ∧ τ 1 (1 + x) + d ≤ 40) ∧ canP (fun j => τ 1 (21 + j)) (fun j => τ 1 (1 + j)) d (x + 1) t) ↔ canP (fun j => τ 1 (21 + j)) (fun j => τ 1 (1 + j)) d (x + 1) t from ⟨fun z => z.2, fun z => ⟨fun _ => q2, z⟩⟩), nbL_s, if_pos q, show c + 1 + nbL (fun j => τ 1 (21 + j)) m (x + 1) = c + (1 + nbL (fun j => τ 1 (21 + j)) m (x + 1)) by omega]
      · rw [if_neg q2, wr_0, if_pos rfl, cif_neg (fun z => q2 (z.1 q))]
    · have nx := ih n (x + 1) c (by omega) (by omega)
      rw [show (((x + 1 : Nat)) : Int) = (x : Int) + 1 by omega] at nx
      rw [if_neg q, wr_1, if_neg n10, nx, cif_congr (show ((0 < τ 1 (21 + x) → 0 ≤ τ 1 (1 + x) + d ∧ τ 1 (1 + x) + d ≤ 40) ∧ canP (fun j => τ 1 (21 + j)) (fun j => τ 1 (1 + j)) d (x + 1) t) ↔ canP (fun j => τ 1 (21 + j)) (fun j => τ 1 (1 + j)) d (x + 1) t from ⟨fun z => z.2, fun z => ⟨fun y => absurd y q, z⟩⟩), nbL_s, if_neg q, Nat.zero_add]
theorem md_shift_82 {d : Int} {t : Nat} (ht : t ≤ 20) {c : Int} : ∀ (m n x : Nat) (τ : Mem), (∀ j, j < t → 0 ≤ τ 1 (21 + j) ∧ τ 1 (21 + j) ≤ 32) → x + m = t → m < n → Ex (Md_shift_82 n t d c x τ) (fun r τ' => r = c ∧ Fr (fun o k => o = 1 ∧ 1 + x ≤ k ∧ k < 1 + t) τ τ' ∧ ∀ j, x ≤ j → j < t → τ' 1 (1 + j) = if 0 < τ 1 (21 + j) then τ 1 (1 + j) + d else τ 1 (1 + j)) := by
  intro m
  induction m with
  | zero =>
    intro n x τ h6 hx hn
    obtain ⟨n, rfl⟩ : ∃ z, n = z + 1 := ⟨n - 1, by omega⟩
    show Ex (Md_shift_82b (Md_shift_82 n) t d c x τ) _
    unfold Md_shift_82b
    rw [wr_id (n := (x : Int)) (by omega) (by omega), wr_id (n := (t : Int)) (by omega) (by omega), if_neg (by omega)]
    exact Ex.ret ⟨rfl, Fr.rf, fun j h1 h2 => by omega⟩
  | succ m ih =>
    intro n x τ h6 hx hn
    obtain ⟨n, rfl⟩ : ∃ z, n = z + 1 := ⟨n - 1, by omega⟩
    have go : ∀ v : Int, v = (if 0 < τ 1 (21 + x) then τ 1 (1 + x) + d else τ 1 (1 + x)) → Ex (Md_shift_82 n t d c ((x : Int) + 1) (upM τ 1 (1 + x) v)) (fun r τ' => r = c ∧ Fr (fun o k => o = 1 ∧ 1 + x ≤ k ∧ k < 1 + t) τ τ' ∧ ∀ j, x ≤ j → j < t → τ' 1 (1 + j) = if 0 < τ 1 (21 + j) then τ 1 (1 + j) + d else τ 1 (1 + j)) := by
      intro v hv
      have k21 : ∀ j, j < t → upM τ 1 (1 + x) v 1 (21 + j) = τ 1 (21 + j) := fun j hj => by simp only [upM]; rw [if_neg (by omega)]
      have nx := ih n (x + 1) (upM τ 1 (1 + x) v) (fun j hj => by rw [k21 j hj]; exact h6 j hj) (by omega) (by omega)
      rw [show (((x + 1 : Nat)) : Int) = (x : Int) + 1 by omega] at nx
      refine nx.mono (fun r τ' z => ?_)
      obtain ⟨z1, z2, z3⟩ := z
      refine ⟨z1, fun o k q => ?_, fun j h1 h2 => ?_⟩
      · rw [z2 o k (by omega)]
        simp only [upM]
        rw [if_neg (by omega)]
      · by_cases e : j = x
        · subst e
          rw [z2 1 _ (by omega)]
          simp only [upM]
          rw [if_pos ⟨trivial, trivial⟩]
          exact hv
        · have k1 : upM τ 1 (1 + x) v 1 (1 + j) = τ 1 (1 + j) := by simp only [upM]; rw [if_neg (by omega)]
          rw [z3 j (by omega) h2, k21 j h2, k1]
    show Ex (Md_shift_82b (Md_shift_82 n) t d c x τ) _
    unfold Md_shift_82b
    rw [wr_id (n := (x : Int)) (by omega) (by omega), wr_id (n := (t : Int)) (by omega) (by omega), if_pos (by omega), if_pos (inb (by omega) (by omega) (by omega)), md_isBlankR (by omega) (h6 x (by omega))]
    simp only [Option.bind_some]
    rw [if_pos (inb (by omega) (by omega) (by omega)), wrn (n := 1 + x) (by omega) (by omega)]
    by_cases q : 0 < τ 1 (21 + x)
    · rw [if_pos q, wr_0, if_pos rfl]
      exact Ex.lt (go _ (by rw [if_pos q]))
    · rw [if_neg q, wr_1, if_neg n10, if_pos (inb (by omega) (by omega) (by omega))]
      exact Ex.lt (go _ (by rw [if_neg q, Int.add_zero]))
theorem nbL_congr {L L' : Nat → Int} : ∀ (m x : Nat), (∀ j, x ≤ j → j < x + m → L j = L' j) → nbL L m x = nbL L' m x
  | 0, x, _ => rfl
  | m + 1, x, h => by rw [nbL_s, nbL_s, h x (by omega) (by omega), nbL_congr m (x + 1) (fun j h1 h2 => h j (by omega) (by omega))]
theorem t_shift (h : Inv σ τ) {a b c : Int} (ha : RI a) (hb : RI b) (hc : RI c) : Two (Ai_shift a b c σ) (Md_shift a b c τ) := by
  have hnb := h.nb
  have hn := h.n
  unfold Ai_shift Md_shift Two
  rw [lin_hasRange ha hb hnb.1, md_isRange ha hb hnb.2]
  simp only [Option.bind_some]
  rw [hn.1]
  by_cases q : 0 ≤ a ∧ a ≤ b ∧ b ≤ τ 1 0
  · obtain ⟨i, rfl⟩ : ∃ z : Nat, a = (z : Int) := ⟨a.toNat, by omega⟩
    obtain ⟨t, rfl⟩ : ∃ z : Nat, b = (z : Int) := ⟨b.toNat, by omega⟩
    obtain ⟨N, hN⟩ : ∃ z : Nat, τ 1 0 = (z : Int) := ⟨(τ 1 0).toNat, by omega⟩
    rw [if_pos q, wr_1, if_neg n10, if_neg n10, ai_wi hc (by omega) (by omega), md_wi hc (by omega) (by omega)]
    simp only [Option.bind_some]
    by_cases q2 : -40 ≤ c ∧ c ≤ 40
    · rw [if_pos q2, wr_1, if_neg n10, if_neg n10]
      have lr : ∀ {σ τ : Mem}, Inv σ τ → τ 1 0 = N → ∀ j, j < t → τ 1 (21 + j) = σ 6 j ∧ τ 1 (1 + j) = σ 4 j ∧ (0 ≤ σ 6 j ∧ σ 6 j ≤ 32) ∧ 0 ≤ σ 4 j ∧ σ 4 j ≤ 40 := fun {σ τ} h hN j hj => by
        have hn := h.n
        have := h.lr (N := N) (by rw [hn.1, hN]) (j := j) (by omega)
        exact ⟨this.2.1, this.1, this.2.2.2.2.2.1, this.2.2.2.2.1⟩
      have l0 := lr h hN
      unfold Lin_canMove
      have em : Md_shift_28 100000 i t c 0 i τ = _ := md_shift_28 q2 (t := t) (by omega) (fun j hj => by rw [(l0 j hj).1, (l0 j hj).2.1]; exact (l0 j hj).2.2) (t - i) 100000 i 0 (by omega) (by omega)
      rw [lin_canMove_3 q2 (t := t) (by omega) (fun j hj => (l0 j hj).2.2) (t - i) 100000 i (by omega) (by omega), em]
      simp only [Option.bind_some]
      have eP : canP (fun j => τ 1 (21 + j)) (fun j => τ 1 (1 + j)) c i t ↔ canP (σ 6) (σ 4) c i t := by
        refine ⟨fun z j h1 h2 h3 => ?_, fun z j h1 h2 h3 => ?_⟩
        · have := z j h1 h2 (by simp only []; rw [(l0 j h2).1]; exact h3)
          simp only [] at this
          rw [(l0 j h2).2.1] at this
          exact this
        · simp only [] at h3
          simp only []
          rw [(l0 j h2).1] at h3
          rw [(l0 j h2).2.1]
          exact z j h1 h2 h3
      rw [cif_congr eP]
      by_cases q3 : canP (σ 6) (σ 4) c i t
      · rw [cif_pos q3, cif_pos q3, wr_1, if_neg n10]
        obtain ⟨r1, σ1, e1, r2, τ1, e2, hI, h11, hF1, hF2⟩ := h.begin
        have n2 : τ1 1 0 = N := by rw [hF2 1 0 (by unfold FBm; omega), hN]
        have k6 : σ1 6 = σ 6 := by funext k; exact hF1 6 k (by unfold FBg; omega)
        have k4 : σ1 4 = σ 4 := by funext k; exact hF1 4 k (by unfold FBg; omega)
        have l1 := lr hI n2
        rw [e1, e2]
        simp only [Option.bind_some]
        obtain ⟨r3, σ2, e3, y1, y2, y3⟩ := lin_move_6 q2 (t := t) (by omega) (t - i) 100000 i 0 σ1 (fun j hj => (l1 j hj).2.2) (by rw [k6, k4]; exact q3) (by omega) (by omega)
        have e3' : Lin_move i t c σ1 = some (r3, σ2) := e3
        rw [e3']
        simp only [Option.bind_some]
        refine Ex.ret ((md_shift_82 (d := c) (t := t) (by omega) (t - i) 100000 i τ1 (fun j hj => by rw [(l1 j hj).1]; exact (l1 j hj).2.2.1) (by omega) (by omega)).mono (fun r' τ2 z => ?_))
        obtain ⟨z1, z2, z3⟩ := z
        refine ⟨?_, ?_⟩
        · rw [z1, y1, k6, nbL_congr (t - i) i (L' := σ 6) (fun j h1 h2 => (l0 j (by omega)).1)]
        · refine Inv_ind hI y2 (z2.mono (fun o k q => by omega)) (fun j hj => ?_)
          have lj := hI.lr (N := N) (by rw [hI.n.1, n2]) (j := j) (by omega)
          rw [y3 j]
          by_cases q4 : i ≤ j ∧ j < t
          · rw [z3 j q4.1 q4.2, (l1 j q4.2).1, (l1 j q4.2).2.1]
            by_cases q5 : 0 < σ1 6 j
            · rw [if_pos q5, if_pos ⟨q4.1, q4.2, q5⟩]
              refine ⟨rfl, ?_, fun z => by omega⟩
              have := q3 j q4.1 q4.2 (by rw [← k6]; exact q5)
              rw [k4]; exact this
            · rw [if_neg q5, if_neg (fun z => q5 z.2.2)]
              exact ⟨rfl, lj.2.2.2.2.1, lj.2.2.2.2.2.2.2.1⟩
          · rw [if_neg (fun z => q4 ⟨z.1, z.2.1⟩), z2 1 (1 + j) (by omega)]
            exact ⟨lj.1, lj.2.2.2.2.1, lj.2.2.2.2.2.2.2.1⟩
      · rw [cif_neg q3, cif_neg q3, wr_0, if_pos rfl]
        exact Ex.ret (Ex.ret ⟨rfl, h⟩)
    · rw [if_neg q2, wr_0, if_pos rfl, if_pos rfl]
      exact Ex.ret (Ex.ret ⟨rfl, h⟩)
  · rw [if_neg q, wr_0, if_pos rfl, if_pos rfl]
    exact Ex.ret (Ex.ret ⟨rfl, h⟩)
end SH
