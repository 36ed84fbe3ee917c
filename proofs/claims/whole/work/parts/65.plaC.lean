/-! ===== the plan of the class ===== -/
theorem sLine_srt {g : Int → Int} {len : Int} (hg : GV g len) (cm : Int) : ∀ (n : Nat) (k : Int), (sLine g len cm n k).1.Pairwise (fun a b => a.2.1 ≤ b.1)
  | 0, k => by simp [sLine]
  | n + 1, k => by
    unfold sLine
    split
    · rename_i hk
      split
      · exact sLine_srt hg cm n (k + 1)
      · split
        · split
          · simp
          · rename_i hne
            exact List.pairwise_cons.mpr ⟨fun q h => (sLine_tok hg cm n _ q h).1, sLine_srt hg cm n _⟩
        · split
          · exact List.pairwise_cons.mpr ⟨fun q h => (sLine_tok hg cm n _ q h).1, sLine_srt hg cm n _⟩
          · split
            · simp
            · split
              · exact List.pairwise_cons.mpr ⟨fun q h => (sLine_tok hg cm n _ q h).1, sLine_srt hg cm n _⟩
              · exact List.pairwise_cons.mpr ⟨fun q h => (sLine_tok hg cm n _ q h).1, sLine_srt hg cm n _⟩
    · simp
theorem tkS_srt {S : Mem} (hS : SV S) {i : Nat} (hi : i < nS S) : (tkS S i).Pairwise (fun a b => a.2.1 ≤ b.1) := by
  have hg := gS_GV hS hi
  unfold tkS lnS
  split
  · exact sLine_srt hg _ 40 0
  · split
    · simp
    · exact sLine_srt hg _ 40 _
theorem tq_next {S : Mem} (hS : SV S) {u i : Nat} (hi : i < nS S) (h1 : fsS S i ≤ u) (h2 : u + 1 < fsS S (i + 1)) : (tq S u).2.1 + (tq S u).2.2.1 ≤ (tq S (u + 1)).2.1 := by
  simp only [fsS] at h2
  have hlt : u - fsS S i < (tkS S i).length := by omega
  have hlt2 : u - fsS S i + 1 < (tkS S i).length := by omega
  have e1 := tq_at (S := S) hi (List.getElem?_eq_getElem hlt)
  have e2 := tq_at (S := S) hi (List.getElem?_eq_getElem hlt2)
  rw [show fsS S i + (u - fsS S i) = u by omega] at e1
  rw [show fsS S i + (u - fsS S i + 1) = u + 1 by omega] at e2
  rw [e1, e2]
  have := List.pairwise_iff_getElem.mp (tkS_srt hS hi) (u - fsS S i) (u - fsS S i + 1) hlt hlt2 (by omega)
  simp only []
  omega
theorem tq_in {S : Mem} {u : Nat} (hu : u < fsS S (nS S)) : fsS S (tq S u).1 ≤ u ∧ u < fsS S ((tq S u).1 + 1) := by
  obtain ⟨j, t, q, h1, h2, h3⟩ := fs_find S (nS S) u hu
  have hlt : t < (tkS S j).length := (List.getElem?_eq_some_iff.mp h3).1
  have e := tq_at h1 h3
  rw [h2, e]
  simp only [fsS]
  omega
def PX (S σ : Mem) : Prop := SV S ∧ SN S ∧ absC σ 1 = S ∧ CI σ 1 ∧ TkC S σ ∧ BkC S σ
def FPA (o k : Nat) : Prop := 328 ≤ o ∧ o ≤ 339
theorem PX_Fr {S σ σ' : Mem} {F : Nat → Nat → Prop} (h : Fr F σ σ') (hF : ∀ o k, F o k → 327 ≤ o) (hX : PX S σ) : PX S σ' := by
  obtain ⟨h1, h2, h3, h4, h5, h6⟩ := hX
  have e : ∀ o, o < 327 → σ' o = σ o := fun o ho => by funext k; exact h o k (fun q => by have := hF o k q; omega)
  refine ⟨h1, h2, ?_, CI_Fr h (fun o k z => by have := hF o k z; omega) h4, ?_, ?_⟩
  · rw [absC_Fr h (fun o k z => by have := hF o k z; omega)]; exact h3
  · unfold TkC; rw [e 291 (by omega), e 293 (by omega), e 295 (by omega), e 297 (by omega), e 299 (by omega), e 301 (by omega), e 289 (by omega)]; exact h5
  · unfold BkC BC XC XT NtC; rw [e 304 (by omega), e 326 (by omega), e 310 (by omega), e 312 (by omega), e 314 (by omega), e 306 (by omega), e 316 (by omega), e 318 (by omega), e 320 (by omega), e 322 (by omega), e 324 (by omega)]; exact h6
section PC
variable {S σ : Mem}
theorem bc_at (hX : PX S σ) {u : Nat} (hu : u < fsS S (nS S)) : σ 310 u = opn S u ∧ σ 312 u = cls S u ∧ σ 306 u = (mk (P0 S u) 12 : Nat) ∧ (opn S u ≠ -1 → σ 316 u = lvS S u ∧ σ 318 u = ofS S u ∧ σ 320 u = spS S u) := by
  obtain ⟨-, -, -, -, -, hB, hx, -⟩ := hX
  have h1 := hB.2.2.1 u hu
  have h2 := run_old (S := S) (u := u) (fsS S (nS S)) hu
  rw [h2.1, h2.2] at h1
  refine ⟨h1.1, h1.2.1, (hx u hu).1, fun h => (hx u hu).2 ?_⟩
  have := opn_eq S u
  by_cases q : (clS S u (bRun S u)).1.length < 12 ∧ brS S 1 u 12 ≠ -1
  · exact q
  · rw [cif_neg q] at this; exact absurd this h
theorem of_rng (hS : SV S) {u : Nat} (hu : u < fsS S (nS S)) (ho : opn S u ≠ -1) : 0 ≤ ofS S u ∧ ofS S u ≤ 32 ∧ 0 ≤ spS S u ∧ spS S u ≤ 4 ∧ (algS S u → 0 < ofS S u ∧ spS S u = 0 ∧ ofS S u = (tq S (u + 1)).2.1) ∧ (¬ algS S u → ofS S u = 0 ∧ spS S u = S 7 (opn S u).toNat) := by
  have hop := opn_rng S u
  have hop2 : 0 ≤ opn S u ∧ opn S u < 12 ∧ S 5 (opn S u).toNat = 1 ∧ opn S u = brS S 1 u 12 := by omega
  have hv := hS.2.2.2.2.2 (opn S u).toNat (by omega)
  have hv7 := hv.2.2.1 (by omega)
  have hv1 := hv.2.2.2.1 (by omega)
  have hk := tq_ok hS hu
  have hin := tq_in hu
  unfold ofS spS
  by_cases q : algS S u
  · rw [cif_pos q, cif_pos q]
    have hmo := fsS_mono S (show (tq S u).1 + 1 ≤ nS S by omega)
    have hn := tq_next hS hk.1 hin.1 q.2
    have hu1 : u + 1 < fsS S (nS S) := by have := q.2; omega
    have hk1 := tq_ok hS hu1
    have hl := hS.len hk1.1
    exact ⟨by omega, by omega, by omega, by omega, fun _ => ⟨by omega, rfl, rfl⟩, fun z => absurd q z⟩
  · rw [cif_neg q, cif_neg q, ← hop2.2.2.2]
    exact ⟨by omega, by omega, by omega, by omega, fun z => absurd z q, fun _ => ⟨rfl, rfl⟩⟩
theorem blk_last_5 (hX : PX S σ) {i : Nat} (hi : i < nS S) : ∀ (m n T o : Nat) (c x : Int), T + m = fsS S (i + 1) → m < n → ((c = -1 ∧ x = -1) ∨ (c ≠ -1 ∧ 0 ≤ x ∧ x < fsS S (nS S) ∧ cls S x.toNat = c)) →
    ∃ r, Blk_lastLeadingCloser_5 n (fsS S (i + 1) : Nat) x T σ = some (r, σ) ∧ (((ldS S i m T o c).2 = -1 ∧ r = -1) ∨ ((ldS S i m T o c).2 ≠ -1 ∧ 0 ≤ r ∧ r < fsS S (nS S) ∧ cls S r.toNat = (ldS S i m T o c).2)) := by
  have hS := hX.1
  have hfs := fsS_le hS (nS S) (Nat.le_refl _)
  have hN := hS.n
  have hmo := fsS_mono S (show i + 1 ≤ nS S by omega)
  intro m
  induction m with
  | zero =>
    intro n T o c x hT hn hc
    obtain ⟨n, rfl⟩ : ∃ z, n = z + 1 := ⟨n - 1, by omega⟩
    refine ⟨x, ?_, hc⟩
    show Blk_lastLeadingCloser_5b (Blk_lastLeadingCloser_5 n) _ x T σ = _
    unfold Blk_lastLeadingCloser_5b
    rw [wr_id (n := (T : Int)) (by omega) (by omega), wr_id (n := ((fsS S (i + 1) : Nat) : Int)) (by omega) (by omega), if_neg (by omega)]
  | succ m ih =>
    intro n T o c x hT hn hc
    obtain ⟨n, rfl⟩ : ∃ z, n = z + 1 := ⟨n - 1, by omega⟩
    obtain ⟨b1, b2, -, -⟩ := bc_at hX (u := T) (by omega)
    have hcl : cls S T = -1 ∨ (0 ≤ cls S T ∧ (cls S T).toNat < T) := by
      by_cases q : cls S T = -1
      · exact Or.inl q
      · have := cls_stk q; right; exact ⟨this.1, this.2.2.2.2.2⟩
    have hop := opn_rng S T
    have e : Blk_lastLeadingCloser_5 (n + 1) (fsS S (i + 1) : Nat) x T σ = Blk_lastLeadingCloser_5b (Blk_lastLeadingCloser_5 n) (fsS S (i + 1) : Nat) x T σ := rfl
    rw [e]
    unfold Blk_lastLeadingCloser_5b
    rw [wr_id (n := (T : Int)) (by omega) (by omega), wr_id (n := ((fsS S (i + 1) : Nat) : Int)) (by omega) (by omega), if_pos (by omega), rg_311 (by omega) (by omega)]
    simp only [Option.bind_some]
    rw [show ((T : Int)).toNat = T by omega, b2, wr_id (n := cls S T) (by omega) (by omega)]
    unfold ldS
    by_cases q : cls S T = -1
    · rw [if_pos q, cif_pos q]
      exact ⟨x, rfl, hc⟩
    · rw [if_neg q, cif_neg q, rg_309 (by omega) (by omega)]
      simp only [Option.bind_some]
      rw [show ((T : Int)).toNat = T by omega, b1, wr_id (n := opn S T) (by omega) (by omega)]
      by_cases q2 : opn S T = -1
      · rw [if_pos q2, cif_pos q2]
        have := ih n (T + 1) (lvS S (cls S T).toNat) (cls S T) T (by omega) (by omega) (Or.inr ⟨q, by omega, by omega, by rw [show ((T : Int)).toNat = T by omega]⟩)
        rw [show (((T + 1 : Nat)) : Int) = (T : Int) + 1 by omega] at this
        exact this
      · rw [if_neg q2, cif_neg q2]
        exact ⟨T, rfl, Or.inr ⟨q, by omega, by omega, by rw [show ((T : Int)).toNat = T by omega]⟩⟩
theorem rul_beats (hX : PX S σ) {a b : Int} (ha : a = -1 ∨ (0 ≤ a ∧ a < 12 ∧ S 5 a.toNat ≠ 0)) (hb : b = -1 ∨ (0 ≤ b ∧ b < 12 ∧ S 5 b.toNat ≠ 0)) : Rul_beats a b σ = some (if a ≠ -1 ∧ (b = -1 ∨ S 6 b.toNat < S 6 a.toNat) then 1 else 0, σ) := by
  have hS := hX.1
  have hA := hX.2.2.1
  unfold Rul_beats
  rw [wr_id (n := a) (by omega) (by omega), wr_id (n := b) (by omega) (by omega)]
  by_cases q : a = -1
  · rw [if_pos q, if_neg (fun z => z.1 q)]
  · rw [if_neg q]
    by_cases q2 : b = -1
    · rw [if_pos q2, if_pos ⟨q, Or.inl q2⟩]
    · have pa := aC_prec (σ := σ) (r := a.toNat) (by omega) (by rw [hA]; omega)
      have pb := aC_prec (σ := σ) (r := b.toNat) (by omega) (by rw [hA]; omega)
      rw [hA] at pa pb
      have va := ((hS.2.2.2.2.2 a.toNat (by omega)).2.2.1 (by omega)).1
      have vb := ((hS.2.2.2.2.2 b.toNat (by omega)).2.2.1 (by omega)).1
      rw [if_neg q2, rg_14 (by omega) (by omega)]
      simp only [Option.bind_some]
      rw [rg_14 (by omega) (by omega)]
      simp only [Option.bind_some]
      rw [← pa, ← pb, wr_id (n := S 6 a.toNat) (by omega) (by omega), wr_id (n := S 6 b.toNat) (by omega) (by omega)]
      by_cases q3 : S 6 b.toNat < S 6 a.toNat
      · rw [if_pos q3, if_pos ⟨q, Or.inr q3⟩]
      · rw [if_neg q3, if_neg (by omega)]
theorem pla_joiner (hX : PX S σ) {t : Nat} (ht : t < fsS S (nS S)) : Pla_joinerBehind ((t : Int) - 1) σ = some (if 0 < t ∧ opn S (t - 1) = -1 then brS S 3 (t - 1) 12 else -1, σ) := by
  have hS := hX.1
  have hfs := fsS_le hS (nS S) (Nat.le_refl _)
  have hN := hS.n
  unfold Pla_joinerBehind
  rw [wr_id (n := (t : Int) - 1) (by omega) (by omega)]
  by_cases q : t = 0
  · rw [if_pos (by omega), if_neg (by omega)]
  · obtain ⟨b1, b2, b3, -⟩ := bc_at hX (u := t - 1) (by omega)
    have hop := opn_rng S (t - 1)
    rw [if_neg (by omega), rg_309 (by omega) (by omega)]
    simp only [Option.bind_some]
    rw [show ((t : Int) - 1).toNat = t - 1 by omega, b1, wr_id (n := opn S (t - 1)) (by omega) (by omega)]
    by_cases q2 : opn S (t - 1) = -1
    · rw [if_pos q2, if_pos ⟨by omega, q2⟩, rg_305 (by omega) (by omega)]
      simp only [Option.bind_some]
      rw [show ((t : Int) - 1).toNat = t - 1 by omega, b3, rul_best hS hX.2.2.1 (t - 1) (by omega)]
      rfl
    · rw [if_neg q2, if_neg (fun z => q2 z.2)]
end PC
