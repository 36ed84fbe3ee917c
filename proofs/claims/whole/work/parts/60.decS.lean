/-! ===== what decides about a line, by the abstract state ===== -/
theorem clS_old {S : Mem} {T : Nat} {b : BSt} (hb : bOk S T b) {u : Nat} (hu : u < T) : (clS S T b).2.1 u = b.2.1 u ∧ (clS S T b).2.2.1 u = b.2.2.1 u := by
  unfold clS
  by_cases q : mayS S b.2.1 b.1 (fnd S T b.2.1 b.1 b.1.length)
  · rw [cif_pos q]; refine ⟨rfl, ?_⟩; simp only [up1]; rw [if_neg (by omega)]
  · rw [cif_neg q]; exact ⟨rfl, rfl⟩
theorem opS_old {S : Mem} {T : Nat} {b : BSt} {u : Nat} (hu : u < T) : (opS S T b).2.1 u = b.2.1 u := by
  unfold opS
  by_cases q : b.1.length < 12 ∧ brS S 1 T 12 ≠ -1
  · rw [cif_pos q]; simp only [up1]; rw [if_neg (by omega)]
  · rw [cif_neg q]
theorem opS_cls (S : Mem) (T : Nat) (b : BSt) : (opS S T b).2.2 = b.2.2 := by
  unfold opS
  by_cases q : b.1.length < 12 ∧ brS S 1 T 12 ≠ -1
  · rw [cif_pos q]
  · rw [cif_neg q]
/-- the rule with which a token opens a block, the block that it closes; -1: none -/
noncomputable def opn (S : Mem) (u : Nat) : Int := (bRun S (u + 1)).2.1 u
noncomputable def cls (S : Mem) (u : Nat) : Int := (bRun S (u + 1)).2.2.1 u
theorem run_old {S : Mem} {u : Nat} : ∀ T, u < T → (bRun S T).2.1 u = opn S u ∧ (bRun S T).2.2.1 u = cls S u
  | 0, h => by omega
  | T + 1, h => by
    by_cases e : u = T
    · subst e; exact ⟨rfl, rfl⟩
    · have ih := run_old (S := S) (u := u) T (by omega)
      have h1 := clS_old (S := S) (T := T) (bOk_run T) (u := u) (by omega)
      have h2 := opS_old (S := S) (T := T) (b := clS S T (bRun S T)) (u := u) (by omega)
      have h3 := opS_cls S T (clS S T (bRun S T))
      refine ⟨?_, ?_⟩
      · show (opS S T (clS S T (bRun S T))).2.1 u = _
        rw [h2, h1.1, ih.1]
      · show (opS S T (clS S T (bRun S T))).2.2.1 u = _
        rw [h3, h1.2, ih.2]
theorem opn_eq (S : Mem) (u : Nat) : opn S u = cif ((clS S u (bRun S u)).1.length < 12 ∧ brS S 1 u 12 ≠ -1) (brS S 1 u 12) (-1) := by
  have hb := bOk_run (S := S) u
  have h0 : (clS S u (bRun S u)).2.1 u = -1 := by
    rw [(bOk_cl hb).2.2.1]
    have := hb.2.2.1 u
    omega
  show (opS S u (clS S u (bRun S u))).2.1 u = _
  unfold opS
  by_cases q : (clS S u (bRun S u)).1.length < 12 ∧ brS S 1 u 12 ≠ -1
  · rw [cif_pos q, cif_pos q]; simp [up1]
  · rw [cif_neg q, cif_neg q]; exact h0
theorem opn_rng (S : Mem) (u : Nat) : opn S u = -1 ∨ (0 ≤ opn S u ∧ opn S u < 12 ∧ S 5 (opn S u).toNat = 1 ∧ opn S u = brS S 1 u 12) := by
  rw [opn_eq]
  by_cases q : (clS S u (bRun S u)).1.length < 12 ∧ brS S 1 u 12 ≠ -1
  · rw [cif_pos q]
    have := brS_rng S 1 u 12
    right
    omega
  · rw [cif_neg q]; exact Or.inl rfl
/-- the place of a block in the stack -/
noncomputable def lvS (S : Mem) (u : Nat) : Nat := (clS S u (bRun S u)).1.length
theorem stk_pos {S : Mem} : ∀ (T k u : Nat), (bRun S T).1[k]? = some u → k = lvS S u ∧ 0 ≤ opn S u ∧ u < T
  | 0, k, u, h => by simp [bRun] at h
  | T + 1, k, u, h => by
    have hcl : ∀ (k u : Nat), (clS S T (bRun S T)).1[k]? = some u → (bRun S T).1[k]? = some u := by
      intro k u h
      unfold clS at h
      by_cases q : mayS S (bRun S T).2.1 (bRun S T).1 (fnd S T (bRun S T).2.1 (bRun S T).1 (bRun S T).1.length)
      · rw [cif_pos q] at h
        simp only [List.getElem?_take] at h
        split at h
        · exact h
        · cases h
      · rw [cif_neg q] at h; exact h
    have h' : (opS S T (clS S T (bRun S T))).1[k]? = some u := h
    by_cases q : (clS S T (bRun S T)).1.length < 12 ∧ brS S 1 T 12 ≠ -1
    · unfold opS at h'
      rw [cif_pos q] at h'
      simp only [] at h'
      by_cases hk : k < (clS S T (bRun S T)).1.length
      · rw [List.getElem?_append_left hk] at h'
        have := stk_pos T k u (hcl k u h')
        exact ⟨this.1, this.2.1, by omega⟩
      · rw [List.getElem?_append_right (by omega)] at h'
        have hk2 : k - (clS S T (bRun S T)).1.length = 0 := by
          have := (List.getElem?_eq_some_iff.mp h').1
          simp at this
          omega
        rw [hk2] at h'
        simp at h'
        subst h'
        refine ⟨by unfold lvS; omega, ?_, by omega⟩
        rw [opn_eq, cif_pos q]
        have := brS_rng S 1 T 12
        omega
    · unfold opS at h'
      rw [cif_neg q] at h'
      have := stk_pos T k u (hcl k u h')
      exact ⟨this.1, this.2.1, by omega⟩
/-- the leading closers of a line from token T on: how many blocks stay open, the block closed last -/
noncomputable def ldS (S : Mem) (i : Nat) : Nat → Nat → Nat → Int → Nat × Int
  | 0, _, o, c => (o, c)
  | m + 1, T, o, c => cif (cls S T = -1) (o, c) (cif (opn S T = -1) (ldS S i m (T + 1) (lvS S (cls S T).toNat) (cls S T)) (lvS S (cls S T).toNat, cls S T))
noncomputable def ldF (S : Mem) (i : Nat) : Nat × Int := ldS S i (fsS S (i + 1) - fsS S i) (fsS S i) (skS S i).length (-1)
/-- a token that closes a block: the block stands in the stack, at its place, and all below it stay -/
theorem cls_stk {S : Mem} {T : Nat} (h : cls S T ≠ -1) : 0 ≤ cls S T ∧ lvS S (cls S T).toNat < (bRun S T).1.length ∧ (bRun S T).1[lvS S (cls S T).toNat]? = some (cls S T).toNat ∧ (clS S T (bRun S T)).1 = (bRun S T).1.take (lvS S (cls S T).toNat) ∧ 0 ≤ opn S (cls S T).toNat ∧ (cls S T).toNat < T := by
  have hb := bOk_run (S := S) T
  have e : cls S T = (clS S T (bRun S T)).2.2.1 T := by
    show (opS S T (clS S T (bRun S T))).2.2.1 T = _
    rw [opS_cls]
  have h0 : (bRun S T).2.2.1 T = -1 := by rcases hb.2.2.2.1 T with z | z
                                          · exact z
                                          · omega
  by_cases q : mayS S (bRun S T).2.1 (bRun S T).1 (fnd S T (bRun S T).2.1 (bRun S T).1 (bRun S T).1.length)
  · have hr := fnd_rng S T (bRun S T).2.1 (bRun S T).1 (bRun S T).1.length
    have hq := q.1
    have e1 : (clS S T (bRun S T)).1 = (bRun S T).1.take (fnd S T (bRun S T).2.1 (bRun S T).1 (bRun S T).1.length).toNat := by unfold clS; rw [cif_pos q]
    have e2 : cls S T = ((bRun S T).1.getD (fnd S T (bRun S T).2.1 (bRun S T).1 (bRun S T).1.length).toNat 0 : Nat) := by rw [e]; unfold clS; rw [cif_pos q]; simp [up1]
    generalize (fnd S T (bRun S T).2.1 (bRun S T).1 (bRun S T).1.length) = f at *
    have hf : f.toNat < (bRun S T).1.length := by omega
    have e3 : (bRun S T).1[f.toNat]? = some ((bRun S T).1.getD f.toNat 0) := by rw [List.getD_eq_getElem?_getD, List.getElem?_eq_getElem hf]; rfl
    have hp := stk_pos T f.toNat _ e3
    rw [e2]
    simp only [Int.toNat_natCast]
    rw [← hp.1]
    exact ⟨by omega, hf, e3, e1, hp.2.1, hp.2.2⟩
  · exfalso
    apply h
    rw [e]
    unfold clS
    rw [cif_neg q]
    exact h0
def m40 (x : Int) : Int := if 40 < x then 40 else x
noncomputable def cinS (S : Mem) (rw : Nat → Int) (stp : Int) (b : Nat) : Int := cif (algS S b) (rw (tq S b).1 + (tq S (b + 1)).2.1) (m40 (rw (tq S b).1 + S 7 (opn S b).toNat * stp))
noncomputable def blkS (S : Mem) (i : Nat) : Int := if (ldF S i).1 = 0 then -1 else ((skS S i).getD ((ldF S i).1 - 1) 0 : Nat)
noncomputable def grdS (S : Mem) (rw : Nat → Int) (stp bas : Int) (i : Nat) : Int := if blkS S i = -1 then bas else cinS S rw stp (blkS S i).toNat
noncomputable def stS (S : Mem) (i : Nat) : Int := if fsS S i < fsS S (i + 1) then brS S 2 (fsS S i) 12 else -1
noncomputable def jnS (S : Mem) (i : Nat) : Int := if fsS S i < fsS S (i + 1) ∧ 0 < fsS S i ∧ opn S (fsS S i - 1) = -1 then brS S 3 (fsS S i - 1) 12 else -1
def ofr (s : Int × Int × Int × Int) (p a w r : Int) : Int × Int × Int × Int := if s.1 < p then (p, a, w, r) else s
noncomputable def ccS (S : Mem) (rw : Nat → Int) (stp : Int) (c : Nat) : Int := if S 9 (opn S c).toNat = 0 then rw (tq S c).1 else if S 9 (opn S c).toNat = 1 then cinS S rw stp c else rw (tq S c).1 + (tq S c).2.1
noncomputable def o1S (S : Mem) (rw : Nat → Int) (stp : Int) (i : Nat) : Int × Int × Int × Int := if (ldF S i).2 = -1 then (-2, 0, 0, -1) else ofr (-2, 0, 0, -1) (S 6 (opn S (ldF S i).2.toNat).toNat) (ccS S rw stp (ldF S i).2.toNat) 3 (opn S (ldF S i).2.toNat)
noncomputable def o2S (S : Mem) (rw : Nat → Int) (stp bas : Int) (i : Nat) : Int × Int × Int × Int := if stS S i = -1 then o1S S rw stp i else ofr (o1S S rw stp i) (S 6 (stS S i).toNat) (grdS S rw stp bas i + S 7 (stS S i).toNat * stp) 4 (stS S i)
noncomputable def o3S (S : Mem) (rw : Nat → Int) (stp bas : Int) (i : Nat) : Int × Int × Int × Int := if jnS S i = -1 then o2S S rw stp bas i else ofr (o2S S rw stp bas i) (S 6 (jnS S i).toNat) (grdS S rw stp bas i + S 7 (jnS S i).toNat * stp) 5 (jnS S i)
noncomputable def wy0 (S : Mem) (i : Nat) : Int := if blkS S i = -1 then 0 else cif (algS S (blkS S i).toNat) 2 1
noncomputable def by0 (S : Mem) (i : Nat) : Int := if blkS S i = -1 then -1 else opn S (blkS S i).toNat
noncomputable def o4S (S : Mem) (rw : Nat → Int) (stp bas : Int) (i : Nat) : Int × Int × Int × Int := ofr (o3S S rw stp bas i) (-1) (grdS S rw stp bas i) (wy0 S i) (by0 S i)
noncomputable def wanS (S : Mem) (rw : Nat → Int) (stp bas : Int) (i : Nat) : Int := if (o4S S rw stp bas i).2.1 < 0 then 0 else (if (o4S S rw stp bas i).2.1 < 40 then (o4S S rw stp bas i).2.1 else 40)
theorem sk_le (S : Mem) (i : Nat) : (skS S i).length ≤ 12 := (bOk_run (S := S) (fsS S i)).1
theorem sk_mem {S : Mem} {i k : Nat} (h : k < (skS S i).length) : (skS S i)[k]? = some ((skS S i).getD k 0) ∧ k = lvS S ((skS S i).getD k 0) ∧ 0 ≤ opn S ((skS S i).getD k 0) ∧ (skS S i).getD k 0 < fsS S i := by
  have e : (skS S i)[k]? = some ((skS S i).getD k 0) := by rw [List.getD_eq_getElem?_getD, List.getElem?_eq_getElem h]; rfl
  exact ⟨e, stk_pos (fsS S i) k _ e⟩
/-- what the leading closers leave -/
theorem ldS_ok {S : Mem} {i : Nat} : ∀ (m T o : Nat) (c : Int), fsS S i ≤ T → T + m = fsS S (i + 1) → o ≤ (skS S i).length → (bRun S T).1 = (skS S i).take o → (c = -1 ∨ (0 ≤ c ∧ c.toNat < fsS S i ∧ 0 ≤ opn S c.toNat ∧ o = lvS S c.toNat ∧ (skS S i)[o]? = some c.toNat)) →
    (ldS S i m T o c).1 ≤ o ∧ ((ldS S i m T o c).2 = -1 → (ldS S i m T o c).1 = o ∧ c = -1) ∧ ((ldS S i m T o c).2 = -1 ∨ (0 ≤ (ldS S i m T o c).2 ∧ (ldS S i m T o c).2.toNat < fsS S i ∧ 0 ≤ opn S (ldS S i m T o c).2.toNat ∧ (ldS S i m T o c).1 = lvS S (ldS S i m T o c).2.toNat ∧ (skS S i)[(ldS S i m T o c).1]? = some (ldS S i m T o c).2.toNat))
  | 0, T, o, c, _, _, _, _, hc => ⟨Nat.le_refl _, fun h => ⟨rfl, h⟩, hc⟩
  | m + 1, T, o, c, h1, h2, h3, h4, hc => by
    unfold ldS
    by_cases q : cls S T = -1
    · rw [cif_pos q]; exact ⟨Nat.le_refl _, fun h => ⟨rfl, h⟩, hc⟩
    · rw [cif_neg q]
      obtain ⟨a1, a2, a3, a4, a5, a6⟩ := cls_stk q
      rw [h4] at a2 a3 a4
      have hlo : lvS S (cls S T).toNat < o := by simp at a2; omega
      have a3' : (skS S i)[lvS S (cls S T).toNat]? = some (cls S T).toNat := by
        rw [List.getElem?_take] at a3
        rw [if_pos hlo] at a3
        exact a3
      have hlt : (cls S T).toNat < fsS S i := (stk_pos (fsS S i) _ _ a3').2.2
      have hcn : cls S T = -1 ∨ (0 ≤ cls S T ∧ (cls S T).toNat < fsS S i ∧ 0 ≤ opn S (cls S T).toNat ∧ lvS S (cls S T).toNat = lvS S (cls S T).toNat ∧ (skS S i)[lvS S (cls S T).toNat]? = some (cls S T).toNat) := Or.inr ⟨a1, hlt, a5, rfl, a3'⟩
      by_cases q2 : opn S T = -1
      · rw [cif_pos q2]
        have e : (bRun S (T + 1)).1 = (skS S i).take (lvS S (cls S T).toNat) := by
          have hno : ¬ ((clS S T (bRun S T)).1.length < 12 ∧ brS S 1 T 12 ≠ -1) := by
            intro z
            have := opn_eq S T
            rw [cif_pos z] at this
            exact z.2 (by rw [← this]; exact q2)
          show (opS S T (clS S T (bRun S T))).1 = _
          unfold opS
          rw [cif_neg hno, a4, List.take_take, Nat.min_eq_left (by omega)]
        have := ldS_ok m (T + 1) (lvS S (cls S T).toNat) (cls S T) (by omega) (by omega) (by omega) e hcn
        refine ⟨by omega, fun h => ?_, this.2.2⟩
        have := (this.2.1 h).2
        exact absurd this q
      · rw [cif_neg q2]
        exact ⟨by simp only []; omega, fun h => absurd h q, hcn⟩
theorem ldF_ok {S : Mem} {i : Nat} : (ldF S i).1 ≤ (skS S i).length ∧ ((ldF S i).2 = -1 → (ldF S i).1 = (skS S i).length) ∧ ((ldF S i).2 = -1 ∨ (0 ≤ (ldF S i).2 ∧ (ldF S i).2.toNat < fsS S i ∧ 0 ≤ opn S (ldF S i).2.toNat ∧ (ldF S i).1 = lvS S (ldF S i).2.toNat ∧ (skS S i)[(ldF S i).1]? = some (ldF S i).2.toNat)) := by
  have hm := fsS_mono S (show i ≤ i + 1 by omega)
  have := ldS_ok (S := S) (i := i) (fsS S (i + 1) - fsS S i) (fsS S i) (skS S i).length (-1) (Nat.le_refl _) (by omega) (Nat.le_refl _) (by unfold skS; rw [List.take_length]) (Or.inl rfl)
  exact ⟨this.1, fun h => (this.2.1 h).1, this.2.2⟩
theorem blkS_ok {S : Mem} {i : Nat} : blkS S i = -1 ∨ (0 ≤ blkS S i ∧ (blkS S i).toNat < fsS S i ∧ 0 ≤ opn S (blkS S i).toNat) := by
  unfold blkS
  by_cases q : (ldF S i).1 = 0
  · rw [if_pos q]; exact Or.inl rfl
  · rw [if_neg q]
    right
    have := sk_mem (S := S) (i := i) (k := (ldF S i).1 - 1) (by have := (ldF_ok (S := S) (i := i)).1; omega)
    simp only [Int.toNat_natCast]
    exact ⟨by omega, this.2.2.2, this.2.2.1⟩
