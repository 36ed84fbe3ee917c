/-! ===== tokens by their numbers; rules that apply; blocks: by the abstract state ===== -/
noncomputable def cif {α : Type} (p : Prop) (a b : α) : α := @ite α p (Classical.propDecidable p) a b
theorem cif_pos {α : Type} {p : Prop} {a b : α} (h : p) : cif p a b = a := if_pos h
theorem cif_neg {α : Type} {p : Prop} {a b : α} (h : ¬ p) : cif p a b = b := if_neg h
theorem sLit_le {g : Int → Int} {len : Int} (hg : GV g len) : ∀ (n : Nat) (k : Int), sLit g len n k = -9 ∨ sLit g len n k ≤ len
  | 0, k => Or.inl rfl
  | n + 1, k => by
    unfold sLit
    split
    · split
      · rename_i h
        right
        by_cases q : len ≤ k + 2
        · have := h.2.2; rw [hg.2.2.2 _ q] at this; omega
        · omega
      · exact sLit_le hg n (k + 1)
    · exact Or.inl rfl
theorem sLine_tok {g : Int → Int} {len : Int} (hg : GV g len) (cm : Int) : ∀ (n : Nat) (k : Int), ∀ q ∈ (sLine g len cm n k).1, k ≤ q.1 ∧ q.1 < q.2.1 ∧ q.2.1 ≤ len ∧ (q.2.2 = 0 ∨ q.2.2 = 1 ∨ q.2.2 = 2)
  | 0, k => by intro q h; simp [sLine] at h
  | n + 1, k => by
    intro q h
    unfold sLine at h
    split at h
    · rename_i hk
      split at h
      · have := sLine_tok hg cm n (k + 1) q h; omega
      · split at h
        · split at h
          · simp at h; subst h; simp; omega
          · rename_i hne
            have h1 := sLit_rng g len 40 (k + 3)
            have h2 := sLit_le hg 40 (k + 3)
            rcases List.mem_cons.mp h with e | e
            · subst e; simp; omega
            · have := sLine_tok hg cm n _ q e; omega
        · split at h
          · have h1 := sStr_rng g len 40 (k + 1)
            rcases List.mem_cons.mp h with e | e
            · subst e; simp; omega
            · have := sLine_tok hg cm n _ q e; omega
          · split at h
            · simp at h
            · split at h
              · rename_i hw
                have h1 := sWord_gt g len hg.nw hw 40 (by omega)
                have h2 := (sWord_rng g len hg.nw 40 k).2 (by omega)
                rcases List.mem_cons.mp h with e | e
                · subst e; simp; omega
                · have := sLine_tok hg cm n _ q e; omega
              · rcases List.mem_cons.mp h with e | e
                · subst e; simp; omega
                · have := sLine_tok hg cm n _ q e; omega
    · simp at h
theorem tkS_tok {S : Mem} (hS : SV S) {i : Nat} (hi : i < nS S) : ∀ q ∈ tkS S i, 0 ≤ q.1 ∧ q.1 < q.2.1 ∧ q.2.1 ≤ S 2 i ∧ (q.2.2 = 0 ∨ q.2.2 = 1 ∨ q.2.2 = 2) := by
  intro q h
  have hg := gS_GV hS hi
  unfold tkS lnS at h
  split at h
  · exact sLine_tok hg _ 40 0 q h
  · split at h
    · simp at h
    · have := sLine_tok hg _ 40 _ q h
      have := sLit_rng (gS S i) (S 2 i) 40 0
      omega
/-- the tokens of the first m lines: line, start, size, kind -/
def aTl (S : Mem) : Nat → List (Nat × Int × Int × Int)
  | 0 => []
  | m + 1 => aTl S m ++ (tkS S m).map (fun q => (m, q.1, q.2.1 - q.1, q.2.2))
theorem aTl_len (S : Mem) : ∀ m, (aTl S m).length = fsS S m
  | 0 => rfl
  | m + 1 => by simp [aTl, fsS, aTl_len S m]
theorem aTl_get (S : Mem) : ∀ (m j t : Nat) (q : Int × Int × Int), j < m → (tkS S j)[t]? = some q → (aTl S m)[fsS S j + t]? = some (j, q.1, q.2.1 - q.1, q.2.2)
  | 0, j, t, q, h, _ => by omega
  | m + 1, j, t, q, h, hq => by
    have hlt : t < (tkS S j).length := (List.getElem?_eq_some_iff.mp hq).1
    by_cases e : j = m
    · subst e
      simp only [aTl]
      rw [List.getElem?_append_right (by rw [aTl_len]; omega), aTl_len, show fsS S j + t - fsS S j = t by omega, List.getElem?_map, hq]
      rfl
    · have hm := fsS_mono S (show j + 1 ≤ m by omega)
      simp only [fsS] at hm
      simp only [aTl]
      rw [List.getElem?_append_left (by rw [aTl_len]; omega)]
      exact aTl_get S m j t q (by omega) hq
/-- a token's number is a line and a place -/
theorem fs_find (S : Mem) : ∀ (m T : Nat), T < fsS S m → ∃ j t q, j < m ∧ T = fsS S j + t ∧ (tkS S j)[t]? = some q
  | 0, T, h => by simp [fsS] at h
  | m + 1, T, h => by
    by_cases q : T < fsS S m
    · obtain ⟨j, t, z, h1, h2, h3⟩ := fs_find S m T q
      exact ⟨j, t, z, by omega, h2, h3⟩
    · simp only [fsS] at h
      have hlt : T - fsS S m < (tkS S m).length := by omega
      exact ⟨m, T - fsS S m, (tkS S m)[T - fsS S m], by omega, by omega, List.getElem?_eq_getElem hlt⟩
def tq (S : Mem) (T : Nat) : Nat × Int × Int × Int := (aTl S (nS S)).getD T (0, 0, 0, 0)
theorem tq_at {S : Mem} {j t : Nat} {q : Int × Int × Int} (hj : j < nS S) (hq : (tkS S j)[t]? = some q) : tq S (fsS S j + t) = (j, q.1, q.2.1 - q.1, q.2.2) := by
  unfold tq
  rw [List.getD_eq_getElem?_getD, aTl_get S (nS S) j t q hj hq]
  rfl
theorem tq_ok {S : Mem} (hS : SV S) {T : Nat} (h : T < fsS S (nS S)) : (tq S T).1 < nS S ∧ 0 ≤ (tq S T).2.1 ∧ 1 ≤ (tq S T).2.2.1 ∧ (tq S T).2.1 + (tq S T).2.2.1 ≤ S 2 (tq S T).1 ∧ ((tq S T).2.2.2 = 0 ∨ (tq S T).2.2.2 = 1 ∨ (tq S T).2.2.2 = 2) := by
  obtain ⟨j, t, q, h1, h2, h3⟩ := fs_find S (nS S) T h
  subst h2
  rw [tq_at h1 h3]
  have := tkS_tok hS h1 q (List.mem_of_getElem? h3)
  refine ⟨h1, by simp; omega, by simp; omega, by simp; omega, by simp; omega⟩
theorem tq_line {S : Mem} {i T : Nat} (hi : i < nS S) (h1 : fsS S i ≤ T) (h2 : T < fsS S (i + 1)) : (tq S T).1 = i := by
  simp only [fsS] at h2
  have hlt : T - fsS S i < (tkS S i).length := by omega
  have := tq_at (S := S) hi (List.getElem?_eq_getElem hlt)
  rw [show fsS S i + (T - fsS S i) = T by omega] at this
  rw [this]
theorem tk_arr {S : Mem} {hm st sz kd fr gd : Nat → Int} {cnt : Int} (h : TkOK S hm st sz kd fr gd cnt) {T : Nat} (hT : T < fsS S (nS S)) : hm T = (tq S T).1 ∧ st T = (tq S T).2.1 ∧ sz T = (tq S T).2.2.1 ∧ kd T = (tq S T).2.2.2 := by
  obtain ⟨j, t, q, h1, h2, h3⟩ := fs_find S (nS S) T hT
  subst h2
  rw [tq_at h1 h3]
  exact h.1.2.2.2 j h1 t q h3
theorem tk_fr {S : Mem} {hm st sz kd fr gd : Nat → Int} {cnt : Int} (h : TkOK S hm st sz kd fr gd cnt) {i : Nat} (hi : i ≤ nS S) : fr i = fsS S i := by
  by_cases q : i = nS S
  · rw [q]; exact h.2
  · exact h.1.2.1 i (by omega)
/-- whether the text w (0, 1) of rule r is that of a token -/
def hasT (S : Mem) (r w T : Nat) : Prop := (tq S T).2.2.2 < 2 ∧ (tq S T).2.2.1 = S 10 (2 * r + w) ∧ ∀ k : Nat, (k : Int) < S 10 (2 * r + w) → gS S (tq S T).1 ((tq S T).2.1 + k) = S 11 (16 * r + 8 * w + k)
/-- the rule of a sort that is used for a token, out of those below m; -1: none -/
noncomputable def brS (S : Mem) (sort : Int) (T : Nat) : Nat → Int
  | 0 => -1
  | m + 1 => cif (S 5 m = sort ∧ hasT S m 0 T ∧ (brS S sort T m = -1 ∨ S 6 (brS S sort T m).toNat < S 6 m)) (m : Int) (brS S sort T m)
theorem brS_rng (S : Mem) (sort : Int) (T : Nat) : ∀ m, brS S sort T m = -1 ∨ (0 ≤ brS S sort T m ∧ brS S sort T m < m ∧ S 5 (brS S sort T m).toNat = sort)
  | 0 => Or.inl rfl
  | m + 1 => by
    unfold brS
    by_cases h : S 5 m = sort ∧ hasT S m 0 T ∧ (brS S sort T m = -1 ∨ S 6 (brS S sort T m).toNat < S 6 m)
    · rw [cif_pos h]; right; refine ⟨by omega, by omega, ?_⟩; rw [show ((m : Int)).toNat = m by omega]; exact h.1
    · rw [cif_neg h]
      rcases brS_rng S sort T m with q | q
      · exact Or.inl q
      · right; exact ⟨q.1, by omega, q.2.2⟩
def isCl (S : Mem) (T m : Nat) : Prop := ∃ r, r < m ∧ S 5 r = 1 ∧ hasT S r 1 T
abbrev BSt : Type := List Nat × (Nat → Int) × (Nat → Int) × (Nat → Int) × Int × Int
/-- the topmost block below m in the stack whose pair has the token as its closing text; -1: none -/
noncomputable def fnd (S : Mem) (T : Nat) (op : Nat → Int) (st : List Nat) : Nat → Int
  | 0 => -1
  | m + 1 => cif (hasT S (op (st.getD m 0)).toNat 1 T) (m : Int) (fnd S T op st m)
def mayS (S : Mem) (op : Nat → Int) (st : List Nat) (lv : Int) : Prop := 0 ≤ lv ∧ ∀ j : Nat, lv < j → j < st.length → S 6 (op (st.getD j 0)).toNat < S 6 (op (st.getD lv.toNat 0)).toNat
def up1 (f : Nat → Int) (k : Nat) (v : Int) : Nat → Int := fun j => if j = k then v else f j
noncomputable def clS (S : Mem) (T : Nat) (b : BSt) : BSt :=
  cif (mayS S b.2.1 b.1 (fnd S T b.2.1 b.1 b.1.length))
    (b.1.take (fnd S T b.2.1 b.1 b.1.length).toNat, b.2.1, up1 b.2.2.1 T (b.1.getD (fnd S T b.2.1 b.1 b.1.length).toNat 0), up1 b.2.2.2.1 (b.1.getD (fnd S T b.2.1 b.1 b.1.length).toNat 0) T, b.2.2.2.2.1, b.2.2.2.2.2 + ((b.1.length : Int) - 1 - fnd S T b.2.1 b.1 b.1.length))
    (b.1, b.2.1, b.2.2.1, b.2.2.2.1, b.2.2.2.2.1 + cif (isCl S T 12) 1 0, b.2.2.2.2.2)
noncomputable def opS (S : Mem) (T : Nat) (b : BSt) : BSt := cif (b.1.length < 12 ∧ brS S 1 T 12 ≠ -1) (b.1 ++ [T], up1 b.2.1 T (brS S 1 T 12), b.2.2) b
noncomputable def bRun (S : Mem) : Nat → BSt
  | 0 => ([], fun _ => -1, fun _ => -1, fun _ => -1, 0, 0)
  | T + 1 => opS S T (clS S T (bRun S T))
theorem fnd_rng (S : Mem) (T : Nat) (op : Nat → Int) (st : List Nat) : ∀ m, fnd S T op st m = -1 ∨ (0 ≤ fnd S T op st m ∧ fnd S T op st m < m)
  | 0 => Or.inl rfl
  | m + 1 => by
    unfold fnd
    by_cases h : hasT S (op (st.getD m 0)).toNat 1 T
    · rw [cif_pos h]; right; omega
    · rw [cif_neg h]; have := fnd_rng S T op st m; omega
/-- what the stack and the opened blocks are at any time -/
def bOk (S : Mem) (T : Nat) (b : BSt) : Prop := b.1.length ≤ 12 ∧ (∀ u ∈ b.1, u < T ∧ 0 ≤ b.2.1 u) ∧ (∀ u, b.2.1 u = -1 ∨ (0 ≤ b.2.1 u ∧ b.2.1 u < 12 ∧ S 5 (b.2.1 u).toNat = 1 ∧ u < T)) ∧ (∀ u, b.2.2.1 u = -1 ∨ (0 ≤ b.2.2.1 u ∧ b.2.2.1 u < u ∧ u < T ∧ 0 ≤ b.2.1 (b.2.2.1 u).toNat)) ∧ (∀ u, b.2.2.2.1 u = -1 ∨ (0 ≤ b.2.2.2.1 u ∧ b.2.2.2.1 u < T ∧ u < T)) ∧ (0 ≤ b.2.2.2.2.1 ∧ b.2.2.2.2.1 ≤ T) ∧ (0 ≤ b.2.2.2.2.2 ∧ b.2.2.2.2.2 ≤ 12 * T) ∧ b.1.Nodup
theorem getD_mem {st : List Nat} {k : Nat} (h : k < st.length) : st.getD k 0 ∈ st := by
  rw [List.getD_eq_getElem?_getD, List.getElem?_eq_getElem h]
  exact List.getElem_mem h
theorem bOk_cl {S : Mem} {T : Nat} {b : BSt} (h : bOk S T b) : bOk S (T + 1) (clS S T b) ∧ (∀ u ∈ (clS S T b).1, u < T) ∧ (clS S T b).2.1 = b.2.1 ∧ (clS S T b).1.length ≤ b.1.length := by
  obtain ⟨h1, h2, h3, h4, h5, h6, h7, h8⟩ := h
  unfold clS
  by_cases q : mayS S b.2.1 b.1 (fnd S T b.2.1 b.1 b.1.length)
  · rw [cif_pos q]
    have hr := fnd_rng S T b.2.1 b.1 b.1.length
    have hq := q.1
    have hk : (fnd S T b.2.1 b.1 b.1.length).toNat < b.1.length := by omega
    have hm := getD_mem hk
    refine ⟨⟨by simp; omega, fun u hu => ?_, fun u => ?_, fun u => ?_, fun u => ?_, ⟨h6.1, by simp only []; omega⟩, ⟨by simp only []; omega, by simp only []; omega⟩, ?_⟩, fun u hu => (h2 u (List.mem_of_mem_take hu)).1, rfl, by simp; omega⟩
    · have := h2 u (List.mem_of_mem_take hu); exact ⟨by omega, this.2⟩
    · have := h3 u; simp only []; omega
    · simp only [up1]
      by_cases e : u = T
      · rw [if_pos e]; right; have := h2 _ hm; refine ⟨by omega, by omega, by omega, ?_⟩; rw [show (((b.1.getD (fnd S T b.2.1 b.1 b.1.length).toNat 0 : Nat)) : Int).toNat = b.1.getD (fnd S T b.2.1 b.1 b.1.length).toNat 0 by omega]; exact this.2
      · rw [if_neg e]; rcases h4 u with z | z
        · exact Or.inl z
        · right; exact ⟨z.1, z.2.1, by omega, z.2.2.2⟩
    · simp only [up1]
      split
      · rename_i e; right; have := h2 _ hm; omega
      · have := h5 u; omega
    · exact h8.sublist (List.take_sublist _ _)
  · rw [cif_neg q]
    have hc : cif (isCl S T 12) (1 : Int) 0 = 0 ∨ cif (isCl S T 12) (1 : Int) 0 = 1 := by
      by_cases z : isCl S T 12
      · rw [cif_pos z]; exact Or.inr rfl
      · rw [cif_neg z]; exact Or.inl rfl
    refine ⟨⟨h1, fun u hu => ?_, fun u => ?_, fun u => ?_, fun u => ?_, ⟨by simp only []; omega, by simp only []; omega⟩, ⟨h7.1, by simp only []; omega⟩, h8⟩, fun u hu => (h2 u hu).1, rfl, Nat.le_refl _⟩
    · have := h2 u hu; exact ⟨by omega, this.2⟩
    · have := h3 u; simp only []; omega
    · rcases h4 u with z | z
      · exact Or.inl z
      · right; exact ⟨z.1, z.2.1, by omega, z.2.2.2⟩
    · have := h5 u; simp only []; omega
theorem bOk_run {S : Mem} : ∀ T, bOk S T (bRun S T)
  | 0 => ⟨by simp [bRun], by simp [bRun], fun _ => Or.inl rfl, fun _ => Or.inl rfl, fun _ => Or.inl rfl, by simp [bRun], by simp [bRun], by simp [bRun]⟩
  | T + 1 => by
    obtain ⟨⟨h1, h2, h3, h4, h5, h6, h7, h8⟩, h9, h10, h11⟩ := bOk_cl (bOk_run T)
    show bOk S (T + 1) (opS S T (clS S T (bRun S T)))
    unfold opS
    by_cases q : (clS S T (bRun S T)).1.length < 12 ∧ brS S 1 T 12 ≠ -1
    · rw [cif_pos q]
      have hr := brS_rng S 1 T 12
      refine ⟨by simp; omega, fun u hu => ?_, fun u => ?_, fun u => ?_, h5, h6, h7, ?_⟩
      · simp only [up1]
        rcases List.mem_append.mp hu with z | z
        · have := h9 u z
          rw [if_neg (by omega)]
          exact h2 u z
        · rw [List.mem_singleton.mp z, if_pos rfl]; omega
      · simp only [up1]
        split
        · rename_i e; right; refine ⟨by omega, by omega, by omega, by omega⟩
        · exact h3 u
      · rcases h4 u with z | z
        · exact Or.inl z
        · right
          refine ⟨z.1, z.2.1, z.2.2.1, ?_⟩
          simp only [up1]
          split
          · omega
          · exact z.2.2.2
      · refine List.nodup_append.mpr ⟨h8, by simp, fun u hu v hv => ?_⟩
        rw [List.mem_singleton.mp hv]
        have := h9 u hu
        omega
    · rw [cif_neg q]
      exact ⟨h1, h2, h3, h4, h5, h6, h7, h8⟩
