/-! ===== branches, memory, calls, ends ===== -/
section CTL
variable {X : Cx} {R : Room} {w : Wd} {rk : Nat} {x : Int × Mem} {pc : Nat} {L : List (Option Value)} {st : List Value} {σ : Mem} {E E1 E2 : Option (Int × Mem)} {cc : ByteArray} {own : String} {ret : Option FieldType}
def letM (σ : Mem) (F : Mem → Option (Int × Mem)) : Option (Int × Mem) := F σ
def maskL (M : List Bool) (L : List (Option Value)) : List (Option Value) := List.zipWith (fun b v => if b then v else none) M L
theorem wl (n : Int) (h : (decide (-2147483648 ≤ n) && decide (n ≤ 2147483647)) = true) : wr n = n := by simp only [Bool.and_eq_true, decide_eq_true_eq] at h; exact wr_id h.1 h.2
def fixN {α : Type} (bot : α) (step : α → α) : Nat → α
  | 0 => bot
  | n + 1 => step (fixN bot step n)
theorem fix_ok {α : Type} {P : α → Prop} {bot : α} {step : α → α} (h0 : P bot) (hs : ∀ r, P r → P (step r)) : ∀ n, P (fixN bot step n)
  | 0 => h0
  | n + 1 => hs _ (fix_ok h0 hs n)
def mmaxI (a b : Int) : Int := if wr a < wr b then b else a
def mminI (a b : Int) : Int := if wr b < wr a then b else a
theorem I3_le {a b : Int} : I3 a ≤ I3 b ↔ ¬ wr b < wr a := by rw [Int32.le_iff_toInt_le]; exact ⟨fun h => Int.not_lt.mpr h, fun h => Int.not_lt.mp h⟩
theorem a_goto (hS : Std X R w cc own ret) {off : Int} {tgt : Nat} (hd : decode cc pc = .ok (.goto off, 3)) (ht : (pc : Int) + off = (tgt : Int)) (k : Sm X R w rk x tgt L st σ E) : Sm X R w rk x pc L st σ E := by
  obtain ⟨p, l, e, s, m, args, below, meth, c, A, nX⟩ := X
  obtain ⟨hx, hb, hml, hown, hts, hK, hD, hA, hr, hlk, hrc, hrs⟩ := hS
  intro h H locs ls hP hV hl
  exact lv_goto hx hb hd ht (k h H locs ls hP hV hl)
theorem a_icmpeq (hS : Std X R w cc own ret) {a b a' b' : Int} (ha : wr a = a') (hb' : wr b = b') {off : Int} {tgt : Nat} (hd : decode cc pc = .ok (.if_icmp .eq off, 3)) (ht : (pc : Int) + off = (tgt : Int)) (k1 : Sm X R w rk x tgt L st σ E1) (k2 : Sm X R w rk x (pc + 3) L st σ E2) : Sm X R w rk x pc L (iv b :: iv a :: st) σ (if a' = b' then E1 else E2) := by
  obtain ⟨p, l, e, s, m, args, below, meth, c, A, nX⟩ := X
  obtain ⟨hx, hb, hml, hown, hts, hK, hD, hA, hr, hlk, hrc, hrs⟩ := hS
  intro h H locs ls hP hV hl
  subst ha
  subst hb'
  refine lv_icmp_eq hx hb hd ht (fun q => ?_) (fun q => ?_)
  · have q : wr a = wr b := by have q2 := q; simp only [I3_lt, I3_eq, I3_le, wr_0] at q2; omega
    rw [if_pos q] at h
    exact k1 h H locs ls hP hV hl
  · have q : ¬ wr a = wr b := by have q2 := q; simp only [I3_lt, I3_eq, I3_le, wr_0] at q2; omega
    rw [if_neg (by omega)] at h
    exact k2 h H locs ls hP hV hl
theorem a_icmpne (hS : Std X R w cc own ret) {a b a' b' : Int} (ha : wr a = a') (hb' : wr b = b') {off : Int} {tgt : Nat} (hd : decode cc pc = .ok (.if_icmp .ne off, 3)) (ht : (pc : Int) + off = (tgt : Int)) (k1 : Sm X R w rk x tgt L st σ E1) (k2 : Sm X R w rk x (pc + 3) L st σ E2) : Sm X R w rk x pc L (iv b :: iv a :: st) σ (if a' = b' then E2 else E1) := by
  obtain ⟨p, l, e, s, m, args, below, meth, c, A, nX⟩ := X
  obtain ⟨hx, hb, hml, hown, hts, hK, hD, hA, hr, hlk, hrc, hrs⟩ := hS
  intro h H locs ls hP hV hl
  subst ha
  subst hb'
  refine lv_icmp_ne hx hb hd ht (fun q => ?_) (fun q => ?_)
  · have q : ¬ wr a = wr b := by have q2 := q; simp only [I3_lt, I3_eq, I3_le, wr_0] at q2; omega
    rw [if_neg (by omega)] at h
    exact k1 h H locs ls hP hV hl
  · have q : wr a = wr b := by have q2 := q; simp only [I3_lt, I3_eq, I3_le, wr_0] at q2; omega
    rw [if_pos q] at h
    exact k2 h H locs ls hP hV hl
theorem a_icmplt (hS : Std X R w cc own ret) {a b a' b' : Int} (ha : wr a = a') (hb' : wr b = b') {off : Int} {tgt : Nat} (hd : decode cc pc = .ok (.if_icmp .lt off, 3)) (ht : (pc : Int) + off = (tgt : Int)) (k1 : Sm X R w rk x tgt L st σ E1) (k2 : Sm X R w rk x (pc + 3) L st σ E2) : Sm X R w rk x pc L (iv b :: iv a :: st) σ (if a' < b' then E1 else E2) := by
  obtain ⟨p, l, e, s, m, args, below, meth, c, A, nX⟩ := X
  obtain ⟨hx, hb, hml, hown, hts, hK, hD, hA, hr, hlk, hrc, hrs⟩ := hS
  intro h H locs ls hP hV hl
  subst ha
  subst hb'
  refine lv_icmp_lt hx hb hd ht (fun q => ?_) (fun q => ?_)
  · have q : wr a < wr b := by have q2 := q; simp only [I3_lt, I3_eq, I3_le, wr_0] at q2; omega
    rw [if_pos q] at h
    exact k1 h H locs ls hP hV hl
  · have q : wr b ≤ wr a := by have q2 := q; simp only [I3_lt, I3_eq, I3_le, wr_0] at q2; omega
    rw [if_neg (by omega)] at h
    exact k2 h H locs ls hP hV hl
theorem a_icmpge (hS : Std X R w cc own ret) {a b a' b' : Int} (ha : wr a = a') (hb' : wr b = b') {off : Int} {tgt : Nat} (hd : decode cc pc = .ok (.if_icmp .ge off, 3)) (ht : (pc : Int) + off = (tgt : Int)) (k1 : Sm X R w rk x tgt L st σ E1) (k2 : Sm X R w rk x (pc + 3) L st σ E2) : Sm X R w rk x pc L (iv b :: iv a :: st) σ (if a' < b' then E2 else E1) := by
  obtain ⟨p, l, e, s, m, args, below, meth, c, A, nX⟩ := X
  obtain ⟨hx, hb, hml, hown, hts, hK, hD, hA, hr, hlk, hrc, hrs⟩ := hS
  intro h H locs ls hP hV hl
  subst ha
  subst hb'
  refine lv_icmp_ge hx hb hd ht (fun q => ?_) (fun q => ?_)
  · have q : wr b ≤ wr a := by have q2 := q; simp only [I3_lt, I3_eq, I3_le, wr_0] at q2; omega
    rw [if_neg (by omega)] at h
    exact k1 h H locs ls hP hV hl
  · have q : wr a < wr b := by have q2 := q; simp only [I3_lt, I3_eq, I3_le, wr_0] at q2; omega
    rw [if_pos q] at h
    exact k2 h H locs ls hP hV hl
theorem a_icmpgt (hS : Std X R w cc own ret) {a b a' b' : Int} (ha : wr a = a') (hb' : wr b = b') {off : Int} {tgt : Nat} (hd : decode cc pc = .ok (.if_icmp .gt off, 3)) (ht : (pc : Int) + off = (tgt : Int)) (k1 : Sm X R w rk x tgt L st σ E1) (k2 : Sm X R w rk x (pc + 3) L st σ E2) : Sm X R w rk x pc L (iv b :: iv a :: st) σ (if b' < a' then E1 else E2) := by
  obtain ⟨p, l, e, s, m, args, below, meth, c, A, nX⟩ := X
  obtain ⟨hx, hb, hml, hown, hts, hK, hD, hA, hr, hlk, hrc, hrs⟩ := hS
  intro h H locs ls hP hV hl
  subst ha
  subst hb'
  refine lv_icmp_gt hx hb hd ht (fun q => ?_) (fun q => ?_)
  · have q : wr b < wr a := by have q2 := q; simp only [I3_lt, I3_eq, I3_le, wr_0] at q2; omega
    rw [if_pos q] at h
    exact k1 h H locs ls hP hV hl
  · have q : wr a ≤ wr b := by have q2 := q; simp only [I3_lt, I3_eq, I3_le, wr_0] at q2; omega
    rw [if_neg (by omega)] at h
    exact k2 h H locs ls hP hV hl
theorem a_icmple (hS : Std X R w cc own ret) {a b a' b' : Int} (ha : wr a = a') (hb' : wr b = b') {off : Int} {tgt : Nat} (hd : decode cc pc = .ok (.if_icmp .le off, 3)) (ht : (pc : Int) + off = (tgt : Int)) (k1 : Sm X R w rk x tgt L st σ E1) (k2 : Sm X R w rk x (pc + 3) L st σ E2) : Sm X R w rk x pc L (iv b :: iv a :: st) σ (if b' < a' then E2 else E1) := by
  obtain ⟨p, l, e, s, m, args, below, meth, c, A, nX⟩ := X
  obtain ⟨hx, hb, hml, hown, hts, hK, hD, hA, hr, hlk, hrc, hrs⟩ := hS
  intro h H locs ls hP hV hl
  subst ha
  subst hb'
  refine lv_icmp_le hx hb hd ht (fun q => ?_) (fun q => ?_)
  · have q : wr a ≤ wr b := by have q2 := q; simp only [I3_lt, I3_eq, I3_le, wr_0] at q2; omega
    rw [if_neg (by omega)] at h
    exact k1 h H locs ls hP hV hl
  · have q : wr b < wr a := by have q2 := q; simp only [I3_lt, I3_eq, I3_le, wr_0] at q2; omega
    rw [if_pos q] at h
    exact k2 h H locs ls hP hV hl
theorem a_ifeq (hS : Std X R w cc own ret) {a a' : Int} (ha : wr a = a') {off : Int} {tgt : Nat} (hd : decode cc pc = .ok (.ifCond .eq off, 3)) (ht : (pc : Int) + off = (tgt : Int)) (k1 : Sm X R w rk x tgt L st σ E1) (k2 : Sm X R w rk x (pc + 3) L st σ E2) : Sm X R w rk x pc L (iv a :: st) σ (if a' = 0 then E1 else E2) := by
  obtain ⟨p, l, e, s, m, args, below, meth, c, A, nX⟩ := X
  obtain ⟨hx, hb, hml, hown, hts, hK, hD, hA, hr, hlk, hrc, hrs⟩ := hS
  intro h H locs ls hP hV hl
  subst ha
  refine lv_if_eq hx hb hd ht (fun q => ?_) (fun q => ?_)
  · have q : wr a = 0 := by have q2 := q; rw [← I3_0] at q2; simp only [I3_lt, I3_eq, I3_le, wr_0] at q2; omega
    rw [if_pos q] at h
    exact k1 h H locs ls hP hV hl
  · have q : ¬ wr a = 0 := by have q2 := q; rw [← I3_0] at q2; simp only [I3_lt, I3_eq, I3_le, wr_0] at q2; omega
    rw [if_neg (by omega)] at h
    exact k2 h H locs ls hP hV hl
theorem a_ifne (hS : Std X R w cc own ret) {a a' : Int} (ha : wr a = a') {off : Int} {tgt : Nat} (hd : decode cc pc = .ok (.ifCond .ne off, 3)) (ht : (pc : Int) + off = (tgt : Int)) (k1 : Sm X R w rk x tgt L st σ E1) (k2 : Sm X R w rk x (pc + 3) L st σ E2) : Sm X R w rk x pc L (iv a :: st) σ (if a' = 0 then E2 else E1) := by
  obtain ⟨p, l, e, s, m, args, below, meth, c, A, nX⟩ := X
  obtain ⟨hx, hb, hml, hown, hts, hK, hD, hA, hr, hlk, hrc, hrs⟩ := hS
  intro h H locs ls hP hV hl
  subst ha
  refine lv_if_ne hx hb hd ht (fun q => ?_) (fun q => ?_)
  · have q : ¬ wr a = 0 := by have q2 := q; rw [← I3_0] at q2; simp only [I3_lt, I3_eq, I3_le, wr_0] at q2; omega
    rw [if_neg (by omega)] at h
    exact k1 h H locs ls hP hV hl
  · have q : wr a = 0 := by have q2 := q; rw [← I3_0] at q2; simp only [I3_lt, I3_eq, I3_le, wr_0] at q2; omega
    rw [if_pos q] at h
    exact k2 h H locs ls hP hV hl
theorem a_iflt (hS : Std X R w cc own ret) {a a' : Int} (ha : wr a = a') {off : Int} {tgt : Nat} (hd : decode cc pc = .ok (.ifCond .lt off, 3)) (ht : (pc : Int) + off = (tgt : Int)) (k1 : Sm X R w rk x tgt L st σ E1) (k2 : Sm X R w rk x (pc + 3) L st σ E2) : Sm X R w rk x pc L (iv a :: st) σ (if a' < 0 then E1 else E2) := by
  obtain ⟨p, l, e, s, m, args, below, meth, c, A, nX⟩ := X
  obtain ⟨hx, hb, hml, hown, hts, hK, hD, hA, hr, hlk, hrc, hrs⟩ := hS
  intro h H locs ls hP hV hl
  subst ha
  refine lv_if_lt hx hb hd ht (fun q => ?_) (fun q => ?_)
  · have q : wr a < 0 := by have q2 := q; rw [← I3_0] at q2; simp only [I3_lt, I3_eq, I3_le, wr_0] at q2; omega
    rw [if_pos q] at h
    exact k1 h H locs ls hP hV hl
  · have q : 0 ≤ wr a := by have q2 := q; rw [← I3_0] at q2; simp only [I3_lt, I3_eq, I3_le, wr_0] at q2; omega
    rw [if_neg (by omega)] at h
    exact k2 h H locs ls hP hV hl
theorem a_ifge (hS : Std X R w cc own ret) {a a' : Int} (ha : wr a = a') {off : Int} {tgt : Nat} (hd : decode cc pc = .ok (.ifCond .ge off, 3)) (ht : (pc : Int) + off = (tgt : Int)) (k1 : Sm X R w rk x tgt L st σ E1) (k2 : Sm X R w rk x (pc + 3) L st σ E2) : Sm X R w rk x pc L (iv a :: st) σ (if a' < 0 then E2 else E1) := by
  obtain ⟨p, l, e, s, m, args, below, meth, c, A, nX⟩ := X
  obtain ⟨hx, hb, hml, hown, hts, hK, hD, hA, hr, hlk, hrc, hrs⟩ := hS
  intro h H locs ls hP hV hl
  subst ha
  refine lv_if_ge hx hb hd ht (fun q => ?_) (fun q => ?_)
  · have q : 0 ≤ wr a := by have q2 := q; rw [← I3_0] at q2; simp only [I3_lt, I3_eq, I3_le, wr_0] at q2; omega
    rw [if_neg (by omega)] at h
    exact k1 h H locs ls hP hV hl
  · have q : wr a < 0 := by have q2 := q; rw [← I3_0] at q2; simp only [I3_lt, I3_eq, I3_le, wr_0] at q2; omega
    rw [if_pos q] at h
    exact k2 h H locs ls hP hV hl
theorem a_ifgt (hS : Std X R w cc own ret) {a a' : Int} (ha : wr a = a') {off : Int} {tgt : Nat} (hd : decode cc pc = .ok (.ifCond .gt off, 3)) (ht : (pc : Int) + off = (tgt : Int)) (k1 : Sm X R w rk x tgt L st σ E1) (k2 : Sm X R w rk x (pc + 3) L st σ E2) : Sm X R w rk x pc L (iv a :: st) σ (if 0 < a' then E1 else E2) := by
  obtain ⟨p, l, e, s, m, args, below, meth, c, A, nX⟩ := X
  obtain ⟨hx, hb, hml, hown, hts, hK, hD, hA, hr, hlk, hrc, hrs⟩ := hS
  intro h H locs ls hP hV hl
  subst ha
  refine lv_if_gt hx hb hd ht (fun q => ?_) (fun q => ?_)
  · have q : 0 < wr a := by have q2 := q; rw [← I3_0] at q2; simp only [I3_lt, I3_eq, I3_le, wr_0] at q2; omega
    rw [if_pos q] at h
    exact k1 h H locs ls hP hV hl
  · have q : wr a ≤ 0 := by have q2 := q; rw [← I3_0] at q2; simp only [I3_lt, I3_eq, I3_le, wr_0] at q2; omega
    rw [if_neg (by omega)] at h
    exact k2 h H locs ls hP hV hl
theorem a_ifle (hS : Std X R w cc own ret) {a a' : Int} (ha : wr a = a') {off : Int} {tgt : Nat} (hd : decode cc pc = .ok (.ifCond .le off, 3)) (ht : (pc : Int) + off = (tgt : Int)) (k1 : Sm X R w rk x tgt L st σ E1) (k2 : Sm X R w rk x (pc + 3) L st σ E2) : Sm X R w rk x pc L (iv a :: st) σ (if 0 < a' then E2 else E1) := by
  obtain ⟨p, l, e, s, m, args, below, meth, c, A, nX⟩ := X
  obtain ⟨hx, hb, hml, hown, hts, hK, hD, hA, hr, hlk, hrc, hrs⟩ := hS
  intro h H locs ls hP hV hl
  subst ha
  refine lv_if_le hx hb hd ht (fun q => ?_) (fun q => ?_)
  · have q : wr a ≤ 0 := by have q2 := q; rw [← I3_0] at q2; simp only [I3_lt, I3_eq, I3_le, wr_0] at q2; omega
    rw [if_neg (by omega)] at h
    exact k1 h H locs ls hP hV hl
  · have q : 0 < wr a := by have q2 := q; rw [← I3_0] at q2; simp only [I3_lt, I3_eq, I3_le, wr_0] at q2; omega
    rw [if_pos q] at h
    exact k2 h H locs ls hP hV hl
theorem a_ifnull (hS : Std X R w cc own ret) {o : Nat} {off : Int} (hd : decode cc pc = .ok (.ifnull off, 3)) (k : Sm X R w rk x (pc + 3) L st σ E) : Sm X R w rk x pc L (rf w o :: st) σ E := by
  obtain ⟨p, l, e, s, m, args, below, meth, c, A, nX⟩ := X
  obtain ⟨hx, hb, hml, hown, hts, hK, hD, hA, hr, hlk, hrc, hrs⟩ := hS
  intro h H locs ls hP hV hl
  exact lv_ifnull hx hb hd (k h H locs ls hP hV hl)
theorem a_ifnullN (hS : Std X R w cc own ret) {off : Int} {tgt : Nat} (hd : decode cc pc = .ok (.ifnull off, 3)) (ht : (pc : Int) + off = (tgt : Int)) (k : Sm X R w rk x tgt L st σ E) : Sm X R w rk x pc L (.null :: st) σ E := by
  obtain ⟨p, l, e, s, m, args, below, meth, c, A, nX⟩ := X
  obtain ⟨hx, hb, hml, hown, hts, hK, hD, hA, hr, hlk, hrc, hrs⟩ := hS
  intro h H locs ls hP hV hl
  exact lv_ifnullN hx hb hd ht (k h H locs ls hP hV hl)
theorem a_ifnonnull (hS : Std X R w cc own ret) {o : Nat} {off : Int} {tgt : Nat} (hd : decode cc pc = .ok (.ifnonnull off, 3)) (ht : (pc : Int) + off = (tgt : Int)) (k : Sm X R w rk x tgt L st σ E) : Sm X R w rk x pc L (rf w o :: st) σ E := by
  obtain ⟨p, l, e, s, m, args, below, meth, c, A, nX⟩ := X
  obtain ⟨hx, hb, hml, hown, hts, hK, hD, hA, hr, hlk, hrc, hrs⟩ := hS
  intro h H locs ls hP hV hl
  exact lv_ifnonnull hx hb hd ht (k h H locs ls hP hV hl)
theorem a_ifnonnullN (hS : Std X R w cc own ret) {off : Int} (hd : decode cc pc = .ok (.ifnonnull off, 3)) (k : Sm X R w rk x (pc + 3) L st σ E) : Sm X R w rk x pc L (.null :: st) σ E := by
  obtain ⟨p, l, e, s, m, args, below, meth, c, A, nX⟩ := X
  obtain ⟨hx, hb, hml, hown, hts, hK, hD, hA, hr, hlk, hrc, hrs⟩ := hS
  intro h H locs ls hP hV hl
  exact lv_ifnonnullN hx hb hd (k h H locs ls hP hV hl)
theorem a_aconst (hS : Std X R w cc own ret) (hd : decode cc pc = .ok (.aconst_null, 1)) (k : Sm X R w rk x (pc + 1) L (.null :: st) σ E) : Sm X R w rk x pc L st σ E := by
  obtain ⟨p, l, e, s, m, args, below, meth, c, A, nX⟩ := X
  obtain ⟨hx, hb, hml, hown, hts, hK, hD, hA, hr, hlk, hrc, hrs⟩ := hS
  intro h H locs ls hP hV hl
  exact lv_null hx hb hd (k h H locs ls hP hV hl)
theorem a_dup (hS : Std X R w cc own ret) {v : Value} (hc : v.category = 1) (hd : decode cc pc = .ok (.dup, 1)) (k : Sm X R w rk x (pc + 1) L (v :: v :: st) σ E) : Sm X R w rk x pc L (v :: st) σ E := by
  obtain ⟨p, l, e, s, m, args, below, meth, c, A, nX⟩ := X
  obtain ⟨hx, hb, hml, hown, hts, hK, hD, hA, hr, hlk, hrc, hrs⟩ := hS
  intro h H locs ls hP hV hl
  exact lv_dup hx hb hd hc (k h H locs ls hP hV hl)
theorem a_dup2 (hS : Std X R w cc own ret) {v u : Value} (hc : v.category = 1) (hc2 : u.category = 1) (hd : decode cc pc = .ok (.dup2, 1)) (k : Sm X R w rk x (pc + 1) L (v :: u :: v :: u :: st) σ E) : Sm X R w rk x pc L (v :: u :: st) σ E := by
  obtain ⟨p, l, e, s, m, args, below, meth, c, A, nX⟩ := X
  obtain ⟨hx, hb, hml, hown, hts, hK, hD, hA, hr, hlk, hrc, hrs⟩ := hS
  intro h H locs ls hP hV hl
  exact lv_dup2_11 hx hb hd hc hc2 (k h H locs ls hP hV hl)
theorem a_pop (hS : Std X R w cc own ret) {v : Value} (hc : v.category = 1) (hd : decode cc pc = .ok (.pop, 1)) (k : Sm X R w rk x (pc + 1) L st σ E) : Sm X R w rk x pc L (v :: st) σ E := by
  obtain ⟨p, l, e, s, m, args, below, meth, c, A, nX⟩ := X
  obtain ⟨hx, hb, hml, hown, hts, hK, hD, hA, hr, hlk, hrc, hrs⟩ := hS
  intro h H locs ls hP hV hl
  exact lv_pop hx hb hd hc (k h H locs ls hP hV hl)
theorem a_getI (hS : Std X R w cc own ret) {o ci k index : Nat} {ks : List (Nat ⊕ Nat)} (hd : decode cc pc = .ok (.getfield index, 3)) (fl : FL own index ci k) (hsh : (shp w)[o]? = some (.inr (.inr (ci, ks)))) (hk : ks[k]? = some (.inr 0)) (kk : Sm X R w rk x (pc + 3) L (iv (σ o k) :: st) σ E) : Sm X R w rk x pc L (rf w o :: st) σ E := by
  obtain ⟨p, l, e, s, m, args, below, meth, c, A, nX⟩ := X
  obtain ⟨hx, hb, hml, hown, hts, hK, hD, hA, hr, hlk, hrc, hrs⟩ := hS
  intro h H locs ls hP hV hl
  obtain ⟨C, T, N, hc, hkN, hin, hlk2⟩ := fl
  have he := wld_get (σ := σ) hsh
  exact va_get (v := iv (σ o k)) hx hb hts hin hown hK hP o he hc k hkN (hts _ hlk2) (fun _ h9 => h9) (by simp [List.getElem?_mapIdx, hk, fvl]; rfl) hd (kk h H locs ls hP hV hl)
theorem a_getJ (hS : Std X R w cc own ret) {o ci k index : Nat} {ks : List (Nat ⊕ Nat)} (hd : decode cc pc = .ok (.getfield index, 3)) (fl : FL own index ci k) (hsh : (shp w)[o]? = some (.inr (.inr (ci, ks)))) (hk : ks[k]? = some (.inr 1)) (kk : Sm X R w rk x (pc + 3) L (jv (σ o k) :: st) σ E) : Sm X R w rk x pc L (rf w o :: st) σ E := by
  obtain ⟨p, l, e, s, m, args, below, meth, c, A, nX⟩ := X
  obtain ⟨hx, hb, hml, hown, hts, hK, hD, hA, hr, hlk, hrc, hrs⟩ := hS
  intro h H locs ls hP hV hl
  obtain ⟨C, T, N, hc, hkN, hin, hlk2⟩ := fl
  have he := wld_get (σ := σ) hsh
  exact va_get (v := jv (σ o k)) hx hb hts hin hown hK hP o he hc k hkN (hts _ hlk2) (fun _ h9 => h9) (by simp [List.getElem?_mapIdx, hk, fvl]; rfl) hd (kk h H locs ls hP hV hl)
theorem a_getR (hS : Std X R w cc own ret) {o ci k index j : Nat} {ks : List (Nat ⊕ Nat)} (hd : decode cc pc = .ok (.getfield index, 3)) (fl : FL own index ci k) (hsh : (shp w)[o]? = some (.inr (.inr (ci, ks)))) (hk : ks[k]? = some (.inl j)) (kk : Sm X R w rk x (pc + 3) L (rf w j :: st) σ E) : Sm X R w rk x pc L (rf w o :: st) σ E := by
  obtain ⟨p, l, e, s, m, args, below, meth, c, A, nX⟩ := X
  obtain ⟨hx, hb, hml, hown, hts, hK, hD, hA, hr, hlk, hrc, hrs⟩ := hS
  intro h H locs ls hP hV hl
  obtain ⟨C, T, N, hc, hkN, hin, hlk2⟩ := fl
  have he := wld_get (σ := σ) hsh
  exact va_get (v := rf w j) hx hb hts hin hown hK hP o he hc k hkN (hts _ hlk2) (fun _ h9 => h9) (by simp [List.getElem?_mapIdx, hk, fvl]; rfl) hd (kk h H locs ls hP hV hl)
theorem a_putI (hS : Std X R w cc own ret) {o ci k index : Nat} {ks : List (Nat ⊕ Nat)} {v : Int} (hd : decode cc pc = .ok (.putfield index, 3)) (pl : PL own index ci k .int) (hsh : (shp w)[o]? = some (.inr (.inr (ci, ks)))) (hk : ks[k]? = some (.inr 0))  (kk : Sm X R w rk x (pc + 3) L st (upM σ o k v) E) : Sm X R w rk x pc L (iv v :: rf w o :: st) σ E := by
  obtain ⟨p, l, e, s, m, args, below, meth, c, A, nX⟩ := X
  obtain ⟨hx, hb, hml, hown, hts, hK, hD, hA, hr, hlk, hrc, hrs⟩ := hS
  intro h H locs ls hP hV hl
  obtain ⟨C, T, N, ty0, hc, hkN, hin, hlk2, hty, hnm, hfin, hpd⟩ := pl
  have he := wld_get (σ := σ) hsh
  have hlt : k < (ks.mapIdx (fun k q => fvl w.2.1 (σ o k) q)).length := by
    rw [List.length_mapIdx]
    exact (List.getElem?_eq_some_iff.mp hk).1
  refine va_put (v := iv v) hx hb hts hin ty0 hty hnm hown hK hP (hD σ) hV o he hc k hkN (hts _ hlk2) (fun _ h9 => h9) hfin hpd rfl rfl hlt hd (fun H1 locs1 hP1 hD1 hV1 => ?_)
  have hP2 : va_P w.1 vwCl (wld w (upM σ o k v)) H1 := by
    rw [← wld_setF (j := 0) hsh hk]
    exact hP1
  exact kk h H1 locs1 ls hP2 hV1 hl
theorem a_putJ (hS : Std X R w cc own ret) {o ci k index : Nat} {ks : List (Nat ⊕ Nat)} {v : Int} (hd : decode cc pc = .ok (.putfield index, 3)) (pl : PL own index ci k .long) (hsh : (shp w)[o]? = some (.inr (.inr (ci, ks)))) (hk : ks[k]? = some (.inr 1))  (kk : Sm X R w rk x (pc + 3) L st (upM σ o k v) E) : Sm X R w rk x pc L (jv v :: rf w o :: st) σ E := by
  obtain ⟨p, l, e, s, m, args, below, meth, c, A, nX⟩ := X
  obtain ⟨hx, hb, hml, hown, hts, hK, hD, hA, hr, hlk, hrc, hrs⟩ := hS
  intro h H locs ls hP hV hl
  obtain ⟨C, T, N, ty0, hc, hkN, hin, hlk2, hty, hnm, hfin, hpd⟩ := pl
  have he := wld_get (σ := σ) hsh
  have hlt : k < (ks.mapIdx (fun k q => fvl w.2.1 (σ o k) q)).length := by
    rw [List.length_mapIdx]
    exact (List.getElem?_eq_some_iff.mp hk).1
  refine va_put (v := jv v) hx hb hts hin ty0 hty hnm hown hK hP (hD σ) hV o he hc k hkN (hts _ hlk2) (fun _ h9 => h9) hfin hpd rfl rfl hlt hd (fun H1 locs1 hP1 hD1 hV1 => ?_)
  have hP2 : va_P w.1 vwCl (wld w (upM σ o k v)) H1 := by
    rw [← wld_setF (j := 1) hsh hk]
    exact hP1
  exact kk h H1 locs1 ls hP2 hV1 hl
theorem a_putZ (hS : Std X R w cc own ret) {o ci k index : Nat} {ks : List (Nat ⊕ Nat)} {v : Int} (hd : decode cc pc = .ok (.putfield index, 3)) (pl : PL own index ci k .boolean) (hsh : (shp w)[o]? = some (.inr (.inr (ci, ks)))) (hk : ks[k]? = some (.inr 0)) (hv : v = 0 ∨ v = 1)  (kk : Sm X R w rk x (pc + 3) L st (upM σ o k v) E) : Sm X R w rk x pc L (iv v :: rf w o :: st) σ E := by
  obtain ⟨p, l, e, s, m, args, below, meth, c, A, nX⟩ := X
  obtain ⟨hx, hb, hml, hown, hts, hK, hD, hA, hr, hlk, hrc, hrs⟩ := hS
  intro h H locs ls hP hV hl
  obtain ⟨C, T, N, ty0, hc, hkN, hin, hlk2, hty, hnm, hfin, hpd⟩ := pl
  have he := wld_get (σ := σ) hsh
  have hlt : k < (ks.mapIdx (fun k q => fvl w.2.1 (σ o k) q)).length := by
    rw [List.length_mapIdx]
    exact (List.getElem?_eq_some_iff.mp hk).1
  refine va_put (v := iv v) hx hb hts hin ty0 hty hnm hown hK hP (hD σ) hV o he hc k hkN (hts _ hlk2) (fun _ h9 => h9) hfin hpd (by rcases hv with rfl | rfl <;> rfl) (by rcases hv with rfl | rfl <;> rfl) hlt hd (fun H1 locs1 hP1 hD1 hV1 => ?_)
  have hP2 : va_P w.1 vwCl (wld w (upM σ o k v)) H1 := by
    rw [← wld_setF (j := 0) hsh hk]
    exact hP1
  exact kk h H1 locs1 ls hP2 hV1 hl
theorem a_iald (hS : Std X R w cc own ret) {o n : Nat} {i : Int} (hd : decode cc pc = .ok (.iaload, 1)) (hsh : (shp w)[o]? = some (.inl (0, n))) (kk : Sm X R w rk x (pc + 1) L (iv (σ o (wr i).toNat) :: st) σ E) : Sm X R w rk x pc L (iv i :: rf w o :: st) σ (if 0 ≤ wr i ∧ wr i < (n : Int) then E else none) := by
  obtain ⟨p, l, e, s, m, args, below, meth, c, A, nX⟩ := X
  obtain ⟨hx, hb, hml, hown, hts, hK, hD, hA, hr, hlk, hrc, hrs⟩ := hS
  intro h H locs ls hP hV hl
  by_cases hc : 0 ≤ wr i ∧ wr i < (n : Int)
  · rw [if_pos hc] at h
    exact va_iald hx hb hK hP o 0 (wld_get hsh) rfl (I3_in hc) hd (kk h H locs ls hP hV hl)
  · rw [if_neg hc] at h; cases h
theorem a_zald (hS : Std X R w cc own ret) {o n : Nat} {i : Int} (hsh : (shp w)[o]? = some (.inl (1, n))) (hd : decode cc pc = .ok (.baload, 1)) (kk : Sm X R w rk x (pc + 1) L (iv (σ o (wr i).toNat) :: st) σ E) : Sm X R w rk x pc L (iv i :: rf w o :: st) σ (if 0 ≤ wr i ∧ wr i < (n : Int) then E else none) := by
  obtain ⟨p, l, e, s, m, args, below, meth, c, A, nX⟩ := X
  obtain ⟨hx, hb, hml, hown, hts, hK, hD, hA, hr, hlk, hrc, hrs⟩ := hS
  intro h H locs ls hP hV hl
  by_cases hc : 0 ≤ wr i ∧ wr i < (n : Int)
  · rw [if_pos hc] at h
    exact va_zald hx hb hK hP o 1 (wld_get hsh) rfl (I3_in hc) hd (kk h H locs ls hP hV hl)
  · rw [if_neg hc] at h; cases h
theorem a_iast (hS : Std X R w cc own ret) {o n : Nat} {i v : Int} (hsh : (shp w)[o]? = some (.inl (0, n))) (hd : decode cc pc = .ok (.iastore, 1)) (kk : Sm X R w rk x (pc + 1) L st (upM σ o (wr i).toNat v) E) : Sm X R w rk x pc L (iv v :: iv i :: rf w o :: st) σ (if 0 ≤ wr i ∧ wr i < (n : Int) then E else none) := by
  obtain ⟨p, l, e, s, m, args, below, meth, c, A, nX⟩ := X
  obtain ⟨hx, hb, hml, hown, hts, hK, hD, hA, hr, hlk, hrc, hrs⟩ := hS
  intro h H locs ls hP hV hl
  by_cases hc : 0 ≤ wr i ∧ wr i < (n : Int)
  · rw [if_pos hc] at h
    refine va_iast hx hb hK hP (hD σ) hV o 0 (wld_get hsh) rfl (I3_in hc) hd (fun H1 locs1 hP1 hD1 hV1 => ?_)
    refine kk h H1 locs1 ls ?_ hV1 hl
    rw [← wld_setA hsh rfl]
    exact hP1
  · rw [if_neg hc] at h; cases h
theorem a_zast (hS : Std X R w cc own ret) {o n : Nat} {i v : Int} (hv : v = 0 ∨ v = 1) (hsh : (shp w)[o]? = some (.inl (1, n))) (hd : decode cc pc = .ok (.bastore, 1)) (kk : Sm X R w rk x (pc + 1) L st (upM σ o (wr i).toNat v) E) : Sm X R w rk x pc L (iv v :: iv i :: rf w o :: st) σ (if 0 ≤ wr i ∧ wr i < (n : Int) then E else none) := by
  obtain ⟨p, l, e, s, m, args, below, meth, c, A, nX⟩ := X
  obtain ⟨hx, hb, hml, hown, hts, hK, hD, hA, hr, hlk, hrc, hrs⟩ := hS
  intro h H locs ls hP hV hl
  by_cases hc : 0 ≤ wr i ∧ wr i < (n : Int)
  · rw [if_pos hc] at h
    refine va_zast hx hb hK hP (hD σ) hV o 1 (wld_get hsh) rfl (I3_in hc) hd (fun H1 locs1 hP1 hD1 hV1 => ?_)
    refine kk h H1 locs1 ls ?_ hV1 hl
    rw [← wld_setA hsh rfl]
    have e : vp_nar .boolean (I3 v) = I3 v := by rcases hv with rfl | rfl <;> rfl
    rw [e] at hP1
    exact hP1
  · rw [if_neg hc] at h; cases h
theorem a_alen (hS : Std X R w cc own ret) {o n : Nat} (hsh : (shp w)[o]? = some (.inl (0, n))) (hd : decode cc pc = .ok (.arraylength, 1)) (kk : Sm X R w rk x (pc + 1) L (iv (n : Int) :: st) σ E) : Sm X R w rk x pc L (rf w o :: st) σ E := by
  obtain ⟨p, l, e, s, m, args, below, meth, c, A, nX⟩ := X
  obtain ⟨hx, hb, hml, hown, hts, hK, hD, hA, hr, hlk, hrc, hrs⟩ := hS
  intro h H locs ls hP hV hl
  exact va_alen hx hb hK hP o 0 (wld_get hsh) (ty := .int) rfl (v := I3 (n : Int)) rfl hd (kk h H locs ls hP hV hl)
theorem a_alenR (hS : Std X R w cc own ret) {o : Nat} {rs : List Nat} (hsh : (shp w)[o]? = some (.inr (.inl rs))) (hd : decode cc pc = .ok (.arraylength, 1)) (kk : Sm X R w rk x (pc + 1) L (iv (rs.length : Int) :: st) σ E) : Sm X R w rk x pc L (rf w o :: st) σ E := by
  obtain ⟨p, l, e, s, m, args, below, meth, c, A, nX⟩ := X
  obtain ⟨hx, hb, hml, hown, hts, hK, hD, hA, hr, hlk, hrc, hrs⟩ := hS
  intro h H locs ls hP hV hl
  exact va_alen hx hb hK hP o 2 (wld_get hsh) (ty := .object "AutoIndenter$State") rfl (v := I3 (rs.length : Int)) rfl hd (kk h H locs ls hP hV hl)
theorem a_aald (hS : Std X R w cc own ret) {o : Nat} {i : Int} {rs : List Nat} {F : Nat → Option (Int × Mem)} (hsh : (shp w)[o]? = some (.inr (.inl rs))) (hd : decode cc pc = .ok (.aaload, 1)) (kk : ∀ j, rs[(wr i).toNat]? = some j → Sm X R w rk x (pc + 1) L (rf w j :: st) σ (F j)) : Sm X R w rk x pc L (iv i :: rf w o :: st) σ (if 0 ≤ wr i ∧ wr i < (rs.length : Int) then F (rs.getD (wr i).toNat 0) else none) := by
  obtain ⟨p, l, e, s, m, args, below, meth, c, A, nX⟩ := X
  obtain ⟨hx, hb, hml, hown, hts, hK, hD, hA, hr, hlk, hrc, hrs⟩ := hS
  intro h H locs ls hP hV hl
  by_cases hc : 0 ≤ wr i ∧ wr i < (rs.length : Int)
  · rw [if_pos hc] at h
    have hlt : (wr i).toNat < rs.length := by omega
    have e : rs[(wr i).toNat]? = some (rs.getD (wr i).toNat 0) := by simp [hlt]
    refine va_aldq hx hb hK hP o 2 (wld_get hsh) rfl (I3_in hc) hd ?_
    have e2 : va_rf ((rs[(I3 i).toNatClampNeg]?).map w.2.1) = rf w (rs.getD (wr i).toNat 0) := by
      rw [I3_clamp, e]; rfl
    rw [e2]
    exact kk _ e h H locs ls hP hV hl
  · rw [if_neg hc] at h; cases h
theorem a_mmax (hS : Std X R w cc own ret) {a b : Int} {index : Nat} (hm : Cond.methodLink own index Lib.Math.max.name ∈ WL) (hm2 : Cond.static Lib.Math.max.name ∈ WL) (hm3 : Cond.initialized "java/lang/Math" ∈ WL) (hm4 : Cond.code Lib.Math.max.name Lib.Math.max.code 2 (some .int) ∈ WL) (hf : 1 ≤ R.frames) (hlo : (st.map fun v => v.category).sum + 13 ≤ R.locals) (hd : decode cc pc = .ok (.invokestatic index, 3)) (k : Sm X R w rk x (pc + 3) L (iv (mmaxI a b) :: st) σ E) : Sm X R w rk x pc L (iv b :: iv a :: st) σ E := by
  obtain ⟨p, l, e, s, m, args, below, meth, c, A, nX⟩ := X
  obtain ⟨hx, hb, hml, hown, hts, hK, hD, hA, hr, hlk, hrc, hrs⟩ := hS
  intro h H locs ls hP hV hl
  have k1 := k h H locs ls hP hV hl
  refine va_mmax hx hb (by rw [hml]; exact hl.1.symm) hown (hts _ hm) (hts _ hm2) (hts _ hm3) (hts _ hm4) hf hlo (Nat.zero_le _) (Nat.zero_le _) hd ?_
  rw [show Value.int _ = iv (mmaxI a b) from ?_]
  · exact k1
  · unfold iv mmaxI
    congr 1
    split <;> rename_i q <;> simp only [I3_lt, I3_le, Int.not_lt] at q <;> split <;> first | rfl | omega
theorem a_mmin (hS : Std X R w cc own ret) {a b : Int} {index : Nat} (hm : Cond.methodLink own index Lib.Math.min.name ∈ WL) (hm2 : Cond.static Lib.Math.min.name ∈ WL) (hm3 : Cond.initialized "java/lang/Math" ∈ WL) (hm4 : Cond.code Lib.Math.min.name Lib.Math.min.code 2 (some .int) ∈ WL) (hf : 1 ≤ R.frames) (hlo : (st.map fun v => v.category).sum + 13 ≤ R.locals) (hd : decode cc pc = .ok (.invokestatic index, 3)) (k : Sm X R w rk x (pc + 3) L (iv (mminI a b) :: st) σ E) : Sm X R w rk x pc L (iv b :: iv a :: st) σ E := by
  obtain ⟨p, l, e, s, m, args, below, meth, c, A, nX⟩ := X
  obtain ⟨hx, hb, hml, hown, hts, hK, hD, hA, hr, hlk, hrc, hrs⟩ := hS
  intro h H locs ls hP hV hl
  have k1 := k h H locs ls hP hV hl
  refine va_mmin hx hb (by rw [hml]; exact hl.1.symm) hown (hts _ hm) (hts _ hm2) (hts _ hm3) (hts _ hm4) hf hlo (Nat.zero_le _) (Nat.zero_le _) hd ?_
  rw [show Value.int _ = iv (mminI a b) from ?_]
  · exact k1
  · unfold iv mminI
    congr 1
    split <;> rename_i q <;> simp only [I3_lt, I3_le, Int.not_lt] at q <;> split <;> first | rfl | omega
theorem a_iret (hS : Std X R w cc own ret) {r : Int} (hk : rk = 1) (hr2 : ret = some .int) (hd : decode cc pc = .ok (.ireturn, 1)) : Sm X R w rk x pc L [iv r] σ (some (r, σ)) := by
  obtain ⟨p, l, e, s, m, args, below, meth, c, A, nX⟩ := X
  obtain ⟨hx, hb, hml, hown, hts, hK, hD, hA, hr, hlk, hrc, hrs⟩ := hS
  intro h H locs ls hP hV hl
  injection h with h
  subst h; subst hk; subst hr2
  exact W.iret (v := I3 r) hx hb hr (fun t ht hW => ⟨rfl, by rw [ht]; exact hP, va_K.moved hW.alike hK, hV.F ht⟩) hV.2.2 hd hlk
theorem a_zret (hS : Std X R w cc own ret) {r : Int} (hv : r = 0 ∨ r = 1) (hk : rk = 1) (hr2 : ret = some .boolean) (hd : decode cc pc = .ok (.ireturn, 1)) : Sm X R w rk x pc L [iv r] σ (some (r, σ)) := by
  obtain ⟨p, l, e, s, m, args, below, meth, c, A, nX⟩ := X
  obtain ⟨hx, hb, hml, hown, hts, hK, hD, hA, hr, hlk, hrc, hrs⟩ := hS
  intro h H locs ls hP hV hl
  injection h with h
  subst h; subst hk; subst hr2
  exact W.zret (v := I3 r) (ty := .boolean) hx hb hr (by rcases hv with rfl | rfl <;> rfl) (fun t ht hW => ⟨rfl, by rw [ht]; exact hP, va_K.moved hW.alike hK, hV.F ht⟩) hV.2.2 hd hlk
theorem a_zretv (hS : Std X R w cc own ret) {r : Int} (hk : rk = 1) (hr2 : ret = some .boolean) (hd : decode cc pc = .ok (.ireturn, 1)) : Sm X R w rk x pc L [iv r] σ (if r = 0 ∨ r = 1 then some (r, σ) else none) := by
  obtain ⟨p, l, e, s, m, args, below, meth, c, A, nX⟩ := X
  obtain ⟨hx, hb, hml, hown, hts, hK, hD, hA, hr, hlk, hrc, hrs⟩ := hS
  intro h H locs ls hP hV hl
  by_cases hv : r = 0 ∨ r = 1
  · rw [if_pos hv] at h
    injection h with h
    subst h; subst hk; subst hr2
    exact W.zret (v := I3 r) (ty := .boolean) hx hb hr (by rcases hv with rfl | rfl <;> rfl) (fun t ht hW => ⟨rfl, by rw [ht]; exact hP, va_K.moved hW.alike hK, hV.F ht⟩) hV.2.2 hd hlk
  · rw [if_neg hv] at h; cases h
theorem a_lret (hS : Std X R w cc own ret) {r : Int} (hk : rk = 2) (hr2 : ret = some .long) (hd : decode cc pc = .ok (.lreturn, 1)) : Sm X R w rk x pc L [jv r] σ (some (r, σ)) := by
  obtain ⟨p, l, e, s, m, args, below, meth, c, A, nX⟩ := X
  obtain ⟨hx, hb, hml, hown, hts, hK, hD, hA, hr, hlk, hrc, hrs⟩ := hS
  intro h H locs ls hP hV hl
  injection h with h
  subst h; subst hk; subst hr2
  exact W.lret (v := I6 r) hx hb hr (fun t ht hW => ⟨rfl, by rw [ht]; exact hP, va_K.moved hW.alike hK, hV.F ht⟩) hV.2.2 hd hlk
theorem a_vret (hS : Std X R w cc own ret) (hk : rk = 0) (hr2 : ret = none) (hd : decode cc pc = .ok (.return_, 1)) : Sm X R w rk x pc L [] σ (some (0, σ)) := by
  obtain ⟨p, l, e, s, m, args, below, meth, c, A, nX⟩ := X
  obtain ⟨hx, hb, hml, hown, hts, hK, hD, hA, hr, hlk, hrc, hrs⟩ := hS
  intro h H locs ls hP hV hl
  injection h with h
  subst h; subst hk; subst hr2
  exact W.vret hx hb hr (fun t ht hW => ⟨rfl, by rw [ht]; exact hP, va_K.moved hW.alike hK, hV.F ht⟩) hV.2.2 hd hlk
theorem a_aret (hS : Std X R w cc own ret) {o : Nat} {C : String} (hk : rk = 3) (hr2 : ret = some (.object C)) (hd : decode cc pc = .ok (.areturn, 1)) : Sm X R w rk x pc L [rf w o] σ (some ((o : Int), σ)) := by
  obtain ⟨p, l, e, s, m, args, below, meth, c, A, nX⟩ := X
  obtain ⟨hx, hb, hml, hown, hts, hK, hD, hA, hr, hlk, hrc, hrs⟩ := hS
  intro h H locs ls hP hV hl
  injection h with h
  subst h; subst hk; subst hr2
  refine W.aret (v := rf w o) (rt := .object C) hx hb hr (Or.inl ⟨_, rfl⟩) (Or.inr ⟨_, rfl⟩) (fun t ht hW => ⟨?_, by rw [ht]; exact hP, va_K.moved hW.alike hK, hV.F ht⟩) hV.2.2 hd hlk
  simp [rvl]
  omega
theorem a_aretN (hS : Std X R w cc own ret) {C : String} (hk : rk = 3) (hr2 : ret = some (.object C)) (hd : decode cc pc = .ok (.areturn, 1)) : Sm X R w rk x pc L [.null] σ (some (-1, σ)) := by
  obtain ⟨p, l, e, s, m, args, below, meth, c, A, nX⟩ := X
  obtain ⟨hx, hb, hml, hown, hts, hK, hD, hA, hr, hlk, hrc, hrs⟩ := hS
  intro h H locs ls hP hV hl
  injection h with h
  subst h; subst hk; subst hr2
  refine W.aret (v := .null) (rt := .object C) hx hb hr (Or.inl ⟨_, rfl⟩) (Or.inl rfl) (fun t ht hW => ⟨?_, by rw [ht]; exact hP, va_K.moved hW.alike hK, hV.F ht⟩) hV.2.2 hd hlk
  simp [rvl]
theorem a_letM {F : Mem → Option (Int × Mem)} (k : ∀ s2, Sm X R w rk x pc L st s2 (F s2)) : Sm X R w rk x pc L st σ (letM σ F) := k σ
theorem a_chk {c : Prop} {_ : Decidable c} (k : c → Sm X R w rk x pc L st σ E) : Sm X R w rk x pc L st σ (if c then E else none) := by
  by_cases hc : c
  · rw [if_pos hc]; exact k hc
  · rw [if_neg hc]; exact a_none
theorem a_live {M : List Bool} {Lt : List (Option Value)} (k : Sm X R w rk x pc Lt st σ E) (hm : maskL M L = Lt) : Sm X R w rk x pc L st σ E := by
  obtain ⟨p, l, e, s, m, args, below, meth, c, A, nX⟩ := X
  intro h H locs ls hP hV hl
  refine k h H locs ls hP hV ⟨hl.1, hl.2.1, fun i v hi => hl.2.2 i v ?_⟩
  subst hm
  simp only [maskL, List.getElem?_zipWith] at hi
  cases hM : M[i]? with
  | none => simp [hM] at hi
  | some b =>
    cases hL : L[i]? with
    | none => simp [hM, hL] at hi
    | some u =>
      simp [hM, hL] at hi
      cases b with
      | true => simpa using hi
      | false => simp at hi
theorem a_acopy (hS : Std X R w cc own ret) {a b n0 n1 index : Nat} {n : Int} (hd : decode cc pc = .ok (.invokestatic index, 3)) (hm : Cond.methodLink own index arraycopyName ∈ WL) (hm2 : Cond.native arraycopyName ∈ WL) (hm3 : Cond.static arraycopyName ∈ WL) (hm4 : Cond.initialized "java/lang/System" ∈ WL) (hs0 : (shp w)[a]? = some (.inl (0, n0))) (hs1 : (shp w)[b]? = some (.inl (0, n1))) (hf : 1 ≤ R.frames) (hlo : (st.map fun v => v.category).sum + (nativeFrameWords "java/lang/System" "arraycopy" 5 + 11) ≤ R.locals) (kk : Sm X R w rk x (pc + 3) L st (cpM σ a b (wr n).toNat) E) : Sm X R w rk x pc L (iv n :: iv 0 :: rf w b :: iv 0 :: rf w a :: st) σ (if 0 ≤ wr n ∧ wr n ≤ (n0 : Int) ∧ wr n ≤ (n1 : Int) then E else none) := by
  obtain ⟨p, l, e, s, m, args, below, meth, c, A, nX⟩ := X
  obtain ⟨hx, hb, hml, hown, hts, hK, hD, hA, hr, hlk, hrc, hrs⟩ := hS
  intro h H locs ls hP hV hl
  by_cases hc : 0 ≤ wr n ∧ wr n ≤ (n0 : Int) ∧ wr n ≤ (n1 : Int)
  · rw [if_pos hc] at h
    have z0 : ¬ I3 0 < 0 := by rw [I3_0]; decide
    have z1 : (I3 0).toNatClampNeg = 0 := rfl
    refine va_copyi hx hb (by rw [hml]; exact hl.1.symm) hown (hts _ hm) (hts _ hm2) (hts _ hm3) (hts _ hm4) hK hP (hD σ) hV a b 0 0 (ty := .int) (wld_get hs0) (wld_get hs1) rfl rfl rfl z0 z0 (by rw [← I3_0, I3_lt, wr_0]; omega) (by rw [z1, I3_clamp]; omega) (by rw [z1, I3_clamp]; omega) (fun _ _ => rfl) hf hlo hd (fun H1 locs1 hP1 hD1 hV1 => ?_)
    refine kk h H1 locs1 ls ?_ hV1 hl
    rw [← wld_set (σ := σ) (q := .inl (0, n1)) hs1 rfl (fun o' ho => by funext k; simp [cpM, ho])]
    have e : cel w (cpM σ a b (wr n).toNat b) (.inl (0, n1)) = .inl (w.2.2.1, n1, .inl (va_cpy (fun k => I3 (σ a k)) (fun k => I3 (σ b k)) (I3 0).toNatClampNeg (I3 0).toNatClampNeg (I3 n).toNatClampNeg)) := by
      simp only [cel, z1, I3_clamp]
      congr 4
      funext k
      simp only [cpM, va_cpy]
      by_cases hk : k < (wr n).toNat <;> simp [hk]
    rw [e]
    exact hP1
  · rw [if_neg hc] at h; cases h
end CTL
