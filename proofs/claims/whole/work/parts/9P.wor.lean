/-! ===== the worlds that the constructors make (written by gen9.py) ===== -/
def celF (w : Wd) (f : Nat → Nat → Int) (sh : List ShC) : List va_E := sh.mapIdx (fun k q => cel w (f k) q)
theorem celF_get (w : Wd) (f : Nat → Nat → Int) (sh : List ShC) (i : Nat) : (celF w f sh)[i]? = (sh[i]?).map (cel w (f i)) := by
  simp only [celF, List.getElem?_mapIdx]
theorem celF_congr (w : Wd) {f g : Nat → Nat → Int} {sh : List ShC} (h : ∀ k, k < sh.length → f k = g k) : celF w f sh = celF w g sh := by
  apply List.ext_getElem?
  intro i
  rw [celF_get, celF_get]
  by_cases hi : i < sh.length
  · rw [h i hi]
  · rw [List.getElem?_eq_none (by omega)]; rfl
theorem celF_app (w : Wd) (f : Nat → Nat → Int) (s1 s2 : List ShC) : celF w f (s1 ++ s2) = celF w f s1 ++ celF w (fun k => f (s1.length + k)) s2 := by
  apply List.ext_getElem?
  intro i
  have hl : (celF w f s1).length = s1.length := by simp only [celF, List.length_mapIdx]
  rw [celF_get]
  by_cases h : i < s1.length
  · rw [List.getElem?_append_left h, List.getElem?_append_left (by rw [hl]; exact h), celF_get]
  · rw [List.getElem?_append_right (by omega), List.getElem?_append_right (by rw [hl]; omega), celF_get, hl, show s1.length + (i - s1.length) = i by omega]
theorem wld_blkF (κ : Kd) (b : Nat) (sh : List ShC) (σ : Mem) : blkW b (celF (wK κ b sh) σ sh) = wld (wK κ b sh) σ := by
  apply List.ext_getElem?
  intro i
  rw [blk_get, celF_get]
  simp only [wld, shp, wK, List.getElem?_mapIdx, Option.map_map]
  rfl
def celR (w : Wd) (f : Nat → Nat → Int) : List ShC → Nat → List va_E
  | [], _ => []
  | x :: s, k => cel w (f k) x :: celR w f s (k + 1)
theorem celR_get (w : Wd) (f : Nat → Nat → Int) : ∀ (sh : List ShC) (k i : Nat), (celR w f sh k)[i]? = (sh[i]?).map (cel w (f (k + i)))
  | [], k, i => by simp [celR]
  | x :: s, k, 0 => by simp [celR]
  | x :: s, k, i + 1 => by
    show (cel w (f k) x :: celR w f s (k + 1))[i + 1]? = ((x :: s)[i + 1]?).map _
    rw [List.getElem?_cons_succ, List.getElem?_cons_succ, celR_get w f s (k + 1) i, show k + 1 + i = k + (i + 1) by omega]
theorem celR_eq (w : Wd) (f : Nat → Nat → Int) (sh : List ShC) : celF w f sh = celR w f sh 0 := by
  apply List.ext_getElem?
  intro i
  rw [celF_get, celR_get, Nat.zero_add]
/-- a State's own fields, at the places that st names; all else 0 -/
def gS0 (j : Nat) : Int := bif Nat.beq j 2 then 4 else bif Nat.beq j 4 then 35 else 0
def Fb (st : Nat → Bool) (k j : Nat) : Int := bif st k then gS0 j else 0
def celN (w : Wd) (st : Nat → Bool) (o : Nat) (sh : List ShC) : List va_E := celF w (fun k => Fb st (o + k)) sh
theorem celN_nil (w : Wd) (st : Nat → Bool) (o : Nat) : celN w st o [] = [] := rfl
theorem celN_cons (w : Wd) (st : Nat → Bool) (o : Nat) (x : ShC) (s : List ShC) : celN w st o (x :: s) = cel w (Fb st o) x :: celN w st (o + 1) s := by
  unfold celN
  rw [show x :: s = [x] ++ s from rfl, celF_app]
  have e : (fun k => Fb st (o + ([x].length + k))) = fun k => Fb st (o + 1 + k) := by funext k; rw [show o + ([x].length + k) = o + 1 + k by simp only [List.length_singleton]; omega]
  rw [e]
  rfl
theorem celN_app {w : Wd} {st : Nat → Bool} {o o' : Nat} {s1 s2 : List ShC} (h : o + s1.length = o') : celN w st o (s1 ++ s2) = celN w st o s1 ++ celN w st o' s2 := by
  subst h
  unfold celN
  rw [celF_app]
  have e : (fun k => Fb st (o + (s1.length + k))) = fun k => Fb st (o + s1.length + k) := by funext k; rw [Nat.add_assoc]
  rw [e]
theorem celN_by {w : Wd} {st st' : Nat → Bool} {o : Nat} {sh : List ShC} (h : ∀ k, k < sh.length → st (o + k) = st' k) : celN w st o sh = celF w (Fb st') sh := by
  refine celF_congr w (fun k hk => ?_)
  funext j
  show (bif st (o + k) then gS0 j else 0) = (bif st' k then gS0 j else 0)
  rw [h k hk]
def stZ (_ : Nat) : Bool := false
def stO (k : Nat) : Bool := Nat.beq k 0
def stQ (k : Nat) : Bool := Nat.beq (k % 25) 0
def rowSh (o N : Nat) : List ShC := [.inr (.inr (5, [.inl (o + 1)])), .inl (0, N)]
def linSh (o : Nat) : List ShC := .inr (.inr (3, [.inr 0, .inl (o + 1), .inl (o + 3), .inl (o + 5), .inl (o + 7)])) :: (((([] ++ rowSh (o + 1) 20) ++ rowSh (o + 3) 20) ++ rowSh (o + 5) 20) ++ rowSh (o + 7) 640)
theorem linSh_len (o : Nat) : (linSh o).length = 9 := rfl
def rulSh (o : Nat) : List ShC := .inr (.inr (7, [.inl (o + 1), .inl (o + 3), .inl (o + 5), .inl (o + 7), .inl (o + 9), .inl (o + 11), .inl (o + 13)])) :: ((((((([] ++ rowSh (o + 1) 12) ++ rowSh (o + 3) 12) ++ rowSh (o + 5) 12) ++ rowSh (o + 7) 12) ++ rowSh (o + 9) 12) ++ rowSh (o + 11) 24) ++ rowSh (o + 13) 192)
theorem rulSh_len (o : Nat) : (rulSh o).length = 15 := rfl
def staSh (o : Nat) : List ShC := .inr (.inr (8, [.inl (o + 1), .inl (o + 10), .inr 0, .inr 0, .inr 0])) :: (([] ++ linSh (o + 1)) ++ rulSh (o + 10))
theorem staSh_len (o : Nat) : (staSh o).length = 25 := rfl
def bufSh (o : Nat) : List ShC := .inr (.inr (1, [.inr 0, .inl (o + 1)])) :: ([] ++ rowSh (o + 1) 72)
theorem bufSh_len (o : Nat) : (bufSh o).length = 3 := rfl
def texSh (o : Nat) : List ShC := .inr (.inr (6, [.inl (o + 1), .inl (o + 3), .inr 0])) :: (([] ++ rowSh (o + 1) 2) ++ rowSh (o + 3) 2)
theorem texSh_len (o : Nat) : (texSh o).length = 5 := rfl
def tokSh (o : Nat) : List ShC := .inr (.inr (9, [.inr 0, .inl (o + 1), .inl (o + 3), .inl (o + 5), .inl (o + 7), .inl (o + 9), .inl (o + 11), .inl (o + 13), .inr 0, .inr 0])) :: ((((((([] ++ rowSh (o + 1) 640) ++ rowSh (o + 3) 640) ++ rowSh (o + 5) 640) ++ rowSh (o + 7) 640) ++ rowSh (o + 9) 21) ++ rowSh (o + 11) 20) ++ rowSh (o + 13) 32)
theorem tokSh_len (o : Nat) : (tokSh o).length = 15 := rfl
def blkSh (o : Nat) : List ShC := .inr (.inr (0, [.inl (o + 1), .inl (o + 3), .inl (o + 5), .inl (o + 7), .inl (o + 9), .inl (o + 11), .inl (o + 13), .inl (o + 15), .inl (o + 17), .inl (o + 19), .inl (o + 21), .inr 0, .inr 0, .inr 0])) :: ((((((((((([] ++ rowSh (o + 1) 640) ++ rowSh (o + 3) 640) ++ rowSh (o + 5) 640) ++ rowSh (o + 7) 640) ++ rowSh (o + 9) 640) ++ rowSh (o + 11) 640) ++ rowSh (o + 13) 640) ++ rowSh (o + 15) 640) ++ rowSh (o + 17) 21) ++ rowSh (o + 19) 252) ++ rowSh (o + 21) 12)
theorem blkSh_len (o : Nat) : (blkSh o).length = 23 := rfl
def plaSh (o : Nat) : List ShC := .inr (.inr (4, [.inl (o + 1), .inl (o + 3), .inl (o + 5), .inl (o + 7), .inl (o + 9), .inl (o + 11)])) :: (((((([] ++ rowSh (o + 1) 20) ++ rowSh (o + 3) 20) ++ rowSh (o + 5) 20) ++ rowSh (o + 7) 20) ++ rowSh (o + 9) 20) ++ rowSh (o + 11) 20)
theorem plaSh_len (o : Nat) : (plaSh o).length = 13 := rfl
def vocSh (o : Nat) : List ShC := .inr (.inr (10, [.inr 0, .inl (o + 1), .inl (o + 3)])) :: (([] ++ rowSh (o + 1) 640) ++ rowSh (o + 3) 640)
theorem vocSh_len (o : Nat) : (vocSh o).length = 5 := rfl
theorem rowSh_len (o N : Nat) : (rowSh o N).length = 2 := rfl
theorem row_blk {κ : Kd} {b : Nat} {sh : List ShC} {st : Nat → Bool} {o N : Nat} (h : ∀ k, k < 2 → st (o + k) = false) : celN (wK κ b sh) st o (rowSh o N) = rowC κ (b + o) N := by
  exact (celN_by (st := st) (st' := stZ) (sh := rowSh o N) h).trans ((celR_eq _ _ _).trans rfl)
set_option maxRecDepth 100000 in
theorem sta_blk {κ : Kd} {b : Nat} {sh : List ShC} {st : Nat → Bool} {o : Nat} (h : ∀ k, k < 25 → st (o + k) = stO k) : celN (wK κ b sh) st o (staSh o) = staC κ (b + o) := by
  exact (celN_by (st := st) (st' := stO) (sh := staSh o) h).trans ((celR_eq _ _ _).trans rfl)
set_option maxRecDepth 100000 in
theorem buf_blk {κ : Kd} {b : Nat} {sh : List ShC} {st : Nat → Bool} {o : Nat} (h : ∀ k, k < 3 → st (o + k) = stZ k) : celN (wK κ b sh) st o (bufSh o) = bufC κ (b + o) := by
  exact (celN_by (st := st) (st' := stZ) (sh := bufSh o) h).trans ((celR_eq _ _ _).trans rfl)
set_option maxRecDepth 100000 in
theorem tex_blk {κ : Kd} {b : Nat} {sh : List ShC} {st : Nat → Bool} {o : Nat} (h : ∀ k, k < 5 → st (o + k) = stZ k) : celN (wK κ b sh) st o (texSh o) = texC κ (b + o) := by
  exact (celN_by (st := st) (st' := stZ) (sh := texSh o) h).trans ((celR_eq _ _ _).trans rfl)
set_option maxRecDepth 100000 in
theorem tok_blk {κ : Kd} {b : Nat} {sh : List ShC} {st : Nat → Bool} {o : Nat} (h : ∀ k, k < 15 → st (o + k) = stZ k) : celN (wK κ b sh) st o (tokSh o) = tokC κ (b + o) := by
  exact (celN_by (st := st) (st' := stZ) (sh := tokSh o) h).trans ((celR_eq _ _ _).trans rfl)
set_option maxRecDepth 100000 in
theorem blk_blk {κ : Kd} {b : Nat} {sh : List ShC} {st : Nat → Bool} {o : Nat} (h : ∀ k, k < 23 → st (o + k) = stZ k) : celN (wK κ b sh) st o (blkSh o) = blkC κ (b + o) := by
  exact (celN_by (st := st) (st' := stZ) (sh := blkSh o) h).trans ((celR_eq _ _ _).trans rfl)
set_option maxRecDepth 100000 in
theorem pla_blk {κ : Kd} {b : Nat} {sh : List ShC} {st : Nat → Bool} {o : Nat} (h : ∀ k, k < 13 → st (o + k) = stZ k) : celN (wK κ b sh) st o (plaSh o) = plaC κ (b + o) := by
  exact (celN_by (st := st) (st' := stZ) (sh := plaSh o) h).trans ((celR_eq _ _ _).trans rfl)
set_option maxRecDepth 100000 in
theorem voc_blk {κ : Kd} {b : Nat} {sh : List ShC} {st : Nat → Bool} {o : Nat} (h : ∀ k, k < 5 → st (o + k) = stZ k) : celN (wK κ b sh) st o (vocSh o) = vocC κ (b + o) := by
  exact (celN_by (st := st) (st' := stZ) (sh := vocSh o) h).trans ((celR_eq _ _ _).trans rfl)
/-- j States, one behind the other -/
def stasSh (o : Nat) : Nat → List ShC
  | 0 => []
  | j + 1 => stasSh o j ++ staSh (o + 25 * j)
theorem stasSh_len (o : Nat) : ∀ j, (stasSh o j).length = 25 * j
  | 0 => rfl
  | j + 1 => by
    show (stasSh o j ++ staSh (o + 25 * j)).length = _
    rw [List.length_append, stasSh_len o j, staSh_len]; omega
theorem stas_blk {κ : Kd} {b : Nat} {sh : List ShC} {st : Nat → Bool} {q r o : Nat} (e : q + r = o) : ∀ j, (∀ k, k < 25 * j → st (o + k) = stQ k) → celN (wK κ b sh) st o (stasSh o j) = stasC κ (b + q) r j
  | 0, _ => rfl
  | j + 1, h => by
    show celN (wK κ b sh) st o (stasSh o j ++ staSh (o + 25 * j)) = stasC κ (b + q) r j ++ staC κ (b + q + (r + 25 * j))
    rw [celN_app (o' := o + 25 * j) (by rw [stasSh_len]), stas_blk e j (fun k hk => h k (by omega)), sta_blk (o := o + 25 * j) (fun k hk => ?_)]
    · rw [show b + (o + 25 * j) = b + q + (r + 25 * j) by omega]
    · rw [show o + 25 * j + k = o + (25 * j + k) by omega, h (25 * j + k) (by omega)]
      unfold stQ stO
      rw [show (25 * j + k) % 25 = k by omega]
theorem rgF_8 (b : Nat) : rgF (b + 34) 2 8 = fun k => (([36, 61, 86, 111, 136, 161, 186, 211] : List Nat)[k]?).map (fun i => b + i) := by
  funext k
  unfold rgF
  match k with
  | 0 => rfl
  | 1 => rfl
  | 2 => rfl
  | 3 => rfl
  | 4 => rfl
  | 5 => rfl
  | 6 => rfl
  | 7 => rfl
  | k + 8 => rw [if_neg (by omega), List.getElem?_eq_none (by show 8 ≤ k + 8; omega)]; rfl
theorem rgF_2 (b : Nat) : rgF b 237 2 = fun k => (([237, 262] : List Nat)[k]?).map (fun i => b + i) := by
  funext k
  unfold rgF
  match k with
  | 0 => rfl
  | 1 => rfl
  | k + 2 => rw [if_neg (by omega), List.getElem?_eq_none (by show 2 ≤ k + 2; omega)]; rfl
def hisSh : List ShC := .inr (.inr (2, [.inr 0, .inr 0, .inl 35])) :: (.inr (.inl [36, 61, 86, 111, 136, 161, 186, 211]) :: stasSh 36 8)
theorem his_blk {κ : Kd} {b : Nat} {sh : List ShC} {st : Nat → Bool} (h0 : st 34 = false) (h : ∀ k, k < 200 → st (36 + k) = stQ k) : celN (wK κ b sh) st 34 hisSh = hisC κ (b + 34) := by
  unfold hisSh hisC rgC
  rw [celN_cons, celN_cons, stas_blk (q := 34) (r := 2) rfl 8 h, rgF_8]
  have e : Fb st 34 = fun _ => 0 := by funext j; unfold Fb; rw [h0]; rfl
  rw [e]
  rfl
def imgSh : List ShC := .inr (.inl [237, 262]) :: stasSh 237 2
theorem img_blk {κ : Kd} {b : Nat} {sh : List ShC} {st : Nat → Bool} (h : ∀ k, k < 50 → st (237 + k) = stQ k) : celN (wK κ b sh) st 236 imgSh = rgC κ b 237 2 2 :: stasC κ b 237 2 := by
  unfold imgSh rgC
  have e := stas_blk (κ := κ) (b := b) (sh := sh) (st := st) (q := 0) (r := 237) (o := 237) rfl 2 h
  rw [celN_cons, e, rgF_2]
  rfl
def stW (o : Nat) : Bool := Nat.beq o 1 || ((Nat.ble 36 o && Nat.ble o 235 && Nat.beq ((o - 36) % 25) 0) || (Nat.ble 237 o && Nat.ble o 286 && Nat.beq ((o - 237) % 25) 0))
theorem ShA_eq : ShA = .inr (.inr (11, [.inl 1, .inl 26, .inl 29, .inl 34, .inl 236, .inl 287, .inl 289, .inl 304, .inl 327, .inl 340, .inl 345, .inr 0])) :: ((((((((((([] ++ staSh 1) ++ bufSh 26) ++ texSh 29) ++ hisSh) ++ imgSh) ++ rowSh 287 2) ++ tokSh 289) ++ blkSh 304) ++ plaSh 327) ++ vocSh 340) ++ rowSh 345 20) := by decide +kernel
set_option maxRecDepth 100000 in
theorem aiC_eq (κ : Kd) (b : Nat) (sh : List ShC) : aiC κ b = celF (wK κ b sh) (Fb stW) ShA := by
  have e0 : celF (wK κ b sh) (Fb stW) ShA = celN (wK κ b sh) stW 0 ShA := by
    unfold celN
    rw [show (fun k => Fb stW (0 + k)) = Fb stW from by funext k; rw [Nat.zero_add]]
  rw [e0, ShA_eq]
  unfold aiC
  rw [celN_cons]
  rw [celN_app (o := 0 + 1) (o' := 345) (s2 := rowSh 345 20) (by decide +kernel)]
  rw [celN_app (o := 0 + 1) (o' := 340) (s2 := vocSh 340) (by decide +kernel)]
  rw [celN_app (o := 0 + 1) (o' := 327) (s2 := plaSh 327) (by decide +kernel)]
  rw [celN_app (o := 0 + 1) (o' := 304) (s2 := blkSh 304) (by decide +kernel)]
  rw [celN_app (o := 0 + 1) (o' := 289) (s2 := tokSh 289) (by decide +kernel)]
  rw [celN_app (o := 0 + 1) (o' := 287) (s2 := rowSh 287 2) (by decide +kernel)]
  rw [celN_app (o := 0 + 1) (o' := 236) (s2 := imgSh) (by decide +kernel)]
  rw [celN_app (o := 0 + 1) (o' := 34) (s2 := hisSh) (by decide +kernel)]
  rw [celN_app (o := 0 + 1) (o' := 29) (s2 := texSh 29) (by decide +kernel)]
  rw [celN_app (o := 0 + 1) (o' := 26) (s2 := bufSh 26) (by decide +kernel)]
  rw [celN_app (o := 0 + 1) (o' := 1) (s2 := staSh 1) (by decide +kernel)]
  rw [celN_nil]
  rw [sta_blk (o := 1) (by decide +kernel)]
  rw [buf_blk (o := 26) (by decide +kernel)]
  rw [tex_blk (o := 29) (by decide +kernel)]
  rw [his_blk (by decide +kernel) (by decide +kernel)]
  rw [img_blk (by decide +kernel)]
  rw [row_blk (o := 287) (by decide +kernel)]
  rw [tok_blk (o := 289) (by decide +kernel)]
  rw [blk_blk (o := 304) (by decide +kernel)]
  rw [pla_blk (o := 327) (by decide +kernel)]
  rw [voc_blk (o := 340) (by decide +kernel)]
  rw [row_blk (o := 345) (by decide +kernel)]
  rfl
theorem ai_wld (κ : Kd) (b : Nat) : blkW b (aiC κ b) = wld (wK κ b ShA) (Fb stW) := by rw [aiC_eq κ b ShA, wld_blkF]
def fldR (ρ : Nat → Nat) (f : Nat → Int) : List (Nat ⊕ Nat) → Nat → List Value
  | [], _ => []
  | q :: s, k => fvl ρ (f k) q :: fldR ρ f s (k + 1)
theorem fldR_get (ρ : Nat → Nat) (f : Nat → Int) : ∀ (ks : List (Nat ⊕ Nat)) (k i : Nat), (fldR ρ f ks k)[i]? = (ks[i]?).map (fvl ρ (f (k + i)))
  | [], k, i => by simp [fldR]
  | x :: s, k, 0 => by simp [fldR]
  | x :: s, k, i + 1 => by
    show (fvl ρ (f k) x :: fldR ρ f s (k + 1))[i + 1]? = ((x :: s)[i + 1]?).map _
    rw [List.getElem?_cons_succ, List.getElem?_cons_succ, fldR_get ρ f s (k + 1) i, show k + 1 + i = k + (i + 1) by omega]
theorem cel_obj (w : Wd) (f : Nat → Int) (ci : Nat) (ks : List (Nat ⊕ Nat)) : cel w f (.inr (.inr (ci, ks))) = .inr (ci, fldR w.2.1 f ks 0) := by
  have e : ks.mapIdx (fun k q => fvl w.2.1 (f k) q) = fldR w.2.1 f ks 0 := by
    apply List.ext_getElem?
    intro i
    rw [fldR_get, Nat.zero_add]
    simp only [List.getElem?_mapIdx]
  show Sum.inr (ci, ks.mapIdx (fun k q => fvl w.2.1 (f k) q)) = _
  rw [e]
theorem celR_cons (w : Wd) (f : Nat → Nat → Int) (x : ShC) (s : List ShC) (k : Nat) : celR w f (x :: s) k = cel w (f k) x :: celR w f s (k + 1) := rfl
/-- the reference's memory at its start -/
def pg0 (k : Nat) : Int := if k = 979 then 35 else if k = 977 then 4 else 0
def mB0 : Mem := fun o k => bif Nat.beq o 1 then pg0 k else bif Nat.beq o 19 then pEs.getD k 0 else bif Nat.beq o 20 then pCs.getD k 0 else 0
theorem pg0_up : (fun k => I3 (pg0 k)) = upd (upd (fun _ => I3 0) 977 (I3 4)) 979 (I3 35) := by
  funext k
  unfold pg0 upd
  by_cases h : k = 979
  · rw [if_pos h, if_pos h]
  · rw [if_neg h, if_neg h]
    by_cases h2 : k = 977
    · rw [if_pos h2, if_pos h2]
    · rw [if_neg h2, if_neg h2]
set_option maxRecDepth 100000 in
theorem mdC_eq (κ : Kd) (b : Nat) (sh : List ShC) : mdC κ b = celF (wK κ b sh) mB0 ShB := by
  unfold mdC
  rw [← pg0_up, celR_eq]
  unfold ShB
  rw [celR_cons, cel_obj]
  rfl
theorem md_wld (κ : Kd) (b : Nat) : blkW b (mdC κ b) = wld (wK κ b ShB) mB0 := by rw [mdC_eq κ b ShB, wld_blkF]
