/-! ===== a change begins; undo, keep, back ===== -/
theorem stA : ∀ o ∈ stL, isSta o := by
  intro o h
  simp only [stL, List.mem_cons, List.mem_nil_iff, or_false] at h
  rcases h with h | h | h | h | h | h | h | h | h | h | h <;> subst h
  · exact iSta1
  · exact iSta36
  · exact iSta61
  · exact iSta86
  · exact iSta111
  · exact iSta136
  · exact iSta161
  · exact iSta186
  · exact iSta211
  · exact iSta237
  · exact iSta262
theorem stR : ∀ j, j < 8 → (36 + 25 * j) ∈ stL := by decide
theorem stI : ∀ k, k < 2 → (237 + 25 * k) ∈ stL := by decide
theorem rgA : ∀ j, j < 8 → ringA.getD j 0 = 36 + 25 * j := by decide
theorem imA : ∀ j, j < 2 → imgsA.getD j 0 = 237 + 25 * j := by decide
def FBg (o k : Nat) : Prop := (36 ≤ o ∧ o < 236) ∨ (o = 34 ∧ k ≤ 1) ∨ (o = 0 ∧ k = 11)
def FBm (o k : Nat) : Prop := (o = 1 ∧ 980 ≤ k) ∨ (o = 0 ∧ k = 1)
section HI
variable {σ τ : Mem}
theorem his_at {a : Nat} (ha : a ≤ 8) (h1 : 0 ≤ σ 34 1 ∧ σ 34 1 < 8) : His_at a σ = some (((hAt σ a : Nat) : Int), σ) := by
  have hm : (wr (σ 34 1 + a)).tmod (wr 8) = (((σ 34 1).toNat + a) % 8 : Nat) := by
    rw [wr_id (n := σ 34 1 + a) (by omega) (by omega), wr_id (n := 8) (by omega) (by omega), Int.tmod_eq_emod_of_nonneg (by omega)]
    omega
  have hl : ringA.length = 8 := rfl
  unfold His_at
  rw [hm, hl, wr_id (n := (a : Int)) (by omega) (by omega), if_neg (by omega), wr_id (n := ((((σ 34 1).toNat + a) % 8 : Nat) : Int)) (by omega) (by omega), if_neg (by omega), wr_id (n := ((8 : Nat) : Int)) (by omega) (by omega), if_pos (by omega), if_pos (by omega)]
  show some (((ringA.getD ((((σ 34 1).toNat + a) % 8 : Nat) : Int).toNat 0 : Nat) : Int), σ) = _
  rw [show (((((σ 34 1).toNat + a) % 8 : Nat)) : Int).toNat = ((σ 34 1).toNat + a) % 8 by omega, rgA _ (by omega)]
  rfl
/-- what of the invariant a change of the present state keeps -/
def FN (o k : Nat) : Prop := (1 ≤ o ∧ o ≤ 25) ∨ FQ o k
def FM (o k : Nat) : Prop := ¬ (o = 2 ∨ o = 3 ∨ o = 19 ∨ o = 20 ∨ (o = 0 ∧ (k = 1 ∨ k = 4)) ∨ (o = 1 ∧ 980 ≤ k))
theorem absM_blk {τ τ' : Mem} {j : Nat} (hn : absM τ j 0 0 ≤ 20) (h : ∀ k, 980 * j ≤ k → k < 980 * j + 980 → τ' 1 k = τ 1 k) : absM τ' j = absM τ j := absM_of hn (fun c hc => h _ (by omega) (by omega))
theorem SV.n20 {S : Mem} (h : SV S) : S 0 0 ≤ 20 := h.1.2
theorem Inv_edit {σ' τ' : Mem} (h : Inv σ τ) (hσ : Fr FN σ σ') (hτ : Fr FM τ τ') (hS : InvS σ' τ') : Inv σ' τ' := by
  obtain ⟨-, ⟨b1, b2, b3⟩, ⟨h1, h2, h3, h4⟩, hI, hP⟩ := h
  have kσ : ∀ o k, (26 ≤ o ∧ o < 29) ∨ (33 < o ∧ o < 289) → σ' o k = σ o k := fun o k q1 => hσ o k (by unfold FN FQ; omega)
  have k3 : τ' 3 = τ 3 := by funext k; exact hτ 3 k (fun z => z (by omega))
  have k2 : τ' 2 = τ 2 := by funext k; exact hτ 2 k (fun z => z (by omega))
  have k19 : τ' 19 = τ 19 := by funext k; exact hτ 19 k (fun z => z (by omega))
  have k20 : τ' 20 = τ 20 := by funext k; exact hτ 20 k (fun z => z (by omega))
  have k01 : τ' 0 1 = τ 0 1 := hτ 0 1 (fun z => z (by omega))
  have k04 : τ' 0 4 = τ 0 4 := hτ 0 4 (fun z => z (by omega))
  have kM : ∀ j, 1 ≤ j → SV (absM τ j) → absM τ' j = absM τ j := fun j hj hv => absM_blk hv.n20 (fun k q1 q2 => hτ 1 k (fun z => z (by omega)))
  have e34 : σ' 34 = σ 34 := by funext k; exact kσ 34 k (by omega)
  have kh : ∀ j, hAt σ' j = hAt σ j := fun j => by unfold hAt; rw [e34]
  refine ⟨hS, ⟨?_, by rw [k04]; exact b2, fun k hk => ?_⟩, ⟨?_, by rw [k01]; exact h2, by rw [e34]; exact h3, fun j hj => ?_⟩, fun k hk => ?_, by unfold InvP; rw [k19, k20]; exact hP⟩
  · rw [kσ 26 0 (by omega), k04]; exact b1
  · rw [k04] at hk
    rw [kσ 28 k (by omega), k3]; exact b3 k hk
  · rw [e34, k01]; exact h1
  · rw [k01] at hj
    have hb : hAt σ j < 212 ∧ 36 ≤ hAt σ j := by unfold hAt; omega
    rw [kM _ (by omega) (h4 j hj).2.1, kh, absC_keep (σ := σ) (fun o k q1 q2 => kσ o k (by omega))]
    exact ⟨(h4 j hj).1, (h4 j hj).2.1, CI_keep (fun o k q1 q2 => kσ o k (by omega)) (h4 j hj).2.2⟩
  · rw [kσ 288 k (by omega), k2, absC_keep (σ := σ) (fun o k q1 q2 => kσ o k (by omega))]
    refine ⟨(hI k hk).1, (hI k hk).2.1, fun z => ?_⟩
    have := (hI k hk).2.2 z
    rw [kM _ (by omega) this.2.1]
    exact ⟨this.1, this.2.1, CI_keep (fun o k q1 q2 => kσ o k (by omega)) this.2.2⟩
/-- the relation without the present state's cache and without the count -/
def InvX (σ τ : Mem) (c : Nat) : Prop := absC σ 1 = absM τ 0 ∧ SV (absM τ 0) ∧ CI σ 1 ∧ InvB σ τ ∧ (σ 34 0 = c ∧ τ 0 1 = c ∧ (0 ≤ σ 34 1 ∧ σ 34 1 < 8) ∧ ∀ j : Nat, j < c → absC σ (hAt σ j) = absM τ (1 + j) ∧ SV (absM τ (1 + j)) ∧ CI σ (hAt σ j)) ∧ InvI σ τ ∧ InvP τ
theorem push {c : Nat} (h : InvX σ τ c) (hc : c < 8) : Ex (His_remember_28 σ) (fun _ σ1 => Ex (Md_begins_41 τ) (fun _ τ1 => InvX σ1 τ1 (c + 1) ∧ Fr FBg σ σ1 ∧ Fr FBm τ τ1)) := by
  obtain ⟨s1, s2, s3, ⟨b1, b2, b3⟩, ⟨h1, h2, h3, h4⟩, hI, hP⟩ := h
  unfold His_remember_28
  rw [h1, his_at (by omega) h3]
  simp only [Option.bind_some]
  have hb : hAt σ c < 212 ∧ 36 ≤ hAt σ c := by unfold hAt; omega
  have hm : hAt σ c ∈ stL := stR _ (by omega)
  rw [if_neg (by omega), show (((hAt σ c : Nat)) : Int).toNat = hAt σ c by omega, if_pos (stA _ hm)]
  refine Ex.bnd ((sta_copyA hm (show 1 ∈ stL by decide) (by omega) (σ := σ) (by rw [s1]; exact s2.n20) s3).mono (fun _ σ2 z => ?_))
  obtain ⟨hf, hA, hC⟩ := z
  refine Ex.lt (Ex.ret ?_)
  unfold Md_begins_41
  rw [h2, show (1 : Int) + (c : Nat) = ((1 + c : Nat) : Int) by omega, show (0 : Int) = ((0 : Nat) : Int) from rfl, md_copies (by omega) (by omega) (by omega)]
  simp only [Option.bind_some]
  refine Ex.lt (Ex.ret ?_)
  have e34 : σ2 34 = σ 34 := by funext k; exact hf 34 k (by omega)
  show InvX (upM σ2 34 0 (σ2 34 0 + 1)) (upM (cpP τ 0 (1 + c) 980) 0 1 (cpP τ 0 (1 + c) 980 0 1 + 1)) (c + 1) ∧ Fr FBg σ (upM σ2 34 0 (σ2 34 0 + 1)) ∧ Fr FBm τ (upM (cpP τ 0 (1 + c) 980) 0 1 (cpP τ 0 (1 + c) 980 0 1 + 1))
  rw [cpP_o (by omega), h2, e34, h1]
  have kσ : ∀ o k, (o < hAt σ c ∨ hAt σ c + 25 ≤ o) → o ≠ 34 → upM σ2 34 0 ((c : Int) + 1) o k = σ o k := fun o k q1 q2 => by
    simp only [upM]; rw [if_neg (fun z => q2 z.1)]; exact hf o k q1
  have kh : ∀ j, hAt (upM σ2 34 0 ((c : Int) + 1)) j = hAt σ j := fun j => by
    unfold hAt
    have : upM σ2 34 0 ((c : Int) + 1) 34 1 = σ 34 1 := by simp [upM, e34]
    rw [this]
  have kτ : ∀ o k, o ≠ 1 → (o ≠ 0 ∨ k ≠ 1) → upM (cpP τ 0 (1 + c) 980) 0 1 ((c : Int) + 1) o k = τ o k := fun o k q1 q2 => by
    simp only [upM]; rw [if_neg (by omega)]; exact cpP_o q1
  have k1 : ∀ k, upM (cpP τ 0 (1 + c) 980) 0 1 ((c : Int) + 1) 1 k = cpP τ 0 (1 + c) 980 1 k := fun k => by simp [upM]
  have kA : ∀ j, absM (upM (cpP τ 0 (1 + c) 980) 0 1 ((c : Int) + 1)) j = absM (cpP τ 0 (1 + c) 980) j := fun j => absM_congr (by funext k; exact k1 k) j
  have a0 : absM (cpP τ 0 (1 + c) 980) 0 = absM τ 0 := cpP_j (by omega) s2.n20
  have f3 : upM (cpP τ 0 (1 + c) 980) 0 1 ((c : Int) + 1) 3 = τ 3 := by funext k; exact kτ 3 k (by omega) (by omega)
  have f2 : upM (cpP τ 0 (1 + c) 980) 0 1 ((c : Int) + 1) 2 = τ 2 := by funext k; exact kτ 2 k (by omega) (by omega)
  have f19 : upM (cpP τ 0 (1 + c) 980) 0 1 ((c : Int) + 1) 19 = τ 19 := by funext k; exact kτ 19 k (by omega) (by omega)
  have f20 : upM (cpP τ 0 (1 + c) 980) 0 1 ((c : Int) + 1) 20 = τ 20 := by funext k; exact kτ 20 k (by omega) (by omega)
  refine ⟨⟨?_, by rw [kA, a0]; exact s2, CI_keep (fun o k q1 q2 => kσ o k (by omega) (by omega)) s3, ⟨?_, ?_, fun k hk => ?_⟩, ⟨by simp [upM], by simp [upM], ?_, fun j hj => ?_⟩, fun k hk => ?_, by unfold InvP; rw [f19, f20]; exact hP⟩, fun o k q => ?_, fun o k q => ?_⟩
  · rw [kA, a0, absC_keep (σ := σ) (fun o k q1 q2 => kσ o k (by omega) (by omega))]; exact s1
  · rw [kσ 26 0 (by omega) (by omega), kτ 0 4 (by omega) (by omega)]; exact b1
  · rw [kτ 0 4 (by omega) (by omega)]; exact b2
  · rw [kτ 0 4 (by omega) (by omega)] at hk
    rw [kσ 28 k (by omega) (by omega), f3]; exact b3 k hk
  · have : upM σ2 34 0 ((c : Int) + 1) 34 1 = σ 34 1 := by simp [upM, e34]
    rw [this]; exact h3
  · rw [kh, kA]
    by_cases e : j = c
    · subst e
      have ea : absC (upM σ2 34 0 ((j : Int) + 1)) (hAt σ j) = absC σ2 (hAt σ j) := absC_keep (fun o k q1 q2 => by simp only [upM]; rw [if_neg (by omega)])
      rw [ea, hA, s1, cpP_b s2.n20]
      exact ⟨rfl, s2, CI_keep (σ := σ2) (fun o k q1 q2 => by simp only [upM]; rw [if_neg (by omega)]) hC⟩
    · have hj2 := h4 j (by omega)
      have hne : hAt σ j + 25 ≤ hAt σ c ∨ hAt σ c + 25 ≤ hAt σ j := by unfold hAt; omega
      have hbj : 36 ≤ hAt σ j := by unfold hAt; omega
      rw [cpP_j (by omega) hj2.2.1.n20, absC_keep (σ := σ) (fun o k q1 q2 => kσ o k (by omega) (by omega))]
      exact ⟨hj2.1, hj2.2.1, CI_keep (fun o k q1 q2 => kσ o k (by omega) (by omega)) hj2.2.2⟩
  · rw [kσ 288 k (by omega) (by omega), f2, kA, absC_keep (σ := σ) (fun o k q1 q2 => kσ o k (by omega) (by omega))]
    refine ⟨(hI k hk).1, (hI k hk).2.1, fun z => ?_⟩
    have := (hI k hk).2.2 z
    rw [cpP_j (by omega) this.2.1.n20]
    exact ⟨this.1, this.2.1, CI_keep (fun o k q1 q2 => kσ o k (by omega) (by omega)) this.2.2⟩
  · unfold FBg at q
    by_cases e : o = 34
    · subst e
      simp only [upM]; rw [if_neg (by omega)]; exact hf 34 k (by omega)
    · exact kσ o k (by omega) e
  · unfold FBm at q
    by_cases e : o = 1
    · subst e; rw [k1, cpP_k (by omega)]
    · exact kτ o k e (by omega)
def sh (τ : Mem) (k : Nat) : Mem := fun o c => if o = 1 ∧ 980 ≤ c ∧ c < 980 * k then τ 1 (c + 980) else τ o c
theorem md_begins_11 : ∀ (m n k : Nat), 1 ≤ k → k + m = 8 → m < n → Md_begins_11 n k (sh τ k) = Md_begins_41 (upM (sh τ 8) 0 1 (τ 0 1 - 1)) := by
  intro m
  induction m with
  | zero =>
    intro n k h1 hk hn
    obtain ⟨n, rfl⟩ : ∃ z, n = z + 1 := ⟨n - 1, by omega⟩
    show Md_begins_11b (Md_begins_11 n) k (sh τ k) = _
    unfold Md_begins_11b
    rw [wr_id (n := (k : Int)) (by omega) (by omega), if_neg (by omega), show k = 8 by omega, show sh τ 8 0 1 = τ 0 1 from rfl]
    rfl
  | succ m ih =>
    intro n k h1 hk hn
    obtain ⟨n, rfl⟩ : ∃ z, n = z + 1 := ⟨n - 1, by omega⟩
    show Md_begins_11b (Md_begins_11 n) k (sh τ k) = _
    unfold Md_begins_11b
    rw [wr_id (n := (k : Int)) (by omega) (by omega), if_pos (by omega), show (k : Int) + 1 = ((k + 1 : Nat) : Int) by omega, md_copies (by omega) (by omega) (by omega)]
    simp only [Option.bind_some]
    have e : cpP (sh τ k) (k + 1) k 980 = sh τ (k + 1) := by
      funext o c
      unfold cpP
      by_cases q : o = 1 ∧ 980 * k ≤ c ∧ c < 980 * k + 980
      · rw [if_pos q]
        unfold sh
        rw [if_neg (by omega), if_pos (by omega)]
        congr 1
        omega
      · rw [if_neg q]
        unfold sh
        by_cases q2 : o = 1 ∧ 980 ≤ c ∧ c < 980 * k
        · rw [if_pos q2, if_pos (by omega)]
        · rw [if_neg q2, if_neg (by omega)]
    rw [e]
    exact ih n (k + 1) (by omega) (by omega) (by omega)
theorem sh_1 : sh τ 1 = τ := by
  funext o c
  unfold sh
  rw [if_neg (by omega)]
theorem Inv.begin (h : Inv σ τ) : Ex (Ai_beginChange σ) (fun _ σ1 => Ex (Md_begins τ) (fun _ τ1 => Inv σ1 τ1 ∧ σ1 0 11 = 0 ∧ Fr FBg σ σ1 ∧ Fr FBm τ τ1)) := by
  obtain ⟨⟨s1, s2, s3, s4⟩, hB, ⟨h1, h2, h3, h4⟩, hI, hP⟩ := h
  unfold Ai_beginChange His_remember Md_begins
  have fin : ∀ (σ0 τ0 : Mem) (c : Nat), c < 8 → InvX σ0 τ0 c → Fr FBg σ σ0 → Fr FBm τ τ0 → Ex ((His_remember_28 σ0).bind fun q1 => letM (upM q1.2 0 11 0) fun s2 => some (0, s2)) (fun _ σ1 => Ex (Md_begins_41 τ0) (fun _ τ1 => Inv σ1 τ1 ∧ σ1 0 11 = 0 ∧ Fr FBg σ σ1 ∧ Fr FBm τ τ1)) := by
    intro σ0 τ0 c hc hX hF1 hF2
    refine Ex.bnd ((push hX hc).mono (fun _ σ1 z => Ex.lt (Ex.ret (z.mono (fun _ τ1 y => ?_)))))
    obtain ⟨⟨x1, x2, x3, ⟨b1, b2, b3⟩, ⟨y1, y2, y3, y4⟩, xI, xP⟩, yF1, yF2⟩ := y
    have k : ∀ o k, o ≠ 0 → upM σ1 0 11 0 o k = σ1 o k := fun o k q => by simp [upM, q]
    have kh : ∀ j, hAt (upM σ1 0 11 0) j = hAt σ1 j := fun j => by unfold hAt; rw [k 34 1 (by omega)]
    refine ⟨⟨⟨?_, x2, CI_keep (fun o z q1 q2 => k o z (by omega)) x3, Or.inl (by simp [upM])⟩, ⟨by rw [k 26 0 (by omega)]; exact b1, b2, fun j hj => by rw [k 28 j (by omega)]; exact b3 j hj⟩, ⟨?_, by omega, by rw [k 34 1 (by omega)]; exact y3, fun j hj => ?_⟩, fun j hj => ?_, xP⟩, by simp [upM], ?_, hF2.tr yF2⟩
    · rw [absC_keep (σ := σ1) (fun o z q1 q2 => k o z (by omega))]; exact x1
    · rw [k 34 0 (by omega), y1, y2]
    · have hb : 36 ≤ hAt σ1 j := by unfold hAt; omega
      rw [kh, absC_keep (σ := σ1) (fun o z q1 q2 => k o z (by omega))]
      have := y4 j (by omega)
      exact ⟨this.1, this.2.1, CI_keep (fun o z q1 q2 => k o z (by omega)) this.2.2⟩
    · rw [k 288 j (by omega), absC_keep (σ := σ1) (fun o z q1 q2 => k o z (by omega))]
      refine ⟨(xI j hj).1, (xI j hj).2.1, fun z => ?_⟩
      have := (xI j hj).2.2 z
      exact ⟨this.1, this.2.1, CI_keep (fun o z q1 q2 => k o z (by omega)) this.2.2⟩
    · exact Fr.up (hF1.tr yF1) (by unfold FBg; omega)
  obtain ⟨c, hc⟩ : ∃ z : Nat, τ 0 1 = (z : Int) := ⟨(τ 0 1).toNat, by omega⟩
  rw [h1, hc, wr_id (n := (c : Int)) (by omega) (by omega)]
  by_cases q : c < 8
  · rw [if_pos (by omega), if_neg (by omega)]
    refine fin σ τ c q ⟨s1, s2, s3, hB, ⟨by rw [h1, hc], hc, h3, fun j hj => h4 j (by omega)⟩, hI, hP⟩ Fr.rf Fr.rf
  · rw [if_neg (by omega), if_pos (by omega)]
    have hm := md_begins_11 (τ := τ) 7 100000 1 (by omega) (by omega) (by omega)
    rw [sh_1] at hm
    rw [show (1 : Int) = ((1 : Nat) : Int) from rfl, hm]
    unfold letM
    simp only []
    have he : (wr (σ 34 1 + ((1 : Nat) : Int))).tmod (wr 8) = (((σ 34 1).toNat + 1) % 8 : Nat) := by
      rw [wr_id (n := σ 34 1 + ((1 : Nat) : Int)) (by omega) (by omega), wr_id (n := 8) (by omega) (by omega), Int.tmod_eq_emod_of_nonneg (by omega)]
      omega
    rw [he]
    have k : ∀ o z, o ≠ 34 → upM (upM σ 34 1 (((σ 34 1).toNat + 1) % 8 : Nat)) 34 0 7 o z = σ o z := fun o z y => by simp [upM, y]
    have kh : ∀ j, hAt (upM (upM σ 34 1 (((σ 34 1).toNat + 1) % 8 : Nat)) 34 0 7) j = hAt σ (1 + j) := fun j => by
      unfold hAt
      have : upM (upM σ 34 1 (((σ 34 1).toNat + 1) % 8 : Nat)) 34 0 7 34 1 = (((σ 34 1).toNat + 1) % 8 : Nat) := by simp [upM]
      rw [this]
      omega
    have kτ : ∀ o z, o ≠ 1 → (o ≠ 0 ∨ z ≠ 1) → upM (sh τ 8) 0 1 (τ 0 1 - 1) o z = τ o z := fun o z q1 q2 => by
      simp only [upM]; rw [if_neg (by omega)]; unfold sh; rw [if_neg (fun y => q1 y.1)]
    have k1 : ∀ z, upM (sh τ 8) 0 1 (τ 0 1 - 1) 1 z = sh τ 8 1 z := fun z => by simp [upM]
    have kA : ∀ j, j < 7 → SV (absM τ (1 + (1 + j))) → absM (upM (sh τ 8) 0 1 (τ 0 1 - 1)) (1 + j) = absM τ (1 + (1 + j)) := fun j hj hv => absM_of hv.n20 (fun c hc => by
      rw [k1]; unfold sh; rw [if_pos (by omega), show 980 * (1 + j) + c + 980 = 980 * (1 + (1 + j)) + c by omega])
    have kB : ∀ j, (j = 0 ∨ 9 ≤ j) → SV (absM τ j) → absM (upM (sh τ 8) 0 1 (τ 0 1 - 1)) j = absM τ j := fun j hj hv => absM_of hv.n20 (fun c hc => by
      rw [k1]; unfold sh; rw [if_neg (by omega)])
    refine fin _ _ 7 (by omega) ⟨?_, by rw [kB 0 (by omega) s2]; exact s2, CI_keep (fun o z q1 q2 => k o z (by omega)) s3, ⟨?_, ?_, fun z hz => ?_⟩, ⟨by simp [upM], by simp [upM]; omega, ?_, fun j hj => ?_⟩, fun z hz => ?_, ?_⟩ ?_ ?_
    · rw [kB 0 (by omega) s2, absC_keep (σ := σ) (fun o z q1 q2 => k o z (by omega))]; exact s1
    · rw [k 26 0 (by omega), kτ 0 4 (by omega) (by omega)]; exact hB.1
    · rw [kτ 0 4 (by omega) (by omega)]; exact hB.2.1
    · rw [kτ 0 4 (by omega) (by omega)] at hz
      rw [k 28 z (by omega), kτ 3 z (by omega) (by omega)]; exact hB.2.2 z hz
    · have : upM (upM σ 34 1 (((σ 34 1).toNat + 1) % 8 : Nat)) 34 0 7 34 1 = (((σ 34 1).toNat + 1) % 8 : Nat) := by simp [upM]
      rw [this]; omega
    · have hj2 := h4 (1 + j) (by omega)
      have hb : 36 ≤ hAt σ (1 + j) := by unfold hAt; omega
      rw [kh, kA j hj hj2.2.1, absC_keep (σ := σ) (fun o z q1 q2 => k o z (by omega))]
      exact ⟨hj2.1, hj2.2.1, CI_keep (fun o z q1 q2 => k o z (by omega)) hj2.2.2⟩
    · rw [k 288 z (by omega), kτ 2 z (by omega) (by omega), absC_keep (σ := σ) (fun o z q1 q2 => k o z (by omega))]
      refine ⟨(hI z hz).1, (hI z hz).2.1, fun y => ?_⟩
      have := (hI z hz).2.2 y
      rw [kB _ (by omega) this.2.1]
      exact ⟨this.1, this.2.1, CI_keep (fun o z q1 q2 => k o z (by omega)) this.2.2⟩
    · refine ⟨fun z hz => ?_, fun z hz => ?_⟩
      · rw [kτ 19 z (by omega) (by omega)]; exact hP.1 z hz
      · rw [kτ 20 z (by omega) (by omega)]; exact hP.2 z hz
    · intro o z y
      unfold FBg at y
      simp only [upM]
      rw [if_neg (by omega), if_neg (by omega)]
    · intro o z y
      unfold FBm at y
      by_cases e : o = 1
      · subst e; rw [k1]; unfold sh; rw [if_neg (by omega)]
      · exact kτ o z e (by omega)
end HI
