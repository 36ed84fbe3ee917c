/-! ===== both memories at their start ===== -/
def SS0 : Mem := mkS 0 4 0 35 (fun _ => 0) (fun _ => 0) (fun _ => 0) (fun _ => 0) (fun _ => 0) (fun _ => 0) (fun _ => 0) (fun _ => 0) (fun _ => 0) (fun _ => 0) (fun _ => 0)
theorem mB0_z (k : Nat) (h : k < 977) : mB0 1 k = 0 := by
  show pg0 k = 0
  unfold pg0
  rw [if_neg (by omega), if_neg (by omega)]
theorem absM_0 : absM mB0 0 = SS0 := by
  have e0 : mB0 1 (980 * 0) = 0 := by decide
  have e1 : mB0 1 (980 * 0 + 977) = 4 := by decide
  have e2 : mB0 1 (980 * 0 + 978) = 0 := by decide
  have e3 : mB0 1 (980 * 0 + 979) = 35 := by decide
  unfold absM SS0
  rw [e0, e1, e2, e3]
  refine mkS_congr (fun k hk => absurd hk (by omega)) (fun k hk => absurd hk (by omega)) (fun k hk => absurd hk (by omega)) (fun i k hk => absurd hk (by omega)) (fun r hr => mB0_z _ (by omega)) (fun r hr hs => absurd (mB0_z _ (by omega)) hs) (fun r hr hs => ?_)
  have h0 : mB0 1 (980 * 0 + 701 + 23 * r) = 0 := mB0_z _ (by omega)
  have h1 : mB0 1 (980 * 0 + 701 + 23 * r) = 1 := hs
  omega
theorem absC_0 : absC (Fb stW) 1 = SS0 := rfl
theorem SS0_5 (r : Nat) : SS0 5 r = 0 := by
  show (if r < 12 then (0 : Int) else 0) = 0
  split <;> rfl
theorem SS0_11 (k : Nat) : SS0 11 k = 0 := by
  unfold SS0 mkS
  simp only []
  split <;> rfl
theorem SV_S0 : SV SS0 := by
  refine ⟨by decide, by decide, by decide, by decide, fun i hi => ?_, fun r hr => ?_⟩
  · have hi : (i : Int) < 0 := hi
    omega
  · have h := SS0_5 r
    exact ⟨by omega, by omega, fun z => absurd h z, fun z => by omega, fun k hk => by rw [SS0_11]; decide⟩
theorem inv_0 : Inv (Fb stW) mB0 := by
  refine ⟨⟨by rw [absM_0]; exact absC_0, by rw [absM_0]; exact SV_S0, fun r hr h => absurd (show Fb stW (1 + 12) r = 0 from rfl) h, Or.inl rfl⟩, ⟨rfl, by decide, fun k hk => ?_⟩, ⟨rfl, by decide, by decide, fun j hj => ?_⟩, fun k hk => ⟨rfl, Or.inl rfl, fun h => ?_⟩, fun k hk => rfl, fun k hk => rfl⟩
  · have hk : (k : Int) < 0 := hk
    omega
  · have hj : (j : Int) < 0 := hj
    omega
  · have h : (0 : Int) = 1 := h
    omega
