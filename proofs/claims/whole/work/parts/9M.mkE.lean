/-! ===== an array behind rs, on the stack ===== -/
section GE
variable {X : Cg} {R : Room} {κ : Kd} {b : Nat} {fin : List va_E} {pc : Nat} {L : List (Option Value)} {st : List Value} {rs : List va_E} {cn sn : Nat} {cc : ByteArray} {own : String}
theorem g_newaE (hS : StdG X R κ b cc own) {N cn' sn' : Nat} {x0 : va_E} (hN : N ≤ 100000) (hlen : rs.length = cn) (hrc : cn + 1 ≤ R.cells) (hrs : sn + N ≤ R.slots) (hd : decode cc pc = .ok (.newarray .int, 2)) (hcn : cn + 1 = cn') (hsn : sn + N = sn')
    (kk : Sg X R κ b fin (pc + 2) L (.ref (b + (cn + 1)) :: st) (x0 :: (rs ++ [.inl (κ.2.1, N, .inl (ltI []))])) cn' sn') : Sg X R κ b fin pc L (iv (N : Int) :: st) (x0 :: rs) cn sn := by
  subst hcn; subst hsn
  have hl : (x0 :: rs : List va_E).length = cn + 1 := by rw [List.length_cons, hlen]
  refine g_newaI hS arI (wr_id (by omega) (by omega)) hN hl hrc hrs hd ?_
  rw [hl]
  exact kk
theorem g_anewE (hS : StdG X R κ b cc own) {N index cn' sn' : Nat} {x0 : va_E} (h1 : Cond.classLink own index "AutoIndenter$State" ∈ WL) (hN : N ≤ 100000) (hlen : rs.length = cn) (hrc : cn + 1 ≤ R.cells) (hrs : sn + N ≤ R.slots) (hd : decode cc pc = .ok (.anewarray index, 3)) (hcn : cn + 1 = cn') (hsn : sn + N = sn')
    (kk : Sg X R κ b fin (pc + 3) L (.ref (b + (cn + 1)) :: st) (x0 :: (rs ++ (rgC κ b (cn + 2) 0 N :: stasC κ b (cn + 2) 0))) cn' sn') : Sg X R κ b fin pc L (iv (N : Int) :: st) (x0 :: rs) cn sn := by
  subst hcn; subst hsn
  have hl : (x0 :: rs : List va_E).length = cn + 1 := by rw [List.length_cons, hlen]
  refine g_anew hS h1 (wr_id (by omega) (by omega)) hN hl hrc hrs hd ?_
  rw [hl, rg_0 b (cn + 2)]
  exact kk
end GE
