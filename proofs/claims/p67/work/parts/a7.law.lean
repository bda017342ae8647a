/-! The law from its first place to its last. -/
section LAW
variable {l : Launch} {G : GM}
set_option maxRecDepth 20000 in
theorem ctL_law (hL : gL G ≤ 260) : Ct l G mL_law 23 3200 3400000 [.ref (gB G)] [] (fun v _ => v = some (.int 1)) := by
  show Tr l G mL_law 23 3200 3400000 0 [(0, .ref (gB G))] [] [] _
  refine am_room (k1 := 0 + 18 + 30 + 250 + 400 + 1900 + 600) (u1 := 0 + 12420 + 20700 + 30000 + 260000 + 2700000 + 340000) ?_ (by decide) (by decide)
  refine sg_A (k0 := 0 + 18 + 30 + 250 + 400 + 1900) (u0 := 0 + 12420 + 20700 + 30000 + 260000 + 2700000) hL (Nat.le_refl _) (fun h1 w1 m o1 D1 t1 => ?_)
  refine sg_B (k0 := 0 + 18 + 30 + 250 + 400) (u0 := 0 + 12420 + 20700 + 30000 + 260000) hL (Nat.le_refl _) o1 D1 t1 (fun h2 w2 a b o2 D2 => ?_)
  refine sg_C (Nat.le_refl _) o2 D2 (fun h3 w3 o3 D3 => ?_)
  refine sg_D hL (Nat.le_refl _) o3 D3 (fun h4 w4 k7 bs o4 C4 => ?_)
  refine sg_E hL (Nat.le_refl _) o4 C4 (fun h5 w5 o5 C5 => ?_)
  refine sg_F hL (Nat.le_refl _) o5 C5 (fun h6 w6 bd o6 C6 A6 => ?_)
  refine sg_G (k0 := 0 + 18 + 30 + 250) (u0 := 0 + 12420 + 20700 + 30000) hL (Nat.le_refl _) o6 C6 A6 (fun h7 w7 o7 C7 => ?_)
  refine sg_H (Nat.le_refl _) o7 C7 (fun h8 w8 tl ts o8 C8 x1 x2 x3 x4 => ?_)
  refine sg_I hL (Nat.le_refl _) o8 C8 x1 x2 x3 x4 (fun h9 w9 o9 C9 => ?_)
  refine sg_J (Nat.le_refl _) o9 C9 (fun h10 w10 o10 C10 => ?_)
  refine sg_K hL (Nat.le_refl _) o10 C10 (fun h11 w11 o11 C11 => ?_)
  refine sg_L1 (k0 := 0 + 18 + 30) (u0 := 0 + 12420 + 20700) (Nat.le_refl _) (fun h12 w12 B o12 E12 => ?_)
  refine sg_L2 (k0 := 0 + 18) (u0 := 0 + 12420) (Nat.le_refl _) o12 E12 (fun h13 w13 o13 E13 => ?_)
  exact sg_L3 (k0 := 0) (u0 := 0) (Nat.le_refl _) o13 E13 (fun _ => rfl)
end LAW
