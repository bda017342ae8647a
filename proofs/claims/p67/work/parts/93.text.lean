/-! The drawn plant; the law's text of it is the one that the class writes. -/
def Ps (G : GM) : Pl := (fun k => match k with
  | 0 => nI (1 + dw G 2 2)
  | 1 => nI (1 + dw G 1 3)
  | 2 => nI 2
  | 3 => nI (dw G 4 60)
  | 4 => nI (dw G 5 9)
  | 5 => nI (stD G)
  | 6 => nI (1 + dw G 6 3)
  | 7 => nI 0
  | 8 => nI (dw G 0 9)
  | _ => nI 0,
  fun r i => match r with
  | 0 => nI (801 + i)
  | 1 => nI (1 + dw G (14 + i) 60)
  | 2 => nI (dw G (17 + i) 51)
  | 3 => nI (609 + i)
  | 4 => nI (700 + dw G (10 + i) 300)
  | 5 => if i = 0 then nI 20350348 else nI 12634341
  | 6 => if i = 0 then nI 500 else nI (700 + dw G 8 100)
  | 7 => if i = 0 then nI (700 + dw G 7 100) else nI 9999
  | 8 => nI (dw G (30 + 4 * i) (1 + dw G 2 2))
  | 9 => nI (dw G (31 + 4 * i) 4 % 3)
  | 10 => nI (650 + dw G (32 + 4 * i) 60)
  | 11 => nI (650 + dw G (32 + 4 * i) 60)
  | 12 => nI (100 + dw G (33 + 4 * i) 12)
  | _ => nI 0)
theorem nm_y : ∀ i, i < 2 → nmB (nI (801 + i)) = [nI 121, nI (97 + i)] := by decide +kernel
theorem nm_s : ∀ i, i < 3 → nmB (nI (609 + i)) = [nI 115, nI (97 + i)] := by decide +kernel
theorem nm_z0 : nmB (nI 20350348) = [nI 115, nI 109, nI 97, nI 108, nI 108] := by decide +kernel
theorem nm_z1 : nmB (nI 12634341) = [nI 108, nI 97, nI 114, nI 103, nI 101] := by decide +kernel
theorem fm_c {f g : Nat → List Int32} : ∀ (n a : Nat), (∀ i, a ≤ i → i < a + n → f i = g i) → (List.range' a n).flatMap f = (List.range' a n).flatMap g := by
  intro n
  induction n with
  | zero => intro a h; rfl
  | succ n ih =>
    intro a h
    rw [List.range'_succ, List.flatMap_cons, List.flatMap_cons, h a (Nat.le_refl _) (by omega), ih (a + 1) (fun i h1 h2 => h i (by omega) (by omega))]
section LPT
variable (G : GM)
theorem lh_eq : lhB G = hdB (Ps G) := by
  have e4 := dw_lt G 4 (n := 60) (by decide)
  have e5 := dw_lt G 5 (n := 9) (by decide)
  have e6 := dw_lt G 6 (n := 3) (by decide)
  have e3 := stD_le G
  unfold lhB hdB
  rw [show ((Ps G).1 3).toNatClampNeg = dw G 4 60 from nI_clamp (by omega), show ((Ps G).1 4).toNatClampNeg = dw G 5 9 from nI_clamp (by omega), show ((Ps G).1 5).toNatClampNeg = stD G from nI_clamp (by omega), show ((Ps G).1 6).toNatClampNeg = 1 + dw G 6 3 from nI_clamp (by omega)]
  simp only [List.append_assoc]
  rfl
theorem ly_eq {i : Nat} (hi : i < 2) : lyB G i = yB (Ps G) i := by
  have e1 := dw_lt G (14 + i) (n := 60) (by decide)
  have e2 := dw_lt G (17 + i) (n := 51) (by decide)
  unfold lyB yB
  rw [show ((Ps G).2 1 i).toNatClampNeg = 1 + dw G (14 + i) 60 from nI_clamp (by omega), show ((Ps G).2 2 i).toNatClampNeg = dw G (17 + i) 51 from nI_clamp (by omega), show nmB ((Ps G).2 0 i) = [nI 121, nI (97 + i)] from nm_y i hi]
  simp only [List.append_assoc]
  rfl
theorem ls_eq {i : Nat} (hi : i < 3) : lsB G i = sB (Ps G) i := by
  have e1 := dw_lt G (10 + i) (n := 300) (by decide)
  unfold lsB sB
  rw [show ((Ps G).2 4 i).toNatClampNeg = 700 + dw G (10 + i) 300 from nI_clamp (by omega), show nmB ((Ps G).2 3 i) = [nI 115, nI (97 + i)] from nm_s i hi]
  simp only [List.append_assoc]
  rfl
theorem lp_eq (i : Nat) : lpB G i = pcB (Ps G) i := by
  have hy := dw_lt G 2 (n := 2) (by decide)
  have e0 := dw_lt G (30 + 4 * i) (n := 1 + dw G 2 2) (by omega)
  have e1 : dw G (31 + 4 * i) 4 % 3 < 3 := Nat.mod_lt _ (by decide)
  have e2 := dw_lt G (32 + 4 * i) (n := 60) (by decide)
  have e3 := dw_lt G (33 + 4 * i) (n := 12) (by decide)
  unfold lpB pcB
  rw [show ((Ps G).2 8 i).toNatClampNeg = dw G (30 + 4 * i) (1 + dw G 2 2) from nI_clamp (by omega), show ((Ps G).2 9 i).toNatClampNeg = dw G (31 + 4 * i) 4 % 3 from nI_clamp (by omega), show ((Ps G).2 10 i).toNatClampNeg = 650 + dw G (32 + 4 * i) 60 from nI_clamp (by omega), show ((Ps G).2 12 i).toNatClampNeg = 100 + dw G (33 + 4 * i) 12 from nI_clamp (by omega), show nmB ((Ps G).2 0 (dw G (30 + 4 * i) (1 + dw G 2 2))) = [nI 121, nI (97 + dw G (30 + 4 * i) (1 + dw G 2 2))] from nm_y _ (by omega)]
  simp only [List.append_assoc]
  rfl
theorem lz_eq (T : List Int32) : lzB G T = T ++ (List.range' 0 2).flatMap (zB (Ps G)) := by
  have e7 := dw_lt G 7 (n := 100) (by decide)
  have e8 := dw_lt G 8 (n := 100) (by decide)
  rw [show (List.range' 0 2).flatMap (zB (Ps G)) = zB (Ps G) 0 ++ zB (Ps G) 1 by show zB (Ps G) 0 ++ (zB (Ps G) 1 ++ []) = _; rw [List.append_nil]]
  unfold lzB zB
  rw [show ((Ps G).2 6 0).toNatClampNeg = 500 from nI_clamp (by decide), show ((Ps G).2 7 0).toNatClampNeg = 700 + dw G 7 100 from nI_clamp (by omega), show ((Ps G).2 6 1).toNatClampNeg = 700 + dw G 8 100 from nI_clamp (by omega), show ((Ps G).2 7 1).toNatClampNeg = 9999 from nI_clamp (by decide), show nmB ((Ps G).2 5 0) = [nI 115, nI 109, nI 97, nI 108, nI 108] from nm_z0, show nmB ((Ps G).2 5 1) = [nI 108, nI 97, nI 114, nI 103, nI 101] from nm_z1, show numB 500 = [nI 53, nI 48, nI 48] by decide +kernel, show numB 9999 = [nI 57, nI 57, nI 57, nI 57] by decide +kernel]
  simp only [List.append_assoc]
  rfl
theorem lpT_eq : lpT G = wtB (Ps G) (1 + dw G 2 2) (1 + dw G 1 3) 2 (dw G 0 9) := by
  have n2 := dw_lt G 2 (n := 2) (by decide)
  have n1 := dw_lt G 1 (n := 3) (by decide)
  unfold lpT wtB ctB
  rw [lz_eq, lh_eq, fm_c _ _ (fun i h1 h2 => ly_eq G (i := i) (by omega)), fm_c _ _ (fun i h1 h2 => ls_eq G (i := i) (by omega)), fm_c _ _ (fun i h1 h2 => lp_eq G i)]
  simp only [List.append_assoc]
end LPT
