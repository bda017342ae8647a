/-! A new object. -/
def wz0 : Wd := (fun q => if q = 2 then -1 else 0, fun _ _ => 0, fun _ => plE, fun _ => 0, 0, (20, 16, fun _ => 0))
theorem kp0 (z : Nat) : va_up (va_up (va_up (va_up (va_up (va_up (va_up (va_up (va_up (va_up (fun _ => none) (0 : Int32).toNatClampNeg (some (z + 55))) (1 : Int32).toNatClampNeg (some (z + 71))) (2 : Int32).toNatClampNeg (some (z + 87))) (3 : Int32).toNatClampNeg (some (z + 103))) (4 : Int32).toNatClampNeg (some (z + 119))) (5 : Int32).toNatClampNeg (some (z + 135))) (6 : Int32).toNatClampNeg (some (z + 151))) (7 : Int32).toNatClampNeg (some (z + 167))) (8 : Int32).toNatClampNeg (some (z + 183))) (9 : Int32).toNatClampNeg (some (z + 199)) = kpf z := by
  funext i
  unfold kpf
  by_cases hi : i < 10
  · rw [if_pos hi]
    match i, hi with
    | 0, _ => rfl
    | 1, _ => rfl
    | 2, _ => rfl
    | 3, _ => rfl
    | 4, _ => rfl
    | 5, _ => rfl
    | 6, _ => rfl
    | 7, _ => rfl
    | 8, _ => rfl
    | 9, _ => rfl
    | i + 10, hi => omega
  · rw [if_neg hi]
    unfold va_up
    have e0 : (0 : Int32).toNatClampNeg = 0 := rfl
    have e1 : (1 : Int32).toNatClampNeg = 1 := rfl
    have e2 : (2 : Int32).toNatClampNeg = 2 := rfl
    have e3 : (3 : Int32).toNatClampNeg = 3 := rfl
    have e4 : (4 : Int32).toNatClampNeg = 4 := rfl
    have e5 : (5 : Int32).toNatClampNeg = 5 := rfl
    have e6 : (6 : Int32).toNatClampNeg = 6 := rfl
    have e7 : (7 : Int32).toNatClampNeg = 7 := rfl
    have e8 : (8 : Int32).toNatClampNeg = 8 := rfl
    have e9 : (9 : Int32).toNatClampNeg = 9 := rfl
    rw [if_neg (by omega), if_neg (by omega), if_neg (by omega), if_neg (by omega), if_neg (by omega), if_neg (by omega), if_neg (by omega), if_neg (by omega), if_neg (by omega), if_neg (by omega)]
set_option maxHeartbeats 1000000 in
theorem hw_0 {G : GM} {h1 h : List va_E} (e : ∀ a, a < 221 → h[a]? = h1[a]?) (hl : 221 ≤ h.length) (c0 : h1[0]? = some (.inr (7, [.ref (gz G + 2), .int 0, .ref (gz G + 19), .ref (gz G + 1), .ref (gz G + 21), .ref (gz G + 37), .ref (gz G + 53), .ref (gz G + 215), .ref (gz G + 219)]))) (c1 : h1[2]? = some (.inl (0, 1200, .inl (fun _ => 0)))) (c2 : h1[19]? = some (.inr (0, [.ref (gz G + 20), .int 0, .int 0, .int 0]))) (c3 : h1[20]? = some (.inl (1, 16, .inl (fun _ => 0)))) (c4 : h1[1]? = some (.inr (5, [.ref (gz G + 3), .int 0, .int (-1), .ref (gz G + 2), .int 0, .int 0, .int 0, .int 0, .int 0, .int 0, .int 0, .int 0]))) (p5 : PlantAt G h1 3 plE) (p21 : PlantAt G h1 21 plE) (p37 : PlantAt G h1 37 plE) (c53 : h1[53]? = some (.inr (2, [.int 0, .int 0, .ref (gz G + 54)]))) (c54 : h1[54]? = some (.inl (3, 10, .inr (.inr (.inr (.inr (va_up (va_up (va_up (va_up (va_up (va_up (va_up (va_up (va_up (va_up (fun _ => none) (0 : Int32).toNatClampNeg (some (gz G + 55))) (1 : Int32).toNatClampNeg (some (gz G + 71))) (2 : Int32).toNatClampNeg (some (gz G + 87))) (3 : Int32).toNatClampNeg (some (gz G + 103))) (4 : Int32).toNatClampNeg (some (gz G + 119))) (5 : Int32).toNatClampNeg (some (gz G + 135))) (6 : Int32).toNatClampNeg (some (gz G + 151))) (7 : Int32).toNatClampNeg (some (gz G + 167))) (8 : Int32).toNatClampNeg (some (gz G + 183))) (9 : Int32).toNatClampNeg (some (gz G + 199))))))))) (p55 : PlantAt G h1 55 plE) (p71 : PlantAt G h1 71 plE) (p87 : PlantAt G h1 87 plE) (p103 : PlantAt G h1 103 plE) (p119 : PlantAt G h1 119 plE) (p135 : PlantAt G h1 135 plE) (p151 : PlantAt G h1 151 plE) (p167 : PlantAt G h1 167 plE) (p183 : PlantAt G h1 183 plE) (p199 : PlantAt G h1 199 plE) (c215 : h1[215]? = some (.inr (3, [.ref (gz G + 216), .ref (gz G + 217), .ref (gz G + 218), .long 0]))) (c216 : h1[216]? = some (.inl (0, 14, .inl (fun _ => 0)))) (c217 : h1[217]? = some (.inl (0, 196, .inl (fun _ => 0)))) (c218 : h1[218]? = some (.inl (2, 8192, .inr (.inl (fun _ => 0))))) (c219 : h1[219]? = some (.inr (4, [.int 0, .int 0, .int 0, .ref (gz G + 220)]))) (c220 : h1[220]? = some (.inl (0, 14, .inl (fun _ => 0)))) : HW G K0 h wz0 := by
  rw [kp0] at c54
  have pl : ∀ b, b + 16 ≤ 221 → PlantAt G h1 b plE → PlantAt G h b plE := fun b hb hp k hk => (e _ (by omega)).trans (hp k hk)
  refine ⟨fun i hi => ?_, ⟨(e 0 (by decide)).trans c0, (e 2 (by decide)).trans c1, (e 19 (by decide)).trans c2, (e 1 (by decide)).trans c4, (e 53 (by decide)).trans c53, (e 54 (by decide)).trans c54, (e 215 (by decide)).trans c215, (e 216 (by decide)).trans c216, (e 217 (by decide)).trans c217, (e 218 (by decide)).trans c218, (e 219 (by decide)).trans c219, (e 220 (by decide)).trans c220⟩, ⟨(e 20 (by decide)).trans c3, Or.inl rfl, by decide, by decide⟩, fun _ _ _ hq => (by cases hq), hl⟩
  match i, hi with
  | 0, _ => exact pl 3 (by decide) p5
  | 1, _ => exact pl 21 (by decide) p21
  | 2, _ => exact pl 37 (by decide) p37
  | 3, _ => exact pl 55 (by decide) p55
  | 4, _ => exact pl 71 (by decide) p71
  | 5, _ => exact pl 87 (by decide) p87
  | 6, _ => exact pl 103 (by decide) p103
  | 7, _ => exact pl 119 (by decide) p119
  | 8, _ => exact pl 135 (by decide) p135
  | 9, _ => exact pl 151 (by decide) p151
  | 10, _ => exact pl 167 (by decide) p167
  | 11, _ => exact pl 183 (by decide) p183
  | 12, _ => exact pl 199 (by decide) p199
  | i + 13, hi => omega
/-- the row of a new plant -/
def fE : Nat → Int32 := fun j => if j = 0 then 30 else if j = 1 then 6 else if j = 2 then 60 else if j = 3 then 2 else 0
theorem ci_0 : CI 0 wz0 fE 0 0 0 0 := by
  refine ⟨hz_clP plz rfl rfl rfl rfl (fun j h1 h2 => ?_), ⟨0, Nat.le_refl _, rfl, fun q _ => ?_⟩, Or.inl rfl, ⟨0, 0, by decide, by decide, rfl, rfl, fun i hi => absurd hi (Nat.not_lt_zero i)⟩, 0, by decide, rfl⟩
  · unfold fE
    rw [if_neg (by omega), if_neg (by omega), if_neg (by omega), if_neg (by omega)]
  · show (lshr 0 20).toInt ≤ (0 : Int)
    decide
theorem fg_0 (g : Nat → Int32) : Fg 0 g wz0 := ⟨rfl, fun j hj => absurd hj (Nat.not_lt_zero _)⟩
theorem om_init {l : Launch} {G : GM} {h : List va_E} {B : Nat} (hl : h.length = B + 1) (hc : h[B]? = some (.inr (7, [.null, .int 0, .null, .null, .null, .null, .null, .null, .null]))) : Cm l G mX6_init 4 220 11749 [.ref (gz G + B)] h (fun v h1 => v = none ∧ h1.length = B + 221 ∧ (∀ a, a < B → h1[a]? = h[a]?) ∧ OB G h1 B wz0) := by
  have hB : B ≤ h.length := by omega
  have d1 : (h.drop B).length = 1 := by rw [List.length_drop, hl]; omega
  have d2 : (h.drop B)[0]? = some (.inr (7, [.null, .int 0, .null, .null, .null, .null, .null, .null, .null])) := by rw [List.getElem?_drop]; exact hc
  have c := (ctX6_init (l := l) (G := GS G B) d1 d2).m kCX6_init
  refine (Cm.shift hB c).post (fun v h1 hq => ?_)
  obtain ⟨h2, rfl, rfl, n1, -, c0, c1, c2, c3, c4, p5, p21, p37, c53, c54, p55, p71, p87, p103, p119, p135, p151, p167, p183, p199, c215, c216, c217, c218, c219, c220⟩ := hq
  have ht : (h.take B).length = B := by rw [List.length_take]; omega
  refine ⟨rfl, by rw [List.length_append, ht, n1], fun a ha => ?_, by rw [List.length_append, ht]; omega, ?_⟩
  · exact td_lo hB ha
  · rw [td_drop hB]
    exact hw_0 (fun _ _ => rfl) (by omega) c0 c1 c2 c3 c4 p5 p21 p37 c53 c54 p55 p71 p87 p103 p119 p135 p151 p167 p183 p199 c215 c216 c217 c218 c219 c220
