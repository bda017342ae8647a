/-! Both heaps as one; the start; one question of the law. -/
def HZ (G : GM) (h : List va_E) (n : Nat) : Prop := ∃ w m, HW G (fun a => h[a]?) h w ∧ HM G (fun a => h[a]?) h m ∧ hz_R n w m
section HZS
variable {l : Launch} {G : GM} {K : Nat → Option va_E} {h h1 : List va_E} {w w1 : Wd} {m m1 : Md} {n : Nat}
theorem hw_self (hw : HW G K h w) : HW G (fun a => h[a]?) h w := by
  obtain ⟨a, b, c, d, e⟩ := hw
  exact ⟨a, b, c, fun _ _ _ => rfl, e⟩
theorem hm_self (hm : HM G K h m) : HM G (fun a => h[a]?) h m := ⟨hm.1, hm.2.1, fun _ _ => rfl⟩
/-- a call of the class leaves the model -/
theorem hm_mv (hm : HM G K h m) (hw : HW G (fun a => h[a]?) h1 w1) : HM G (fun a => h1[a]?) h1 m := by
  have e : ∀ a, 221 ≤ a → a < 231 → h1[a]? = h[a]? := hw.2.2.2.1
  obtain ⟨⟨c221, c222, c223, c224, c225, c226, c227, c228, c229, c230⟩, hn, -⟩ := hm
  exact ⟨⟨(e 221 (by decide) (by decide)).trans c221, (e 222 (by decide) (by decide)).trans c222, (e 223 (by decide) (by decide)).trans c223, (e 224 (by decide) (by decide)).trans c224, (e 225 (by decide) (by decide)).trans c225, (e 226 (by decide) (by decide)).trans c226, (e 227 (by decide) (by decide)).trans c227, (e 228 (by decide) (by decide)).trans c228, (e 229 (by decide) (by decide)).trans c229, (e 230 (by decide) (by decide)).trans c230⟩, hn, fun _ _ => rfl⟩
/-- a call of the model leaves the class -/
theorem hw_mv (hw : HW G K h w) (hm : HM G (fun a => h[a]?) h1 m1) : HW G (fun a => h1[a]?) h1 w := by
  have e : ∀ a, (a < 221 ∨ 231 ≤ a) → h1[a]? = h[a]? := hm.2.2
  have hl := (List.getElem?_eq_some_iff.mp (hmc230 hm)).1
  obtain ⟨hp, ⟨c0, c1, c2, c4, c53, c54, c215, c216, c217, c218, c219, c220⟩, ⟨b1, b2, b3, b4⟩, -, -⟩ := hw
  refine ⟨fun i hi k hk => ?_, ⟨(e 0 (by decide)).trans c0, (e 2 (by decide)).trans c1, (e 19 (by decide)).trans c2, (e 1 (by decide)).trans c4, (e 53 (by decide)).trans c53, (e 54 (by decide)).trans c54, (e 215 (by decide)).trans c215, (e 216 (by decide)).trans c216, (e 217 (by decide)).trans c217, (e 218 (by decide)).trans c218, (e 219 (by decide)).trans c219, (e 220 (by decide)).trans c220⟩, ⟨(e _ (by omega)).trans b1, b2, b3, b4⟩, fun _ _ _ => rfl, by omega⟩
  rw [e _ (Or.inl (by unfold pb; omega))]
  exact hp i hi k hk
/-- one question: the class is asked, then the model, and the answers are the same -/
def St (l : Launch) (G : GM) (M6 M7 : MD) (As : List Value) (h : List va_E) (n : Nat) : Prop := ∃ (d1 d2 k u : Nat) (Q1 : Option Value → List va_E → Prop), d1 ≤ 21 ∧ d2 ≤ 21 ∧ k ≤ 112 ∧ u ≤ 8004 ∧ Ct l G M6 d1 k u (.ref (gz G + 0) :: As) h Q1 ∧ ∀ v h1, Q1 v h1 → ∃ x, v = some (.int x) ∧ (∃ fs, h1[221]? = some (.inr (8, fs))) ∧ ∃ Q2 : Option Value → List va_E → Prop, Ct l G M7 d2 0 0 (.ref (gz G + 221) :: As) h1 Q2 ∧ ∀ v2 h2, Q2 v2 h2 → v2 = some (.int x) ∧ HZ G h2 (n + 1)
theorem st_mm {M6 M7 : MD} {As : List Value} {F6 : Int32 × Wd} {F7 : Int32 × Md} {d1 d2 : Nat} (hm : HM G (fun a => h[a]?) h m) (h1 : d1 ≤ 21) (h2 : d2 ≤ 21) (C6 : Ct l G M6 d1 0 0 (.ref (gz G + 0) :: As) h (fun v h1 => ∃ r, F6 = r ∧ v = some (.int r.1) ∧ HW G (fun a => h[a]?) h1 r.2)) (C7 : ∀ h1, HM G (fun a => h1[a]?) h1 m → Ct l G M7 d2 0 0 (.ref (gz G + 221) :: As) h1 (fun v h2 => ∃ r, F7 = r ∧ v = some (.int r.1) ∧ HM G (fun a => h1[a]?) h2 r.2)) (he : F6.1 = F7.1) (hR : hz_R (n + 1) F6.2 F7.2) : St l G M6 M7 As h n := by
  refine ⟨d1, d2, 0, 0, _, h1, h2, Nat.zero_le _, Nat.zero_le _, C6, fun v h1 q => ?_⟩
  obtain ⟨r, rfl, rfl, hw1⟩ := q
  have hm1 := hm_mv hm hw1
  refine ⟨F6.1, rfl, ⟨_, hmc221 hm1⟩, _, C7 h1 hm1, fun v2 h2 q2 => ?_⟩
  obtain ⟨r2, rfl, rfl, hm2⟩ := q2
  exact ⟨by rw [he], F6.2, F7.2, hw_mv hw1 hm2, hm_self hm2, hR⟩
theorem st_pp {M6 M7 : MD} {As : List Value} {f6 f7 : Int32} {d1 d2 : Nat} (hw : HW G (fun a => h[a]?) h w) (hm : HM G (fun a => h[a]?) h m) (h1 : d1 ≤ 21) (h2 : d2 ≤ 21) (C6 : Ct l G M6 d1 0 0 (.ref (gz G + 0) :: As) h (fun v h1 => v = some (.int f6) ∧ h1 = h)) (C7 : Ct l G M7 d2 0 0 (.ref (gz G + 221) :: As) h (fun v h1 => v = some (.int f7) ∧ h1 = h)) (he : f7 = f6) (hR : hz_R n w m) : St l G M6 M7 As h n := by
  refine ⟨d1, d2, 0, 0, _, h1, h2, Nat.zero_le _, Nat.zero_le _, C6, fun v h1 q => ?_⟩
  obtain ⟨rfl, rfl⟩ := q
  refine ⟨f6, rfl, ⟨_, hmc221 hm⟩, _, C7, fun v2 h2 q2 => ?_⟩
  obtain ⟨rfl, rfl⟩ := q2
  exact ⟨by rw [he], w, m, hw, hm, hz_Rup hR (by omega)⟩
theorem st_wp (hw : HW G (fun a => h[a]?) h w) (hm : HM G (fun a => h[a]?) h m) (hR : hz_R n w m) : St l G mX6_writePlant mX7_writePlant [] h n := by
  obtain ⟨k, u, Q, hk, hu, hs, C6, hq⟩ := hp_writePlant (l := l) hw hR
  refine ⟨9, 6, k, u, Q, by decide, by decide, hk, hu, C6, fun v h1 q => ?_⟩
  obtain ⟨rfl, w1, hw1, hR1⟩ := hq v h1 q
  have hm1 := hm_mv hm hw1
  refine ⟨_, rfl, ⟨_, hmc221 hm1⟩, _, ctX7_writePlant hm1 hs, fun v2 h2 q2 => ?_⟩
  obtain ⟨r2, rfl, rfl, hm2⟩ := q2
  exact ⟨rfl, w1, _, hw_mv hw1 hm2, hm_self hm2, hz_Rup hR1 (by omega)⟩
theorem st_ob (hw : HW G (fun a => h[a]?) h w) (hm : HM G (fun a => h[a]?) h m) (hR : hz_R n w m) (z : Int32) : St l G mX6_outputByte mX7_outputByte [.int z] h n := by
  obtain ⟨hs, C6⟩ := hp_outputByte (l := l) hw hR z
  exact st_pp hw hm (by decide) (by decide) C6 (ctX7_outputByte hm z hs) rfl hR
end HZS
/-! the start -/
def wz0 : Wd := (fun q => if q = 2 then -1 else 0, fun _ _ => 0, fun _ => plE, fun _ => 0, 0, (20, 16, fun _ => 0))
theorem kp0 (z : Nat) : va_up (va_up (va_up (va_up (va_up (va_up (va_up (va_up (va_up (va_up (fun _ => none) (0 : Int32).toNatClampNeg (some (z + 55))) (1 : Int32).toNatClampNeg (some (z + 71))) (2 : Int32).toNatClampNeg (some (z + 87))) (3 : Int32).toNatClampNeg (some (z + 103))) (4 : Int32).toNatClampNeg (some (z + 119))) (5 : Int32).toNatClampNeg (some (z + 135))) (6 : Int32).toNatClampNeg (some (z + 151))) (7 : Int32).toNatClampNeg (some (z + 167))) (8 : Int32).toNatClampNeg (some (z + 183))) (9 : Int32).toNatClampNeg (some (z + 199)) = kpf z := by
  funext i
  unfold kpf
  by_cases hi : i < 10
  · rw [if_pos hi]
    match i, hi with
    | 0, _ => rfl
    | 1, _ => rfl
    | 2, _ => rfl
    | 3, _ => rfl
    | 4, _ => rfl
    | 5, _ => rfl
    | 6, _ => rfl
    | 7, _ => rfl
    | 8, _ => rfl
    | 9, _ => rfl
    | i + 10, hi => omega
  · rw [if_neg hi]
    unfold va_up
    have e0 : (0 : Int32).toNatClampNeg = 0 := rfl
    have e1 : (1 : Int32).toNatClampNeg = 1 := rfl
    have e2 : (2 : Int32).toNatClampNeg = 2 := rfl
    have e3 : (3 : Int32).toNatClampNeg = 3 := rfl
    have e4 : (4 : Int32).toNatClampNeg = 4 := rfl
    have e5 : (5 : Int32).toNatClampNeg = 5 := rfl
    have e6 : (6 : Int32).toNatClampNeg = 6 := rfl
    have e7 : (7 : Int32).toNatClampNeg = 7 := rfl
    have e8 : (8 : Int32).toNatClampNeg = 8 := rfl
    have e9 : (9 : Int32).toNatClampNeg = 9 := rfl
    rw [if_neg (by omega), if_neg (by omega), if_neg (by omega), if_neg (by omega), if_neg (by omega), if_neg (by omega), if_neg (by omega), if_neg (by omega), if_neg (by omega), if_neg (by omega)]
theorem R_0 {m : Md} (hq : hz_q0 mz0 m) (hP : hz_PR plE (m.2.1 0) 0 0 0 0) : hz_R 0 wz0 m := by
  obtain ⟨q1, q2, q3⟩ := hq
  refine ⟨0, 0, 0, 0, 0, ⟨q3, hP⟩, ⟨Nat.le_refl _, ?_, fun q _ => ?_⟩, Or.inl rfl, ⟨0, 0, by decide, by decide, rfl, rfl, by rw [q1]; rfl, fun i hi => absurd hi (Nat.not_lt_zero i)⟩, ⟨0, by decide, rfl, by rw [q1]; rfl, fun j hj => absurd hj (Nat.not_lt_zero j)⟩, ⟨by rw [q1]; rfl, by rw [q1]; rfl⟩, ⟨0, by decide, ⟨by decide, fun _ => rfl⟩, rfl, by rw [q1]; rfl, fun j hj => absurd hj (Nat.not_lt_zero j)⟩⟩
  · rfl
  · show (lshr 0 20).toInt ≤ (0 : Int)
    decide
set_option maxHeartbeats 1000000 in
theorem hw_0 {G : GM} {h1 h : List va_E} (e : ∀ a, a < 221 → h[a]? = h1[a]?) (hl : 231 ≤ h.length) (c0 : h1[0]? = some (.inr (7, [.ref (gz G + 2), .int 0, .ref (gz G + 19), .ref (gz G + 1), .ref (gz G + 21), .ref (gz G + 37), .ref (gz G + 53), .ref (gz G + 215), .ref (gz G + 219)]))) (c1 : h1[2]? = some (.inl (0, 1200, .inl (fun _ => 0)))) (c2 : h1[19]? = some (.inr (0, [.ref (gz G + 20), .int 0, .int 0, .int 0]))) (c3 : h1[20]? = some (.inl (1, 16, .inl (fun _ => 0)))) (c4 : h1[1]? = some (.inr (5, [.ref (gz G + 3), .int 0, .int (-1), .ref (gz G + 2), .int 0, .int 0, .int 0, .int 0, .int 0, .int 0, .int 0, .int 0]))) (p5 : PlantAt G h1 3 plE) (p21 : PlantAt G h1 21 plE) (p37 : PlantAt G h1 37 plE) (c53 : h1[53]? = some (.inr (2, [.int 0, .int 0, .ref (gz G + 54)]))) (c54 : h1[54]? = some (.inl (3, 10, .inr (.inr (.inr (.inr (va_up (va_up (va_up (va_up (va_up (va_up (va_up (va_up (va_up (va_up (fun _ => none) (0 : Int32).toNatClampNeg (some (gz G + 55))) (1 : Int32).toNatClampNeg (some (gz G + 71))) (2 : Int32).toNatClampNeg (some (gz G + 87))) (3 : Int32).toNatClampNeg (some (gz G + 103))) (4 : Int32).toNatClampNeg (some (gz G + 119))) (5 : Int32).toNatClampNeg (some (gz G + 135))) (6 : Int32).toNatClampNeg (some (gz G + 151))) (7 : Int32).toNatClampNeg (some (gz G + 167))) (8 : Int32).toNatClampNeg (some (gz G + 183))) (9 : Int32).toNatClampNeg (some (gz G + 199))))))))) (p55 : PlantAt G h1 55 plE) (p71 : PlantAt G h1 71 plE) (p87 : PlantAt G h1 87 plE) (p103 : PlantAt G h1 103 plE) (p119 : PlantAt G h1 119 plE) (p135 : PlantAt G h1 135 plE) (p151 : PlantAt G h1 151 plE) (p167 : PlantAt G h1 167 plE) (p183 : PlantAt G h1 183 plE) (p199 : PlantAt G h1 199 plE) (c215 : h1[215]? = some (.inr (3, [.ref (gz G + 216), .ref (gz G + 217), .ref (gz G + 218), .long 0]))) (c216 : h1[216]? = some (.inl (0, 14, .inl (fun _ => 0)))) (c217 : h1[217]? = some (.inl (0, 196, .inl (fun _ => 0)))) (c218 : h1[218]? = some (.inl (2, 8192, .inr (.inl (fun _ => 0))))) (c219 : h1[219]? = some (.inr (4, [.int 0, .int 0, .int 0, .ref (gz G + 220)]))) (c220 : h1[220]? = some (.inl (0, 14, .inl (fun _ => 0)))) : HW G (fun a => h[a]?) h wz0 := by
  rw [kp0] at c54
  have pl : ∀ b, b + 16 ≤ 221 → PlantAt G h1 b plE → PlantAt G h b plE := fun b hb hp k hk => (e _ (by omega)).trans (hp k hk)
  refine ⟨fun i hi => ?_, ⟨(e 0 (by decide)).trans c0, (e 2 (by decide)).trans c1, (e 19 (by decide)).trans c2, (e 1 (by decide)).trans c4, (e 53 (by decide)).trans c53, (e 54 (by decide)).trans c54, (e 215 (by decide)).trans c215, (e 216 (by decide)).trans c216, (e 217 (by decide)).trans c217, (e 218 (by decide)).trans c218, (e 219 (by decide)).trans c219, (e 220 (by decide)).trans c220⟩, ⟨(e 20 (by decide)).trans c3, Or.inl rfl, by decide, by decide⟩, fun _ _ _ => rfl, hl⟩
  match i, hi with
  | 0, _ => exact pl 3 (by decide) p5
  | 1, _ => exact pl 21 (by decide) p21
  | 2, _ => exact pl 37 (by decide) p37
  | 3, _ => exact pl 55 (by decide) p55
  | 4, _ => exact pl 71 (by decide) p71
  | 5, _ => exact pl 87 (by decide) p87
  | 6, _ => exact pl 103 (by decide) p103
  | 7, _ => exact pl 119 (by decide) p119
  | 8, _ => exact pl 135 (by decide) p135
  | 9, _ => exact pl 151 (by decide) p151
  | 10, _ => exact pl 167 (by decide) p167
  | 11, _ => exact pl 183 (by decide) p183
  | 12, _ => exact pl 199 (by decide) p199
  | i + 13, hi => omega
theorem hz_0 {G : GM} {h1 h2 h : List va_E} {c : va_E} {m : Md} (e2 : h2 = h1 ++ [c]) (hl1 : h1.length = 221) (c0 : h1[0]? = some (.inr (7, [.ref (gz G + 2), .int 0, .ref (gz G + 19), .ref (gz G + 1), .ref (gz G + 21), .ref (gz G + 37), .ref (gz G + 53), .ref (gz G + 215), .ref (gz G + 219)]))) (c1 : h1[2]? = some (.inl (0, 1200, .inl (fun _ => 0)))) (c2 : h1[19]? = some (.inr (0, [.ref (gz G + 20), .int 0, .int 0, .int 0]))) (c3 : h1[20]? = some (.inl (1, 16, .inl (fun _ => 0)))) (c4 : h1[1]? = some (.inr (5, [.ref (gz G + 3), .int 0, .int (-1), .ref (gz G + 2), .int 0, .int 0, .int 0, .int 0, .int 0, .int 0, .int 0, .int 0]))) (p5 : PlantAt G h1 3 plE) (p21 : PlantAt G h1 21 plE) (p37 : PlantAt G h1 37 plE) (c53 : h1[53]? = some (.inr (2, [.int 0, .int 0, .ref (gz G + 54)]))) (c54 : h1[54]? = some (.inl (3, 10, .inr (.inr (.inr (.inr (va_up (va_up (va_up (va_up (va_up (va_up (va_up (va_up (va_up (va_up (fun _ => none) (0 : Int32).toNatClampNeg (some (gz G + 55))) (1 : Int32).toNatClampNeg (some (gz G + 71))) (2 : Int32).toNatClampNeg (some (gz G + 87))) (3 : Int32).toNatClampNeg (some (gz G + 103))) (4 : Int32).toNatClampNeg (some (gz G + 119))) (5 : Int32).toNatClampNeg (some (gz G + 135))) (6 : Int32).toNatClampNeg (some (gz G + 151))) (7 : Int32).toNatClampNeg (some (gz G + 167))) (8 : Int32).toNatClampNeg (some (gz G + 183))) (9 : Int32).toNatClampNeg (some (gz G + 199))))))))) (p55 : PlantAt G h1 55 plE) (p71 : PlantAt G h1 71 plE) (p87 : PlantAt G h1 87 plE) (p103 : PlantAt G h1 103 plE) (p119 : PlantAt G h1 119 plE) (p135 : PlantAt G h1 135 plE) (p151 : PlantAt G h1 151 plE) (p167 : PlantAt G h1 167 plE) (p183 : PlantAt G h1 183 plE) (p199 : PlantAt G h1 199 plE) (c215 : h1[215]? = some (.inr (3, [.ref (gz G + 216), .ref (gz G + 217), .ref (gz G + 218), .long 0]))) (c216 : h1[216]? = some (.inl (0, 14, .inl (fun _ => 0)))) (c217 : h1[217]? = some (.inl (0, 196, .inl (fun _ => 0)))) (c218 : h1[218]? = some (.inl (2, 8192, .inr (.inl (fun _ => 0))))) (c219 : h1[219]? = some (.inr (4, [.int 0, .int 0, .int 0, .ref (gz G + 220)]))) (c220 : h1[220]? = some (.inl (0, 14, .inl (fun _ => 0)))) (hm : HM G (kz0 h2) h m) (hq : hz_q0 mz0 m) (hP : ∀ p, hz_PR (fX5_makeEmpty p) (m.2.1 0) 0 0 0 0) : HZ G h 0 := by
  have e : ∀ a, a < 221 → h[a]? = h1[a]? := fun a ha => by
    rw [hm.2.2 a (Or.inl ha)]
    unfold kz0
    rw [if_pos ha, e2, List.getElem?_append_left (by omega)]
  have hl := (List.getElem?_eq_some_iff.mp (hmc230 hm)).1
  exact ⟨wz0, m, hw_0 e (by omega) c0 c1 c2 c3 c4 p5 p21 p37 c53 c54 p55 p71 p87 p103 p119 p135 p151 p167 p183 p199 c215 c216 c217 c218 c219 c220, hm_self hm, R_0 hq (hP plz)⟩
