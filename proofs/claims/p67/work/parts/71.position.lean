/-! Reading: without an error the position stays. -/
def pzC (w : Wd) : Prop := w.1 1 = 0 → w.1 2 = -1
def pzM (m : Md) : Prop := m.1 9 = 0 → m.1 10 = -1
theorem pz_A {w : Wd} (h : pzC w) : pzC (fX4_advance w) := by
  obtain ⟨h1, -⟩ := hz_fwA w
  unfold pzC
  rw [h1 1 (by decide) (by decide) (by decide) (by decide), h1 2 (by decide) (by decide) (by decide) (by decide)]
  exact h
theorem pz_R {w : Wd} (h : pzC w) {z : Int32} (hz : ¬ z = 0) : pzC (fX4_refuse w z) := by
  unfold fX4_refuse
  by_cases c : w.1 1 = 0
  · rw [if_pos c]; exact fun h2 => absurd h2 hz
  · rw [if_neg c]; exact h
theorem pz_RA {w : Wd} (h : pzC w) {z : Int32} (hz : ¬ z = 0) : pzC (fX4_advance (fX4_refuse w z)) := pz_A (pz_R h hz)
theorem pz_N {w : Wd} (h : pzC w) (a b : Int32) : pzC (fX4_readNumber w a b).2 := by
  unfold fX4_readNumber
  simp only [hz_bnd]
  by_cases c1 : w.1 4 = 2
  · rw [if_pos c1]
    by_cases c2 : fX6_isBetween (w.1 7) a b = 0
    · rw [if_pos c2]; exact pz_RA h (by decide)
    · rw [if_neg c2]; exact pz_A h
  · rw [if_neg c1]; exact pz_RA h (by decide)
theorem pz_S {w : Wd} (h : pzC w) (a : Int32) {b : Int32} (hb : ¬ b = 0) : pzC (fX4_startStatement w a b) := by
  unfold fX4_startStatement
  simp only [hz_bid]
  simp only [hz_bnd]
  by_cases c1 : a = 0
  · rw [if_pos c1]; exact pz_A h
  · rw [if_neg c1]; exact pz_RA h hb
theorem pz_E {w : Wd} (h : pzC w) : pzC (fX4_endStatement w) := by
  unfold fX4_endStatement
  simp only [hz_bid]
  simp only [hz_bnd]
  by_cases c1 : w.1 4 = 3
  · rw [if_pos c1]
    by_cases c2 : fX6_at 1200 (w.2.1 0) (w.1 5) = 59
    · rw [if_pos c2]; exact pz_A h
    · rw [if_neg c2]; exact pz_RA h (by decide)
  · rw [if_neg c1]; exact pz_RA h (by decide)
theorem pz_T7 {w : Wd} (h : pzC w) (x c : Int32) : pzC (fX4_takeNewName_7 w x c).2 := by
  unfold fX4_takeNewName_7
  simp only [hz_bnd]
  by_cases c1 : x = -1
  · rw [if_pos c1]; exact pz_RA h (by decide)
  · rw [if_neg c1]
    by_cases c2 : fX6_indexOfName 6 ((w.2.2.1 0).2 0) c x = -1
    · rw [if_pos c2]; exact pz_A h
    · rw [if_neg c2]; exact pz_RA h (by decide)
theorem pz_T10 {w : Wd} (h : pzC w) (x c : Int32) : pzC (fX4_takeNewName_10 w x c).2 := by
  unfold fX4_takeNewName_10
  simp only [hz_bnd]
  by_cases c1 : x = -1
  · rw [if_pos c1]; exact pz_RA h (by decide)
  · rw [if_neg c1]
    by_cases c2 : fX6_indexOfName 8 ((w.2.2.1 0).2 3) c x = -1
    · rw [if_pos c2]; exact pz_A h
    · rw [if_neg c2]; exact pz_RA h (by decide)
theorem pz_T12 {w : Wd} (h : pzC w) (x c : Int32) : pzC (fX4_takeNewName_12 w x c).2 := by
  unfold fX4_takeNewName_12
  simp only [hz_bnd]
  by_cases c1 : x = -1
  · rw [if_pos c1]; exact pz_RA h (by decide)
  · rw [if_neg c1]
    by_cases c2 : fX6_indexOfName 6 ((w.2.2.1 0).2 5) c x = -1
    · rw [if_pos c2]; exact pz_A h
    · rw [if_neg c2]; exact pz_RA h (by decide)
theorem pz_KY {w : Wd} (h : pzC w) (x : Int32) : pzC (fX4_takeKnownYarn_6 w x).2 := by
  unfold fX4_takeKnownYarn_6
  simp only [hz_bnd]
  by_cases c1 : x = -1
  · rw [if_pos c1]; exact pz_RA h (by decide)
  · rw [if_neg c1]
    by_cases c2 : fX6_indexOfName 6 ((w.2.2.1 0).2 0) ((w.2.2.1 0).1 0) x = -1
    · rw [if_pos c2]; exact pz_RA h (by decide)
    · rw [if_neg c2]; exact pz_A h
theorem pz_K {w : Wd} (h : pzC w) : pzC (fX4_readKind w).2 := by
  unfold fX4_readKind
  simp only [hz_bnd]
  by_cases c1 : fX4_spells w sq8 = 0
  · rw [if_pos c1]
    by_cases c2 : fX4_spells w sq9 = 0
    · rw [if_pos c2]
      by_cases c3 : fX4_spells w sq7 = 0
      · rw [if_pos c3]; exact pz_RA h (by decide)
      · rw [if_neg c3]; exact pz_A h
    · rw [if_neg c2]; exact pz_A h
  · rw [if_neg c1]; exact pz_A h
theorem pz_X {w : Wd} (h : pzC w) : pzC (fX4_readTimes w).2 := by
  unfold fX4_readTimes
  simp only [hz_bnd]
  have hA := pz_A h
  generalize fX4_advance w = r4 at *
  by_cases c1 : r4.1 4 = 2
  · rw [if_pos c1]
    by_cases c2 : fX6_isBetween (r4.1 7) 1 14 = 0
    · rw [if_pos c2]; exact pz_N hA 1 14
    · rw [if_neg c2]
      by_cases c3 : ((r4.2.2.1 0).1 8) + (r4.1 7) ≤ 14
      · rw [if_pos c3]; exact pz_N hA 1 14
      · rw [if_neg c3]; exact pz_N (pz_R hA (by decide)) 1 14
  · rw [if_neg c1]; exact pz_N hA 1 14
theorem pz_Xt {w : Wd} (h : pzC w) : pzC (hz_xt w).2 := by
  unfold hz_xt
  by_cases c : fX4_spells w sq10 = 0
  · rw [if_pos c]; exact h
  · rw [if_neg c]; exact pz_X h
theorem pz_same {w w1 : Wd} (h : pzC w) (e1 : w1.1 1 = w.1 1) (e2 : w1.1 2 = w.1 2) : pzC w1 := by
  unfold pzC
  rw [e1, e2]
  exact h
theorem pz_stY {w : Wd} (h : pzC w) : pzC (fX4_readYarn_6 w) := by
  rw [hz_rY w _ _ _ _ _ rfl rfl rfl rfl rfl]
  have h5 := pz_E (pz_N (pz_N (pz_T7 (pz_S h (if ((w.2.2.1 0).1 0) < 6 then 0 else 1) (b := 5) (by decide)) (fX4_nameHere (fX4_startStatement w (if ((w.2.2.1 0).1 0) < 6 then 0 else 1) 5)) (((fX4_startStatement w (if ((w.2.2.1 0).1 0) < 6 then 0 else 1) 5).2.2.1 0).1 0)) 1 100) 0 50)
  generalize fX4_endStatement _ = r32 at *
  by_cases c : r32.1 1 = 0
  · rw [if_pos c]
    simp only [hz_bnd]
    exact pz_same h5 rfl rfl
  · rw [if_neg c]; exact h5
theorem pz_stS {w : Wd} (h : pzC w) : pzC (fX4_readShape_6 w) := by
  rw [hz_rS w _ _ _ _ rfl rfl rfl rfl]
  have h5 := pz_E (pz_N (pz_T10 (pz_S h (if ((w.2.2.1 0).1 1) < 8 then 0 else 1) (b := 5) (by decide)) (fX4_nameHere (fX4_startStatement w (if ((w.2.2.1 0).1 1) < 8 then 0 else 1) 5)) (((fX4_startStatement w (if ((w.2.2.1 0).1 1) < 8 then 0 else 1) 5).2.2.1 0).1 1)) 500 9999)
  generalize fX4_endStatement _ = r32 at *
  by_cases c : r32.1 1 = 0
  · rw [if_pos c]
    simp only [hz_bnd]
    exact pz_same h5 rfl rfl
  · rw [if_neg c]; exact h5
theorem pz_stZ {w : Wd} (h : pzC w) : pzC (fX4_readSize_6 w) := by
  obtain ⟨r5, e5⟩ : ∃ r, fX4_startStatement w (if ((w.2.2.1 0).1 2) < 6 then 0 else 1) 5 = r := ⟨_, rfl⟩
  obtain ⟨r14, e14⟩ : ∃ r, fX4_takeNewName_12 r5 (fX4_nameHere r5) ((r5.2.2.1 0).1 2) = r := ⟨_, rfl⟩
  obtain ⟨r20, e20⟩ : ∃ r, fX4_readNumber r14.2 500 9999 = r := ⟨_, rfl⟩
  obtain ⟨r26, e26⟩ : ∃ r, fX4_readNumber r20.2 r20.1 9999 = r := ⟨_, rfl⟩
  obtain ⟨r32, e32⟩ : ∃ r, fX4_endStatement r26.2 = r := ⟨_, rfl⟩
  have p5 : pzC r5 := e5 ▸ pz_S h _ (by decide)
  have p14 : pzC r14.2 := e14 ▸ pz_T12 p5 _ _
  have p20 : pzC r20.2 := e20 ▸ pz_N p14 _ _
  have p26 : pzC r26.2 := e26 ▸ pz_N p20 _ _
  have h5 : pzC r32 := e32 ▸ pz_E p26
  rw [hz_rZ w r5 r32 r14 r20 r26 e5 e14 e20 e26 e32]
  by_cases c : r32.1 1 = 0
  · rw [if_pos c]
    simp only [hz_bnd]
    exact pz_same h5 rfl rfl
  · rw [if_neg c]; exact h5
theorem pz_stP {w : Wd} (h : pzC w) : pzC (fX4_readPiece_6 w) := by
  obtain ⟨r5, e5⟩ : ∃ r, fX4_startStatement w (if ((w.2.2.1 0).1 8) < 14 then 0 else 1) 5 = r := ⟨_, rfl⟩
  obtain ⟨r14, e14⟩ : ∃ r, fX4_takeKnownYarn_6 r5 (fX4_nameHere r5) = r := ⟨_, rfl⟩
  obtain ⟨r20, e20⟩ : ∃ r, fX4_readKind r14.2 = r := ⟨_, rfl⟩
  obtain ⟨r26, e26⟩ : ∃ r, fX4_readNumber r20.2 500 9999 = r := ⟨_, rfl⟩
  obtain ⟨r32, e32⟩ : ∃ r, fX4_readNumber r26.2 0 255 = r := ⟨_, rfl⟩
  obtain ⟨r62, e62⟩ : ∃ r, hz_xt r32.2 = r := ⟨_, rfl⟩
  obtain ⟨r68, e68⟩ : ∃ r, fX4_endStatement r62.2 = r := ⟨_, rfl⟩
  have p5 : pzC r5 := e5 ▸ pz_S h _ (by decide)
  have p14 : pzC r14.2 := e14 ▸ pz_KY p5 _
  have p20 : pzC r20.2 := e20 ▸ pz_K p14
  have p26 : pzC r26.2 := e26 ▸ pz_N p20 _ _
  have p32 : pzC r32.2 := e32 ▸ pz_N p26 _ _
  have p62 : pzC r62.2 := e62 ▸ pz_Xt p32
  have p68 : pzC r68 := e68 ▸ pz_E p62
  rw [hz_rP w r5 r68 r14 r20 r26 r32 r62 e5 e14 e20 e26 e32 e62 e68]
  obtain ⟨q1, -⟩ := hl_p0 r62.1 r32.1 r26.1 r20.1 r14.1 (fuU r62.1 0) 0 r68
  exact pz_same p68 (by rw [q1]) (by rw [q1])
theorem pz_set {w : Wd} (h : pzC w) (c : Nat) (h1 : 2 < c) (a b : Int32) (kk : Nat) (v : Int32) : pzC (wP (fX4_readNumber (wS (fX4_startStatement w v 3) c 1) a b).2 0 (upS ((fX4_readNumber (wS (fX4_startStatement w v 3) c 1) a b).2.2.2.1 0) kk (fX4_readNumber (wS (fX4_startStatement w v 3) c 1) a b).1)) := by
  have p1 := pz_S h v (b := 3) (by decide)
  have p2 : pzC (wS (fX4_startStatement w v 3) c 1) := pz_same p1 (if_neg (by omega)) (if_neg (by omega))
  exact pz_same (pz_N p2 a b) rfl rfl
theorem pz_stBox {w : Wd} (h : pzC w) : pzC (fX4_readBox w) := by
  unfold fX4_readBox
  simp only [hz_bid]
  simp only [hz_bnd]
  exact pz_E (pz_set h 10 (by omega) 1 6 6 _)
theorem pz_stSteam {w : Wd} (h : pzC w) : pzC (fX4_readSteam w) := by
  unfold fX4_readSteam
  simp only [hz_bid]
  simp only [hz_bnd]
  exact pz_E (pz_set h 9 (by omega) 0 100 5 _)
theorem pz_stTol {w : Wd} (h : pzC w) : pzC (fX4_readTolerance w) := by
  unfold fX4_readTolerance
  simp only [hz_bid]
  simp only [hz_bnd]
  exact pz_E (pz_same (pz_N (pz_set h 8 (by omega) 0 500 3 _) 0 255) rfl rfl)
/-! the model's side -/
theorem qz_same {m m1 : Md} (h : pzM m) (e1 : m1.1 9 = m.1 9) (e2 : m1.1 10 = m.1 10) : pzM m1 := by
  unfold pzM
  rw [e1, e2]
  exact h
theorem qz_0 : ∀ (fu : Nat) {m : Md}, pzM m → pzM (fX7_advance_0 fu m)
  | 0, m, h => h
  | fu + 1, m, h => by
    have e : fX7_advance_0 (fu + 1) m = (if (fX7_byteAt m (m.1 5)) = 32 then (fX7_advance_0 fu (mS m 5 ((m.1 5) + 1))) else (if (fX7_byteAt m (m.1 5)) = 10 then (fX7_advance_0 fu (mS m 5 ((m.1 5) + 1))) else m)) := rfl
    have ih := qz_0 fu (m := mS m 5 ((m.1 5) + 1)) (qz_same h rfl rfl)
    rw [e]
    by_cases c1 : fX7_byteAt m (m.1 5) = 32
    · rw [if_pos c1]; exact ih
    · rw [if_neg c1]
      by_cases c2 : fX7_byteAt m (m.1 5) = 10
      · rw [if_pos c2]; exact ih
      · rw [if_neg c2]; exact h
theorem qz_83 : ∀ (fu : Nat) {m : Md}, pzM m → pzM (fX7_advance_83 fu m)
  | 0, m, h => h
  | fu + 1, m, h => by
    have e : fX7_advance_83 (fu + 1) m = (if (fX7_in ((fX7_byteAt m (m.1 5)).toInt64) 97 122) = 0 then m else (fX7_advance_83 fu (mS m 5 ((m.1 5) + 1)))) := rfl
    have ih := qz_83 fu (m := mS m 5 ((m.1 5) + 1)) (qz_same h rfl rfl)
    rw [e]
    by_cases c1 : (fX7_in ((fX7_byteAt m (m.1 5)).toInt64) 97 122) = 0
    · rw [if_pos c1]; exact h
    · rw [if_neg c1]; exact ih
theorem qz_144 : ∀ (fu : Nat) {m : Md}, pzM m → pzM (fX7_advance_144 fu m)
  | 0, m, h => h
  | fu + 1, m, h => by
    have e : fX7_advance_144 (fu + 1) m = (if (fX7_in ((fX7_byteAt m (m.1 5)).toInt64) 48 57) = 0 then m else (fX7_advance_144 fu (mS (mS m 8 (imn 99999 ((((10 : Int32) * (m.1 8)) + (fX7_byteAt m (m.1 5))) - 48))) 5 ((m.1 5) + 1)))) := rfl
    have ih := qz_144 fu (m := mS (mS m 8 (imn 99999 ((((10 : Int32) * (m.1 8)) + (fX7_byteAt m (m.1 5))) - 48))) 5 ((m.1 5) + 1)) (qz_same h rfl rfl)
    rw [e]
    by_cases c1 : (fX7_in ((fX7_byteAt m (m.1 5)).toInt64) 48 57) = 0
    · rw [if_pos c1]; exact h
    · rw [if_neg c1]; exact ih
theorem qz_A {m : Md} (h : pzM m) : pzM (fX7_advance m) := by
  obtain ⟨F, hF⟩ : ∃ F : Nat, 1300 = F := ⟨_, rfl⟩
  obtain ⟨X, hX⟩ : ∃ X, fX7_advance_0 F m = X := ⟨_, rfl⟩
  have pX : pzM X := hX ▸ qz_0 F h
  rw [hz_adv7 m F hF X hX]
  generalize fX7_byteAt (mS X 6 (X.1 5)) (X.1 5) = b
  by_cases c1 : b = -1
  · rw [if_pos c1]; exact qz_same pX rfl rfl
  · rw [if_neg c1]
    by_cases c2 : (fX7_in (b.toInt64) 97 122) = 0
    · rw [if_pos c2]
      by_cases c3 : (fX7_in (b.toInt64) 48 57) = 0
      · rw [if_pos c3]; exact qz_same pX rfl rfl
      · rw [if_neg c3]
        exact qz_same (qz_144 F (m := mS (mS X 6 (X.1 5)) 8 0) (qz_same pX rfl rfl)) rfl rfl
    · rw [if_neg c2]
      exact qz_same (qz_83 F (m := mS X 6 (X.1 5)) (qz_same pX rfl rfl)) rfl rfl
theorem qz_F {m : Md} (h : pzM m) {z : Int32} (hz : ¬ z = 0) : pzM (fX7_fail m z) := by
  unfold fX7_fail
  by_cases c : fX7_good m = 0
  · rw [if_pos c]; exact h
  · rw [if_neg c]; exact fun h2 => absurd h2 hz
theorem qz_G {m : Md} (h : pzM m) : pzM (fX7_goOn m) := by
  unfold fX7_goOn
  simp only [hz_bid]
  by_cases c : fX7_good m = 0
  · rw [if_pos c]; exact h
  · rw [if_neg c]; exact qz_A h
theorem qz_FG {m : Md} (h : pzM m) {z : Int32} (hz : ¬ z = 0) : pzM (fX7_goOn (fX7_fail m z)) := qz_G (qz_F h hz)
theorem qz_mA {m : Md} (h : pzM m) (k : Nat) (f : Nat → Int32) : pzM (mA m k f) := h
