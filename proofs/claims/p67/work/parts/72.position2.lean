/-! Reading: without an error the position stays: the model. -/
theorem qz_N {m : Md} (h : pzM m) (a b : Int32) : pzM (fX7_number m a b).2 := by
  have h1 := qz_G h
  have h3 := qz_FG h (z := 2) (by decide)
  have h4 := qz_F h (z := 1) (by decide)
  have h5 := qz_G h4
  have h6 := qz_FG h4 (z := 2) (by decide)
  unfold fX7_number
  simp only [hz_bnd]
  generalize fX7_fail m 1 = B at *
  generalize fX7_goOn (fX7_fail B 2) = E at *
  generalize fX7_goOn B = D at *
  generalize fX7_goOn (fX7_fail m 2) = C at *
  generalize fX7_goOn m = A at *
  repeat' split
  all_goals assumption
theorem qz_H {m : Md} (h : pzM m) : pzM (fX7_nameHere m).2 := by
  have h4 := qz_F h (z := 1) (by decide)
  unfold fX7_nameHere
  simp only [hz_bnd]
  generalize fX7_fail m 1 = B at *
  repeat' split
  all_goals assumption
theorem qz_en {m : Md} (h : pzM m) (a b : Int32) : pzM (fX7_enter m a b) := by
  have h1 := qz_G h
  have h2 := qz_FG h (z := 5) (by decide)
  unfold fX7_enter
  simp only [hz_bid]
  simp only [hz_bnd]
  generalize fX7_goOn (fX7_fail m 5) = B at *
  generalize fX7_goOn m = A at *
  repeat' split
  all_goals assumption
theorem qz_nn {m : Md} (h : pzM m) (a b c : Int32) : pzM (fX7_newName m a b c).2 := by
  have h0 := qz_H h
  unfold fX7_newName
  simp only [hz_bnd]
  generalize fX7_nameHere m = r5 at *
  have h1 := qz_G h0
  have h2 := qz_FG h0 (z := 3) (by decide)
  generalize fX7_goOn r5.2 = X at *
  generalize fX7_goOn (fX7_fail r5.2 3) = Y at *
  repeat' split
  all_goals first | assumption | exact qz_mA h1 _ _ | exact qz_mA h2 _ _
theorem qz_on {m : Md} (h : pzM m) (i : Int32) : pzM (fX7_once m i) := by
  have h2 := qz_F h (z := 3) (by decide)
  unfold fX7_once
  simp only [hz_bid]
  simp only [hz_bnd]
  split
  · exact qz_G (qz_same h rfl rfl)
  · exact qz_G (qz_same h2 rfl rfl)
theorem qz_fin {m : Md} (h : pzM m) : pzM (hz_fin m) := by
  have h1 := qz_G h
  have h2 := qz_FG h (z := 1) (by decide)
  unfold hz_fin
  generalize fX7_goOn (fX7_fail m 1) = B at *
  generalize fX7_goOn m = A at *
  repeat' split
  all_goals assumption
theorem qz_one {m : Md} (h : pzM m) (i a b : Int32) (z : Nat) : pzM (hz_one1 m i a b z) := qz_mA (qz_N (qz_on h i) a b) _ _
theorem qz_tol {m : Md} (h : pzM m) : pzM (hz_tol m) := qz_mA (qz_N (qz_one h 0 0 500 0) 0 255) _ _
theorem qz_pA {m : Md} (h : pzM m) (y : Int32) {z : Int32} (hz : ¬ z = 0) : pzM (hz_pA m y z) := by
  have h1 := qz_G h
  have h2 := qz_FG h hz
  unfold hz_pA
  generalize fX7_goOn (fX7_fail m z) = B at *
  generalize fX7_goOn m = A at *
  repeat' split
  all_goals assumption
theorem qz_ti {m : Md} (h : pzM m) : pzM (fX7_times m).2 := by
  have h1 := qz_N h 1 14
  have h2 := qz_N (qz_F h (z := 5) (by decide)) 1 14
  unfold fX7_times
  simp only [hz_bnd]
  generalize fX7_number (fX7_fail m 5) 1 14 = B at *
  generalize fX7_number m 1 14 = A at *
  repeat' split
  all_goals assumption
theorem qz_tm {m : Md} (h : pzM m) : pzM (hz_tm m).2 := by
  unfold hz_tm
  by_cases c : fX7_isText m mq31 = 0
  · rw [if_pos c]; exact h
  · rw [if_neg c]; exact qz_ti (qz_A h)
theorem qz_add1 (m : Md) (a b c d : Int32) : (fX7_add m a b c d).1 = m.1 := by
  unfold fX7_add
  simp only [hz_bid]
  simp only [hz_bnd]
  rfl
theorem qz_117 (t b a kd y : Int32) : ∀ (fu : Nat) (x : Int32) {m : Md}, pzM m → pzM (fX7_parsePiece_117 t b a kd y fu x m).2
  | 0, x, m, h => h
  | fu + 1, x, m, h => by
    have e : fX7_parsePiece_117 t b a kd y (fu + 1) x m = (if t ≤ x then (x, m) else (if (fX7_good m) = 0 then (x, m) else (fX7_parsePiece_117 t b a kd y fu (x + 1) (fX7_add m y kd a b)))) := rfl
    have ih := qz_117 t b a kd y fu (x + 1) (m := fX7_add m y kd a b) (qz_same h (by rw [qz_add1]) (by rw [qz_add1]))
    rw [e]
    generalize fX7_parsePiece_117 t b a kd y fu (x + 1) (fX7_add m y kd a b) = B at *
    repeat' split
    all_goals assumption
theorem qz_pC {m : Md} (h : pzM m) (y kd : Int32) : pzM (hz_pC y kd m) := qz_117 _ _ _ _ _ _ _ (qz_tm (qz_N (qz_N h 500 9999) 0 255))
theorem qz_P {m : Md} (h : pzM m) : pzM (fX7_parsePiece m) := by
  rw [hz_pP m _ _ _ rfl rfl rfl]
  exact qz_pC (qz_pA (qz_pA (qz_H (qz_en h 8 14)) _ (by decide)) _ (by decide)) _ _
theorem qz_Y {m : Md} (h : pzM m) : pzM (fX7_parseYarn m) := by
  obtain ⟨r5, e5⟩ : ∃ r, fX7_enter m 5 6 = r := ⟨_, rfl⟩
  obtain ⟨r16, e16⟩ : ∃ r, fX7_newName r5 10 3 5 = r := ⟨_, rfl⟩
  obtain ⟨r23, e23⟩ : ∃ r, fX7_number r16.2 1 100 = r := ⟨_, rfl⟩
  obtain ⟨r29, e29⟩ : ∃ r, mA r23.2 (r16.2.2.2) (upd (r23.2.2.1 (r16.2.2.2)) (r16.1 + 1).toNatClampNeg r23.1) = r := ⟨_, rfl⟩
  obtain ⟨r36, e36⟩ : ∃ r, fX7_number r29 0 50 = r := ⟨_, rfl⟩
  obtain ⟨r42, e42⟩ : ∃ r, mA r36.2 (r29.2.2) (upd (r36.2.2.1 (r29.2.2)) (r16.1 + 2).toNatClampNeg r36.1) = r := ⟨_, rfl⟩
  have p5 : pzM r5 := e5 ▸ qz_en h _ _
  have p16 : pzM r16.2 := e16 ▸ qz_nn p5 _ _ _
  have p23 : pzM r23.2 := e23 ▸ qz_N p16 _ _
  have p29 : pzM r29 := e29 ▸ qz_mA p23 _ _
  have p36 : pzM r36.2 := e36 ▸ qz_N p29 _ _
  have p42 : pzM r42 := e42 ▸ qz_mA p36 _ _
  rw [hz_pY m r5 r29 r42 r16 r23 r36 e5 e16 e23 e29 e36 e42]
  split
  · exact p5
  · exact qz_mA p42 _ _
theorem qz_Z {m : Md} (h : pzM m) : pzM (fX7_parseSize m) := by
  obtain ⟨r5, e5⟩ : ∃ r, fX7_enter m 7 6 = r := ⟨_, rfl⟩
  obtain ⟨r16, e16⟩ : ∃ r, fX7_newName r5 44 3 7 = r := ⟨_, rfl⟩
  obtain ⟨r23, e23⟩ : ∃ r, fX7_number r16.2 500 9999 = r := ⟨_, rfl⟩
  obtain ⟨r29, e29⟩ : ∃ r, mA r23.2 (r16.2.2.2) (upd (r23.2.2.1 (r16.2.2.2)) (r16.1 + 1).toNatClampNeg r23.1) = r := ⟨_, rfl⟩
  obtain ⟨r36, e36⟩ : ∃ r, fX7_number r29 ((r29.2.1 (r29.2.2)) (r16.1 + 1).toNatClampNeg) 9999 = r := ⟨_, rfl⟩
  obtain ⟨r42, e42⟩ : ∃ r, mA r36.2 (r29.2.2) (upd (r36.2.2.1 (r29.2.2)) (r16.1 + 2).toNatClampNeg r36.1) = r := ⟨_, rfl⟩
  have p5 : pzM r5 := e5 ▸ qz_en h _ _
  have p16 : pzM r16.2 := e16 ▸ qz_nn p5 _ _ _
  have p23 : pzM r23.2 := e23 ▸ qz_N p16 _ _
  have p29 : pzM r29 := e29 ▸ qz_mA p23 _ _
  have p36 : pzM r36.2 := e36 ▸ qz_N p29 _ _
  have p42 : pzM r42 := e42 ▸ qz_mA p36 _ _
  rw [hz_pZ m r5 r29 r42 r16 r23 r36 e5 e16 e23 e29 e36 e42]
  split
  · exact p5
  · exact qz_mA p42 _ _
theorem qz_S {m : Md} (h : pzM m) : pzM (fX7_parseShape m) := by
  obtain ⟨r5, e5⟩ : ∃ r, fX7_enter m 6 8 = r := ⟨_, rfl⟩
  obtain ⟨r16, e16⟩ : ∃ r, fX7_newName r5 28 2 6 = r := ⟨_, rfl⟩
  obtain ⟨r23, e23⟩ : ∃ r, fX7_number r16.2 500 9999 = r := ⟨_, rfl⟩
  obtain ⟨r29, e29⟩ : ∃ r, mA r23.2 (r16.2.2.2) (upd (r23.2.2.1 (r16.2.2.2)) (r16.1 + 1).toNatClampNeg r23.1) = r := ⟨_, rfl⟩
  have p5 : pzM r5 := e5 ▸ qz_en h _ _
  have p16 : pzM r16.2 := e16 ▸ qz_nn p5 _ _ _
  have p23 : pzM r23.2 := e23 ▸ qz_N p16 _ _
  have p29 : pzM r29 := e29 ▸ qz_mA p23 _ _
  rw [hz_pS m r5 r29 r16 r23 e5 e16 e23 e29]
  split
  · exact p5
  · exact qz_mA p29 _ _
theorem qz_St {m : Md} (h : pzM m) : pzM (fX7_parseStatement m) := by
  rw [hz_pSt]
  have h0 := qz_fin (qz_F h (z := 1) (by decide))
  have h1 := qz_fin (qz_P h)
  have h2 := qz_fin (qz_Z h)
  have h3 := qz_fin (qz_S h)
  have h4 := qz_fin (qz_Y h)
  have h5 := qz_fin (qz_one h 2 1 6 3)
  have h6 := qz_fin (qz_one h 1 0 100 2)
  have h7 := qz_fin (qz_tol h)
  generalize hz_fin (fX7_fail m 1) = Z0 at *
  generalize hz_fin (fX7_parsePiece m) = Z1 at *
  generalize hz_fin (fX7_parseSize m) = Z2 at *
  generalize hz_fin (fX7_parseShape m) = Z3 at *
  generalize hz_fin (fX7_parseYarn m) = Z4 at *
  generalize hz_fin (hz_one1 m 2 1 6 3) = Z5 at *
  generalize hz_fin (hz_one1 m 1 0 100 2) = Z6 at *
  generalize hz_fin (hz_tol m) = Z7 at *
  repeat' split
  all_goals assumption
