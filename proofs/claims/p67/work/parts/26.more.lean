/-! A day; a prediction's start; an empty plant; a new piece. -/
section HZC
variable {m : Md} {p : Pl} {ny ns nz np : Nat}
theorem hz_day (hP : hz_PR p (m.2.1 m.2.2) ny ns nz np) : sX7_pass m ∧ (fX7_pass m).1 = (fX5_passDay p).1 ∧ hz_PR (fX5_passDay p).2 ((fX7_pass m).2.2.1 m.2.2) ny ns nz np ∧ hz_ch m (fX7_pass m).2 := by
  have h := hz_dayL (ny := ny) (ns := ns) (nz := nz) (fuU 2147483647 0) 0 (Nat.zero_le np) 0 m p hP
  rw [nI_0] at h
  obtain ⟨h1, h2, h3, h4⟩ := h
  refine ⟨⟨h1, trivial⟩, ?_⟩
  simp only [fX7_pass, fX5_passDay, bnd]
  generalize fX7_pass_4 (fuU 2147483647 0) 0 0 m = r at *
  generalize fX5_passDay_4 (fuU 2147483647 0) 0 0 p = t at *
  refine ⟨h2, ?_, hz_chT h4 (hz_chA _ _)⟩
  rw [h4.2.1, hz_mAs]
  have hd : (r.2.2.2.1 m.2.2) 4 = t.2.2.1 7 := h3.2.2.2.1.2.2.2.2
  refine hz_uset h3 (fun k hk hn => if_neg (by omega)) rfl (fun j hj => pk_un (by omega)) ⟨?_, ?_, ?_, ?_, ?_⟩ h3.2.2.2.2.1
  · rw [pk_un (by decide)]; exact h3.2.2.2.1.1
  · rw [pk_un (by decide)]; exact h3.2.2.2.1.2.1
  · rw [pk_un (by decide)]; exact h3.2.2.2.1.2.2.1
  · rw [pk_un (by decide)]; exact h3.2.2.2.1.2.2.2.1
  · rw [pk_us, hd]; rfl
/-- a row is copied -/
theorem hz_startL : ∀ (fu i : Nat) (hi : i ≤ 146) (y : Md), sX7_startPrediction_2 fu (nI i) y ∧ ((fX7_startPrediction_2 fu (nI i) y).2.1 = y.1 ∧ (fX7_startPrediction_2 fu (nI i) y).2.2.2 = y.2.2 ∧ ∀ k, ¬ k = 2 → (fX7_startPrediction_2 fu (nI i) y).2.2.1 k = y.2.1 k) ∧ (146 < fu + i → (∀ j, j < i → y.2.1 2 j = y.2.1 0 j) → ∀ j, j < 146 → (fX7_startPrediction_2 fu (nI i) y).2.2.1 2 j = y.2.1 0 j) := by
  intro fu
  induction fu with
  | zero =>
    intro i hi y
    exact ⟨trivial, ⟨rfl, rfl, fun _ _ => rfl⟩, fun h => absurd h (by omega)⟩
  | succ fu ih =>
    intro i hi y
    simp only [fX7_startPrediction_2, sX7_startPrediction_2, bnd]
    by_cases h : (146 : Int32) ≤ nI i
    · rw [if_pos h]
      refine ⟨⟨fun _ => trivial, fun h2 => absurd h h2⟩, ⟨rfl, rfl, fun _ _ => rfl⟩, fun _ hy j hj => hy j ?_⟩
      have h9 : nI 146 ≤ nI i := h
      rw [nI_leI (by omega) (by omega)] at h9
      omega
    · have hi : i < 146 := hz_c hi (by omega) h
      rw [if_neg h, ← nI_succ, nI_clamp (by omega)]
      obtain ⟨a, ⟨b1, b2, b3⟩, c⟩ := ih (i + 1) hi (mA y 2 (upd (y.2.1 2) i (y.2.1 0 i)))
      refine ⟨⟨fun h2 => absurd h2 h, fun _ => ⟨vp_in_nI hi (by omega), vp_in_nI hi (by omega), a⟩⟩, ⟨b1, b2, fun k hk => (b3 k hk).trans (if_neg hk)⟩, fun hf hy j hj => ?_⟩
      have e0 : (mA y 2 (upd (y.2.1 2) i (y.2.1 0 i))).2.1 0 = y.2.1 0 := rfl
      have r := c (by omega) (fun q hq => by
        rw [hz_mAs, e0]
        by_cases hqi : q = i
        · rw [hqi, pk_us]
        · rw [pk_un hqi]; exact hy q (by omega)) j hj
      rw [e0] at r
      exact r
theorem hz_start0 (m : Md) (X : Int32 × Md) (h1 : X.2.1 = m.1) (h2 : X.2.2.2 = m.2.2) (h3 : ∀ k, ¬ k = 2 → X.2.2.1 k = m.2.1 k) (h4 : ∀ j, j < 146 → X.2.2.1 2 j = m.2.1 0 j) : (mN X.2 2).1 = m.1 ∧ (mN X.2 2).2.2 = 2 ∧ (∀ k, ¬ k = 2 → (mN X.2 2).2.1 k = m.2.1 k) ∧ ∀ j, j < 146 → (mN X.2 2).2.1 2 j = m.2.1 0 j := ⟨h1, rfl, h3, h4⟩
theorem hz_start (m : Md) : sX7_startPrediction m ∧ (fX7_startPrediction m).1 = m.1 ∧ (fX7_startPrediction m).2.2 = 2 ∧ (∀ k, ¬ k = 2 → (fX7_startPrediction m).2.1 k = m.2.1 k) ∧ ∀ j, j < 146 → (fX7_startPrediction m).2.1 2 j = m.2.1 0 j := by
  have hF : 146 < fuU 146 0 + 0 := by
    unfold fuU
    rw [show (146 : Int32).toInt = 146 from rfl, show (0 : Int32).toInt = 0 from rfl]
    omega
  have h := hz_startL (fuU 146 0) 0 (Nat.zero_le _) m
  unfold sX7_startPrediction fX7_startPrediction bnd
  rw [nI_0] at h
  have h5 := h.2.2 hF (fun j hj => absurd hj (Nat.not_lt_zero j))
  exact ⟨⟨h.1, trivial⟩, hz_start0 m _ h.2.1.1 h.2.1.2.1 h.2.1.2.2 h5⟩
/-- the likeness of the copies on which predictions work -/
theorem hz_startP (hn0 : m.2.2 = 0) {q : Pl} (hP : hz_PR p (m.2.1 m.2.2) ny ns nz np) : hz_PR (fX5_copyFrom q p) ((fX7_startPrediction m).2.1 (fX7_startPrediction m).2.2) ny ns nz np := by
  obtain ⟨-, -, h3, -, h5⟩ := hz_start m
  rw [h3]
  rw [hn0] at hP
  exact hz_cp hP h5
end HZC
