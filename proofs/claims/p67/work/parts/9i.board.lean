/-! Boarding all, a day: what they answer. -/
/-- all pieces are raw -/
def RW (f : Nat → Int32) (np : Nat) : Prop := ∀ i, i < np → f (67 + 6 * i) = 0
section BRD
variable {w w1 : Wd} {f g : Nat → Int32} {ny ns nz np n : Nat} {p : Pl}
theorem bo_8 (p : Pl) (x z : Int32) : (fX5_boardOn p x z).2.1 8 = p.1 8 := by
  unfold fX5_boardOn
  by_cases c : fX5_lengthOn p x z = -1
  · rw [if_pos c]; rfl
  · rw [if_neg c]; rfl
theorem br_n (hn : np ≤ 14) (z : Int32) : ∀ (fu i c : Nat) (y : Pl), i ≤ np → c ≤ i → y.1 8 = nI np → ∃ c1, (fX5_boardRaw_4 z fu (nI i) (nI c) y).2.1 = nI c1 ∧ c1 ≤ 14 := by
  intro fu
  induction fu with
  | zero => intro i c y hi hc _; exact ⟨c, rfl, by omega⟩
  | succ fu ih =>
    intro i c y hi hc hy
    simp only [fX5_boardRaw_4, hy]
    by_cases h : nI np ≤ nI i
    · rw [if_pos h]; exact ⟨c, rfl, by omega⟩
    · have hi : i < np := hz_c hi (by omega) h
      rw [if_neg h, ← nI_succ, ← nI_succ]
      simp only [bnd]
      split
      · split
        · exact ih (i + 1) c _ hi (by omega) ((bo_8 _ _ _).trans hy)
        · exact ih (i + 1) (c + 1) _ hi (by omega) ((bo_8 _ _ _).trans hy)
      · exact ih (i + 1) c y hi (by omega) hy
theorem br_a (hP : hz_PR p f ny ns nz np) (z : Int32) : ∃ c, (fX5_boardRaw p z).1 = nI c ∧ c ≤ 14 := br_n hP.2.1.2.2.2 z (fuU 2147483647 0) 0 0 p (Nat.zero_le _) (Nat.le_refl _) hP.1.2.2.2
theorem pd_n (hn : np ≤ 14) : ∀ (fu i c : Nat) (y : Pl), i ≤ np → c ≤ i → y.1 8 = nI np → ∃ c1, (fX5_passDay_4 fu (nI i) (nI c) y).2.1 = nI c1 ∧ c1 ≤ 14 := by
  intro fu
  induction fu with
  | zero => intro i c y hi hc _; exact ⟨c, rfl, by omega⟩
  | succ fu ih =>
    intro i c y hi hc hy
    simp only [fX5_passDay_4, hy]
    by_cases h : nI np ≤ nI i
    · rw [if_pos h]; exact ⟨c, rfl, by omega⟩
    · have hi : i < np := hz_c hi (by omega) h
      rw [if_neg h, ← nI_succ, ← nI_succ]
      simp only [bnd]
      split
      · exact ih (i + 1) c y hi (by omega) hy
      · split
        · exact ih (i + 1) c y hi (by omega) hy
        · exact ih (i + 1) (c + 1) _ hi (by omega) hy
theorem pd_a (hP : hz_PR p f ny ns nz np) : ∃ c, (fX5_passDay p).1 = nI c ∧ c ≤ 14 := pd_n hP.2.1.2.2.2 (fuU 2147483647 0) 0 0 p (Nat.zero_le _) (Nat.le_refl _) hP.1.2.2.2
theorem pr_st (hP : hz_PR p f ny ns nz np) {i : Nat} (hi : i < np) : f (67 + 6 * i) = p.2 13 i := (hP.2.2.2.2.2.2.2.2 i hi).1.2.2.2.2.2
theorem sw_0 (h : CI n w f ny ns nz np) (e : np = 0) : fX6_setWhere_36 w 0 = 0 := by
  unfold fX6_setWhere_36
  simp only [bnd]
  rw [h.1.1.2.2.2, e]
  cases fuU (nI 0) 0 with
  | zero => rfl
  | succ fu =>
    simp only [fX6_setWhere_36_5, h.1.1.2.2.2, e]
    rfl
theorem sw_1 (h : CI n w f ny ns nz np) (hr : RW f np) (e : 0 < np) : ¬ fX6_setWhere_36 w 0 = 0 := by
  have hn : np ≤ 14 := h.1.2.1.2.2.2
  have L := hl_where (w := w) hn h.1.1.2.2.2 0 (fuU (nI np) 0) 0 0 (Nat.zero_le _) (by rw [hz_fuU (by omega)]; omega) 0 (by decide)
  have es : fX6_at 14 ((w.2.2.1 1).2 13) (nI 0) = 0 := by
    rw [hz_at _ (by decide) (by decide), ← pr_st h.1 e]
    exact hr 0 e
  rw [decide_eq_true es, decide_eq_true e, decide_eq_true (Nat.le_refl 0)] at L
  intro hc
  unfold fX6_setWhere_36 at hc
  simp only [bnd] at hc
  rw [h.1.1.2.2.2] at hc
  rw [show nI 0 = 0 from rfl, hc, b_0] at L
  simp at L
/-- boardAll -/
theorem o_b0 (h : CI n w f ny ns nz np) {s : Nat} (hs : s < ns) (e : np = 0) : fX6_boardAll w (nI s) = (-1, w) := by
  unfold fX6_boardAll
  rw [if_neg (is_sh h hs), if_pos (sw_0 h e)]
theorem o_ba (h : CI n w f ny ns nz np) {s : Nat} (hs : s < ns) (hr : RW f np) (e : 0 < np) : ∃ k w1, fX6_boardAll w (nI s) = (nI k, w1) ∧ k ≤ 14 ∧ CI n w1 (gBx f s) ny ns nz np ∧ HT w1 f ny ns nz np ∧ w1.1 0 = w.1 0 := by
  obtain ⟨k, k1, k2⟩ := br_a h.1 (nI s)
  unfold fX6_boardAll
  simp only [bnd]
  rw [if_neg (is_sh h hs), if_neg (sw_1 h hr e), bc_1 h, k1]
  obtain ⟨x, y, z⟩ := ci_ch h (b_pr h.1 hs)
  exact ⟨k, _, rfl, k2, x, y, z⟩
theorem o_dy (h : CI n w f ny ns nz np) : ∃ k w1, fX6_day w = (nI k, w1) ∧ k ≤ 14 ∧ CI n w1 (gDy f) ny ns nz np := by
  obtain ⟨w1, e, x⟩ := o_da h
  obtain ⟨k, k1, k2⟩ := pd_a h.1
  exact ⟨k, w1, by rw [e, k1], k2, x⟩
end BRD
