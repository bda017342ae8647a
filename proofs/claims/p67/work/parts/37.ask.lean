/-! The questions that change nothing: the same answers. -/
def hz_RP (w : Wd) (m : Md) (ny ns nz np : Nat) : Prop := m.2.2 = 0 ∧ hz_PR (w.2.2.1 1) (m.2.1 0) ny ns nz np
section HZN
variable {w : Wd} {m : Md} {ny ns nz np : Nat}
theorem hz_rp (h : hz_RP w m ny ns nz np) : hz_PR (w.2.2.1 1) (m.2.1 m.2.2) ny ns nz np := by rw [h.1]; exact h.2
theorem hz_pz (h : hz_RP w m ny ns nz np) (z : Int32) : sX7_isPiece m z ∧ fX7_isPiece m z = hz_is np z ∧ fX6_isPiece w z = hz_is np z := by
  have hn : np ≤ 14 := h.2.2.1.2.2.2
  have e : (m.2.1 0) 8 = nI np := h.2.2.2.1.2.2.2
  have e2 : (w.2.2.1 1).1 8 = nI np := h.2.1.2.2.2
  have e3 : fX7_in z.toInt64 0 ((((m.2.1 0) 8) - 1).toInt64) = hz_is np z := by rw [e]; exact hz_isb (by omega) z
  refine ⟨⟨?_, trivial⟩, e3, ?_⟩
  · rw [e3]; exact hz_nb (hz_is01 np z)
  · unfold fX6_isPiece hz_is; rw [e2]
theorem hz_shz (h : hz_RP w m ny ns nz np) (z : Int32) : sX7_isShape m z ∧ fX7_isShape m z = hz_is ns z ∧ fX6_isShape w z = hz_is ns z := by
  have hn : ns ≤ 8 := h.2.2.1.2.1
  have e : (m.2.1 0) 6 = nI ns := h.2.2.2.1.2.1
  have e2 : (w.2.2.1 1).1 1 = nI ns := h.2.1.2.1
  have e3 : fX7_in z.toInt64 0 ((((m.2.1 0) 6) - 1).toInt64) = hz_is ns z := by rw [e]; exact hz_isb (by omega) z
  refine ⟨⟨?_, trivial⟩, e3, ?_⟩
  · rw [e3]; exact hz_nb (hz_is01 ns z)
  · unfold fX6_isShape hz_is; rw [e2]
theorem hz_szz (h : hz_RP w m ny ns nz np) (z : Int32) : fX7_in z.toInt64 0 ((((m.2.1 0) 7) - 1).toInt64) = hz_is nz z ∧ fX6_isSize w z = hz_is nz z := by
  have hn : nz ≤ 6 := h.2.2.1.2.2.1
  have e : (m.2.1 0) 7 = nI nz := h.2.2.2.1.2.2.1
  have e2 : (w.2.2.1 1).1 2 = nI nz := h.2.1.2.2.1
  refine ⟨by rw [e]; exact hz_isb (by omega) z, ?_⟩
  unfold fX6_isSize hz_is; rw [e2]
theorem hz_done {p : Pl} (hP : hz_PR p (m.2.1 m.2.2) ny ns nz np) {i : Nat} (hi : i < np) : sX7_isDone m (nI i) ∧ (fX7_isDone m (nI i) = 0 ↔ ¬ fX5_canBeBoarded p (nI i) = 0) ∧ (fX7_isDone m (nI i) = 0 → fX6_at 14 (p.2 13) (nI i) = 0 ∨ fX6_at 14 (p.2 13) (nI i) = 1) := by
  obtain ⟨e1, s1⟩ := hz_isIn hP hi 2
  obtain ⟨e2, s2⟩ := hz_isIn hP hi 3
  obtain ⟨s, hs, es⟩ := hz_state hP hi
  refine ⟨⟨s1, fun _ => ⟨s2, fun _ => trivial, fun _ => trivial⟩, fun _ => trivial⟩, ?_⟩
  unfold fX7_isDone fX5_canBeBoarded
  rw [e1, e2, es]
  match s, hs with
  | 0, _ => exact ⟨by decide, fun _ => Or.inl rfl⟩
  | 1, _ => exact ⟨by decide, fun _ => Or.inr rfl⟩
  | 2, _ => exact ⟨by decide, fun h => absurd h (by decide)⟩
  | 3, _ => exact ⟨by decide, fun h => absurd h (by decide)⟩
theorem hq_length (h : hz_RP w m ny ns nz np) (z : Int32) : sX7_length m z ∧ fX7_length m z = fX6_length w z := by
  have hn : np ≤ 14 := h.2.2.1.2.2.2
  obtain ⟨s, e1, e2⟩ := hz_pz h z
  unfold sX7_length fX7_length fX6_length
  rw [e1, e2]
  by_cases c : hz_is np z = 0
  · rw [if_pos c, if_pos c]
    exact ⟨⟨s, fun _ => trivial, fun h => absurd c h⟩, rfl⟩
  · obtain ⟨i, hi, rfl⟩ := hz_is_of (by omega) c
    rw [if_neg c, if_neg c]
    exact ⟨⟨s, fun h => absurd h c, fun _ => ⟨(hz_fs m (show i < 14 by omega)).2.2.2.1, trivial⟩⟩, (hz_f (hz_rp h) hi).2.2.2.1⟩
theorem hq_knitted (h : hz_RP w m ny ns nz np) (z : Int32) : sX7_knitted m z ∧ fX7_knitted m z = fX6_knitted w z := by
  have hn : np ≤ 14 := h.2.2.1.2.2.2
  obtain ⟨s, e1, e2⟩ := hz_pz h z
  unfold sX7_knitted fX7_knitted fX6_knitted
  rw [e1, e2]
  by_cases c : hz_is np z = 0
  · rw [if_pos c, if_pos c]
    exact ⟨⟨s, fun _ => trivial, fun h => absurd c h⟩, rfl⟩
  · obtain ⟨i, hi, rfl⟩ := hz_is_of (by omega) c
    rw [if_neg c, if_neg c]
    exact ⟨⟨s, fun h => absurd h c, fun _ => ⟨(hz_fs m (show i < 14 by omega)).2.2.1, trivial⟩⟩, (hz_f (hz_rp h) hi).2.2.1⟩
theorem hq_shade (h : hz_RP w m ny ns nz np) (z : Int32) : sX7_shade m z ∧ fX7_shade m z = fX6_shade w z := by
  have hn : np ≤ 14 := h.2.2.1.2.2.2
  obtain ⟨s, e1, e2⟩ := hz_pz h z
  unfold sX7_shade fX7_shade fX6_shade
  rw [e1, e2]
  by_cases c : hz_is np z = 0
  · rw [if_pos c, if_pos c]
    exact ⟨⟨s, fun _ => trivial, fun h => absurd c h⟩, rfl⟩
  · obtain ⟨i, hi, rfl⟩ := hz_is_of (by omega) c
    rw [if_neg c, if_neg c]
    exact ⟨⟨s, fun h => absurd h c, fun _ => ⟨(hz_fs m (show i < 14 by omega)).2.2.2.2.1, trivial⟩⟩, (hz_f (hz_rp h) hi).2.2.2.2.1⟩
theorem hq_yarnOf (h : hz_RP w m ny ns nz np) (z : Int32) : sX7_yarnOf m z ∧ fX7_yarnOf m z = fX6_yarnOf w z := by
  have hn : np ≤ 14 := h.2.2.1.2.2.2
  obtain ⟨s, e1, e2⟩ := hz_pz h z
  unfold sX7_yarnOf fX7_yarnOf fX6_yarnOf
  rw [e1, e2]
  by_cases c : hz_is np z = 0
  · rw [if_pos c, if_pos c]
    exact ⟨⟨s, fun _ => trivial, fun h => absurd c h⟩, rfl⟩
  · obtain ⟨i, hi, rfl⟩ := hz_is_of (by omega) c
    rw [if_neg c, if_neg c]
    exact ⟨⟨s, fun h => absurd h c, fun _ => ⟨(hz_fs m (show i < 14 by omega)).1, trivial⟩⟩, (hz_f (hz_rp h) hi).1⟩
theorem hq_kindOf (h : hz_RP w m ny ns nz np) (z : Int32) : sX7_kindOf m z ∧ fX7_kindOf m z = fX6_kindOf w z := by
  have hn : np ≤ 14 := h.2.2.1.2.2.2
  obtain ⟨s, e1, e2⟩ := hz_pz h z
  unfold sX7_kindOf fX7_kindOf fX6_kindOf
  rw [e1, e2]
  by_cases c : hz_is np z = 0
  · rw [if_pos c, if_pos c]
    exact ⟨⟨s, fun _ => trivial, fun h => absurd c h⟩, rfl⟩
  · obtain ⟨i, hi, rfl⟩ := hz_is_of (by omega) c
    rw [if_neg c, if_neg c]
    exact ⟨⟨s, fun h => absurd h c, fun _ => ⟨(hz_fs m (show i < 14 by omega)).2.1, trivial⟩⟩, (hz_f (hz_rp h) hi).2.1⟩
theorem hq_state (h : hz_RP w m ny ns nz np) (z : Int32) : sX7_state m z ∧ fX7_state m z = fX6_state w z := by
  have hn : np ≤ 14 := h.2.2.1.2.2.2
  obtain ⟨s, e1, e2⟩ := hz_pz h z
  unfold sX7_state fX7_state fX6_state
  rw [e1, e2]
  by_cases c : hz_is np z = 0
  · rw [if_pos c, if_pos c]
    exact ⟨⟨s, fun _ => trivial, fun h => absurd c h⟩, rfl⟩
  · obtain ⟨i, hi, rfl⟩ := hz_is_of (by omega) c
    rw [if_neg c, if_neg c]
    exact ⟨⟨s, fun h => absurd h c, fun _ => ⟨(hz_fs m (show i < 14 by omega)).2.2.2.2.2, trivial⟩⟩, (hz_f (hz_rp h) hi).2.2.2.2.2⟩
theorem hq_stretchLimit (h : hz_RP w m ny ns nz np) (z : Int32) : sX7_stretchLimit m z ∧ fX7_stretchLimit m z = fX6_stretchLimit w z := by
  have hn : np ≤ 14 := h.2.2.1.2.2.2
  obtain ⟨s, e1, e2⟩ := hz_pz h z
  unfold sX7_stretchLimit fX7_stretchLimit fX6_stretchLimit
  rw [e1, e2]
  by_cases c : hz_is np z = 0
  · rw [if_pos c, if_pos c]
    exact ⟨⟨s, fun _ => trivial, fun h => absurd c h⟩, rfl⟩
  · obtain ⟨i, hi, rfl⟩ := hz_is_of (by omega) c
    rw [if_neg c, if_neg c]
    exact ⟨⟨s, fun h => absurd h c, fun _ => ⟨(hz_limit (hz_rp h) hi).2, trivial⟩⟩, (hz_limit (hz_rp h) hi).1⟩
theorem hq_longestShape (h : hz_RP w m ny ns nz np) (z : Int32) : sX7_longestShape m z ∧ fX7_longestShape m z = fX6_longestShape w z := by
  have hn : np ≤ 14 := h.2.2.1.2.2.2
  obtain ⟨s, e1, e2⟩ := hz_pz h z
  unfold sX7_longestShape fX7_longestShape fX6_longestShape
  rw [e1, e2]
  by_cases c : hz_is np z = 0
  · rw [if_pos c, if_pos c]
    exact ⟨⟨s, fun _ => trivial, fun h => absurd c h⟩, rfl⟩
  · obtain ⟨i, hi, rfl⟩ := hz_is_of (by omega) c
    rw [if_neg c, if_neg c]
    exact ⟨⟨s, fun h => absurd h c, fun _ => ⟨(hz_longest (hz_rp h) hi).2, trivial⟩⟩, (hz_longest (hz_rp h) hi).1⟩
theorem hq_sizeOf (h : hz_RP w m ny ns nz np) (z : Int32) : sX7_sizeOf m z ∧ fX7_sizeOf m z = fX6_sizeOf w z := by
  have hn : np ≤ 14 := h.2.2.1.2.2.2
  obtain ⟨s, e1, e2⟩ := hz_pz h z
  unfold sX7_sizeOf fX7_sizeOf fX6_sizeOf
  rw [e1, e2]
  by_cases c : hz_is np z = 0
  · rw [if_pos c, if_pos c]
    exact ⟨⟨s, fun _ => trivial, fun h => absurd c h⟩, rfl⟩
  · obtain ⟨i, hi, rfl⟩ := hz_is_of (by omega) c
    rw [if_neg c, if_neg c]
    exact ⟨⟨s, fun h => absurd h c, fun _ => ⟨(hz_sizeP (hz_rp h) hi).2, trivial⟩⟩, (hz_sizeP (hz_rp h) hi).1⟩
theorem hq_matches (h : hz_RP w m ny ns nz np) (z : Int32) : sX7_matches m z ∧ fX7_matches m z = fX6_matches w z := by
  have hn : np ≤ 14 := h.2.2.1.2.2.2
  obtain ⟨s, e1, e2⟩ := hz_pz h z
  unfold sX7_matches fX7_matches fX6_matches
  rw [e1, e2]
  by_cases c : hz_is np z = 0
  · rw [if_pos c, if_pos c]
    exact ⟨⟨s, fun _ => trivial, fun h => absurd c h⟩, rfl⟩
  · obtain ⟨i, hi, rfl⟩ := hz_is_of (by omega) c
    rw [if_neg c, if_neg c]
    exact ⟨⟨s, fun h => absurd h c, fun _ => ⟨(hz_matches (hz_rp h) hi).2, trivial⟩⟩, (hz_matches (hz_rp h) hi).1⟩
theorem hz_two (h : hz_RP w m ny ns nz np) (a b : Int32) : sX7_areTwo m a b ∧ fX7_areTwo m a b = fX6_areTwoPieces w a b ∧ (¬ fX6_areTwoPieces w a b = 0 → ∃ i j, i < np ∧ j < np ∧ a = nI i ∧ b = nI j) := by
  have hn : np ≤ 14 := h.2.2.1.2.2.2
  obtain ⟨s, e1, e2⟩ := hz_pz h a
  obtain ⟨s2, e3, e4⟩ := hz_pz h b
  unfold sX7_areTwo fX7_areTwo fX6_areTwoPieces
  rw [e1, e2, e3, e4]
  refine ⟨⟨s, fun _ => trivial, fun _ => ⟨s2, fun _ => trivial, fun _ => ⟨fun _ => trivial, fun _ => trivial⟩⟩⟩, rfl, fun c => ?_⟩
  by_cases c1 : hz_is np a = 0
  · rw [if_pos c1] at c; exact absurd rfl c
  · rw [if_neg c1] at c
    by_cases c2 : hz_is np b = 0
    · rw [if_pos c2] at c; exact absurd rfl c
    · obtain ⟨i, hi, rfl⟩ := hz_is_of (by omega) c1
      obtain ⟨j, hj, rfl⟩ := hz_is_of (by omega) c2
      exact ⟨i, j, hi, hj, rfl, rfl⟩
theorem hq_isMatch (h : hz_RP w m ny ns nz np) (a b : Int32) : sX7_isMatch m a b ∧ fX7_isMatch m a b = fX6_isMatch w a b := by
  obtain ⟨s, e, hx⟩ := hz_two h a b
  unfold sX7_isMatch fX7_isMatch fX6_isMatch
  rw [e]
  by_cases c : fX6_areTwoPieces w a b = 0
  · rw [if_pos c, if_pos c]
    exact ⟨⟨s, fun _ => trivial, fun h => absurd c h⟩, rfl⟩
  · obtain ⟨i, j, hi, hj, rfl, rfl⟩ := hx c
    obtain ⟨e1, s1⟩ := hz_match (hz_rp h) hi hj
    rw [if_neg c, if_neg c, e1]
    exact ⟨⟨s, fun h => absurd h c, fun _ => ⟨s1, fun _ => trivial, fun _ => trivial⟩⟩, rfl⟩
theorem hq_gap (h : hz_RP w m ny ns nz np) (a b : Int32) : sX7_gap m a b ∧ fX7_gap m a b = fX6_gap w a b := by
  obtain ⟨s, e, hx⟩ := hz_two h a b
  unfold sX7_gap fX7_gap fX6_gap
  rw [e]
  by_cases c : fX6_areTwoPieces w a b = 0
  · rw [if_pos c, if_pos c]
    exact ⟨⟨s, fun _ => trivial, fun h => absurd c h⟩, rfl⟩
  · obtain ⟨i, j, hi, hj, rfl, rfl⟩ := hx c
    obtain ⟨e1, s1⟩ := hz_gap (hz_rp h) hi hj
    rw [if_neg c, if_neg c, e1]
    exact ⟨⟨s, fun h => absurd h c, fun _ => ⟨s1, trivial⟩⟩, rfl⟩
theorem hq_ifBoarded (h : hz_RP w m ny ns nz np) (a b : Int32) : sX7_ifBoarded m a b ∧ fX7_ifBoarded m a b = fX6_ifBoarded w a b := by
  have hn : np ≤ 14 := h.2.2.1.2.2.2
  have hns : ns ≤ 8 := h.2.2.1.2.1
  obtain ⟨s, e1, e2⟩ := hz_pz h a
  obtain ⟨s2, e3, e4⟩ := hz_shz h b
  unfold sX7_ifBoarded fX7_ifBoarded fX6_ifBoarded
  rw [e1, e2, e3, e4]
  by_cases c : hz_is np a = 0
  · rw [if_pos c, if_pos c]
    exact ⟨⟨s, fun _ => trivial, fun h => absurd c h⟩, rfl⟩
  · rw [if_neg c, if_neg c]
    by_cases c2 : hz_is ns b = 0
    · rw [if_pos c2, if_pos c2]
      exact ⟨⟨s, fun _ => trivial, fun _ => ⟨s2, fun _ => trivial, fun h => absurd c2 h⟩⟩, rfl⟩
    · obtain ⟨i, hi, rfl⟩ := hz_is_of (by omega) c
      obtain ⟨j, hj, rfl⟩ := hz_is_of (by omega) c2
      obtain ⟨d1, d2, d3⟩ := hz_done (hz_rp h) hi
      obtain ⟨t1, t2⟩ := hz_tear (hz_rp h) hi hj
      obtain ⟨l1, l2, l3⟩ := hz_lon (hz_rp h) hi hj
      obtain ⟨o1, o2⟩ := hz_lenOn (hz_rp h) hi hj
      rw [if_neg c2, if_neg c2, o1]
      refine ⟨⟨s, fun _ => trivial, fun _ => ⟨s2, fun _ => trivial, fun _ => ⟨d1, fun _ => ⟨t2, fun _ => ⟨l2, trivial⟩, fun _ => trivial⟩, fun _ => trivial⟩⟩⟩, ?_⟩
      by_cases c3 : fX7_isDone m (nI i) = 0
      · rw [if_pos c3, if_neg (d2.mp c3)]
      · have c4 : fX5_canBeBoarded (w.2.2.1 1) (nI i) = 0 := Classical.byContradiction fun h => c3 (d2.mpr h)
        rw [if_neg c3, if_pos c4]
theorem hl_inState (h : hz_RP w m ny ns nz np) (z : Int32) : ∀ (fu i : Nat) (hi : i ≤ np) (s : Int32), fX7_inState_19 z m fu (nI i) s = fX6_setWhere_36_5 z w fu (nI i) s ∧ sX7_inState_19 z m fu (nI i) s := by
  intro fu
  induction fu with
  | zero => intro i hi s; exact ⟨rfl, trivial⟩
  | succ fu ih =>
    intro i hi s
    have hn := hz_np (hz_rp h)
    obtain ⟨c1, c2⟩ := hz_count (hz_rp h)
    simp only [fX7_inState_19, fX6_setWhere_36_5, sX7_inState_19, c1, c2]
    by_cases c : nI np ≤ nI i
    · rw [if_pos c, if_pos c]
      exact ⟨rfl, fun _ => trivial, fun h2 => absurd c h2⟩
    · have hi : i < np := hz_c hi (by omega) c
      obtain ⟨e, se⟩ := hz_isIn (hz_rp h) hi z
      rw [if_neg c, if_neg c, e, hz_or0, ← nI_succ]
      refine ⟨?_, fun h2 => absurd h2 c, fun _ => ⟨se, fun _ => (ih (i + 1) hi _).2, fun _ => (ih (i + 1) hi _).2⟩⟩
      by_cases c3 : fX6_at 14 ((w.2.2.1 1).2 13) (nI i) = z
      · rw [if_pos c3, if_pos c3, if_neg (by decide)]; exact (ih (i + 1) hi _).1
      · rw [if_neg c3, if_neg c3, if_pos rfl]; exact (ih (i + 1) hi _).1
theorem hz_ins (h : hz_RP w m ny ns nz np) (z : Int32) : (fX7_inState_19 z m (fuU (nI np) 0) 0 0) = (fX6_setWhere_36_5 z w (fuU (nI np) 0) 0 0) ∧ sX7_inState_19 z m (fuU (nI np) 0) 0 0 := by
  have := hl_inState h z (fuU (nI np) 0) 0 (Nat.zero_le _) 0
  rw [nI_0] at this
  exact this
theorem hq_inState (h : hz_RP w m ny ns nz np) (z : Int32) : sX7_inState m z ∧ fX7_inState m z = fX6_inState w z := by
  obtain ⟨c1, c2⟩ := hz_count (hz_rp h)
  obtain ⟨e, s⟩ := hz_ins h z
  have e0 : fX7_in z.toInt64 0 3 = fX6_isBetween z 0 3 := hz_in z 0 3
  unfold sX7_inState fX7_inState fX6_inState fX6_setWhere_36
  simp only [bnd, c1, c2, e, e0]
  unfold fX6_isBetween
  by_cases a : z < 0
  · rw [if_pos a, if_pos a, if_pos rfl]
    exact ⟨⟨fun _ => trivial, fun h => absurd rfl h⟩, rfl⟩
  · rw [if_neg a, if_neg a]
    by_cases b : z ≤ 3
    · rw [if_neg (fun x => Int32.not_le.mpr x b), if_pos b, if_neg (by decide)]
      exact ⟨⟨fun _ => trivial, fun _ => ⟨s, trivial⟩⟩, rfl⟩
    · rw [if_pos (Int32.not_le.mp b), if_neg b, if_pos rfl]
      exact ⟨⟨fun _ => trivial, fun h => absurd rfl h⟩, rfl⟩
theorem hl_ofYarn (h : hz_RP w m ny ns nz np) (z : Int32) : ∀ (fu i : Nat) (hi : i ≤ np) (s : Int32), fX7_ofYarn_25 z m fu (nI i) s = fX6_setWhere_31_5 z w fu (nI i) s ∧ sX7_ofYarn_25 z m fu (nI i) s := by
  intro fu
  induction fu with
  | zero => intro i hi s; exact ⟨rfl, trivial⟩
  | succ fu ih =>
    intro i hi s
    have hn := hz_np (hz_rp h)
    obtain ⟨c1, c2⟩ := hz_count (hz_rp h)
    simp only [fX7_ofYarn_25, fX6_setWhere_31_5, sX7_ofYarn_25, c1, c2]
    by_cases c : nI np ≤ nI i
    · rw [if_pos c, if_pos c]
      exact ⟨rfl, fun _ => trivial, fun h2 => absurd c h2⟩
    · have hi : i < np := hz_c hi (by omega) c
      rw [if_neg c, if_neg c, (hz_f (hz_rp h) hi).1, hz_or0, ← nI_succ]
      refine ⟨?_, fun h2 => absurd h2 c, fun _ => ⟨(hz_fs m (show i < 14 by omega)).1, fun _ => (ih (i + 1) hi _).2, fun _ => (ih (i + 1) hi _).2⟩⟩
      by_cases c3 : fX6_at 14 ((w.2.2.1 1).2 8) (nI i) = z
      · rw [if_pos c3, if_pos c3]; exact (ih (i + 1) hi _).1
      · rw [if_neg c3, if_neg c3]; exact (ih (i + 1) hi _).1
theorem hq_ofYarn (h : hz_RP w m ny ns nz np) (z : Int32) : sX7_ofYarn m z ∧ fX7_ofYarn m z = fX6_ofYarn w z := by
  have hy : ny ≤ 6 := h.2.2.1.1
  obtain ⟨c1, c2⟩ := hz_count (hz_rp h)
  have L := hl_ofYarn h z (fuU (nI np) 0) 0 (Nat.zero_le _) 0
  rw [nI_0] at L
  obtain ⟨e, s⟩ := L
  have e0 : fX7_in z.toInt64 0 ((((m.2.1 0) 5) - 1).toInt64) = hz_is ny z := by rw [show (m.2.1 0) 5 = nI ny from h.2.2.2.1.1]; exact hz_isb (by omega) z
  unfold sX7_ofYarn fX7_ofYarn fX6_ofYarn fX6_setWhere_31
  simp only [bnd, c1, c2, e, e0, show (w.2.2.1 1).1 0 = nI ny from h.2.1.1]
  unfold hz_is
  by_cases a : z < 0
  · rw [if_pos a, if_pos a, if_pos rfl]
    exact ⟨⟨fun _ => trivial, fun h => absurd rfl h⟩, rfl⟩
  · rw [if_neg a, if_neg a]
    by_cases b : nI ny ≤ z
    · rw [if_pos b, if_neg (fun x => Int32.not_le.mpr x b), if_pos rfl]
      exact ⟨⟨fun _ => trivial, fun h => absurd rfl h⟩, rfl⟩
    · rw [if_neg b, if_pos (Int32.not_le.mp b), if_neg (by decide)]
      exact ⟨⟨fun _ => trivial, fun _ => ⟨s, trivial⟩⟩, rfl⟩
theorem hl_ofSize (h : hz_RP w m ny ns nz np) (z : Int32) : ∀ (fu i : Nat) (hi : i ≤ np) (s : Int32), fX7_ofSize_26 z m fu (nI i) s = fX6_ofSize_15 z w fu (nI i) s ∧ sX7_ofSize_26 z m fu (nI i) s := by
  intro fu
  induction fu with
  | zero => intro i hi s; exact ⟨rfl, trivial⟩
  | succ fu ih =>
    intro i hi s
    have hn := hz_np (hz_rp h)
    obtain ⟨c1, c2⟩ := hz_count (hz_rp h)
    simp only [fX7_ofSize_26, fX6_ofSize_15, sX7_ofSize_26, c1, c2]
    by_cases c : nI np ≤ nI i
    · rw [if_pos c, if_pos c]
      exact ⟨rfl, fun _ => trivial, fun h2 => absurd c h2⟩
    · have hi : i < np := hz_c hi (by omega) c
      obtain ⟨e, se⟩ := hz_sizeP (hz_rp h) hi
      rw [if_neg c, if_neg c, e, hz_or0, ← nI_succ]
      refine ⟨?_, fun h2 => absurd h2 c, fun _ => ⟨se, fun _ => (ih (i + 1) hi _).2, fun _ => (ih (i + 1) hi _).2⟩⟩
      by_cases c3 : fX5_sizeOfPiece (w.2.2.1 1) (nI i) = z
      · rw [if_pos c3, if_pos c3]; exact (ih (i + 1) hi _).1
      · rw [if_neg c3, if_neg c3]; exact (ih (i + 1) hi _).1
theorem hq_ofSize (h : hz_RP w m ny ns nz np) (z : Int32) : sX7_ofSize m z ∧ fX7_ofSize m z = fX6_ofSize w z := by
  obtain ⟨c1, c2⟩ := hz_count (hz_rp h)
  have L := hl_ofSize h z (fuU (nI np) 0) 0 (Nat.zero_le _) 0
  rw [nI_0] at L
  obtain ⟨e, s⟩ := L
  obtain ⟨z1, z2⟩ := hz_szz h z
  unfold sX7_ofSize fX7_ofSize fX6_ofSize
  simp only [bnd, c1, c2, e, z1, z2]
  exact ⟨⟨fun _ => trivial, fun _ => ⟨s, trivial⟩⟩, trivial⟩
theorem hq_sorted (h : hz_RP w m ny ns nz np) (z : Int32) : sX7_sorted m z ∧ fX7_sorted m z = fX6_sorted w z := by
  obtain ⟨c1, c2⟩ := hz_count (hz_rp h)
  have L := hz_sortL (hz_rp h) (w := w) rfl z (fuU (nI np) 0) 0 (Nat.zero_le _)
  rw [nI_0] at L
  obtain ⟨e, s⟩ := L
  unfold sX7_sorted fX7_sorted fX6_sorted
  simp only [c1, c2, e]
  exact ⟨⟨fun _ => s, fun _ => trivial⟩, trivial⟩
theorem hl_near (h : hz_RP w m ny ns nz np) {a : Nat} (ha : a < np) : ∀ (fu i : Nat) (hi : i ≤ np) (b : Int32) (hb : b = -1 ∨ ∃ j, j < np ∧ b = nI j), fX7_nearest_15 (nI a) m fu (nI i) b = fX6_nearest_15 (nI a) w fu (nI i) b ∧ sX7_nearest_15 (nI a) m fu (nI i) b := by
  intro fu
  induction fu with
  | zero => intro i hi b hb; exact ⟨rfl, trivial⟩
  | succ fu ih =>
    intro i hi b hb
    have hn := hz_np (hz_rp h)
    obtain ⟨c1, c2⟩ := hz_count (hz_rp h)
    simp only [fX7_nearest_15, fX6_nearest_15, sX7_nearest_15, c1, c2]
    by_cases c : nI np ≤ nI i
    · rw [if_pos c, if_pos c]
      exact ⟨rfl, fun _ => trivial, fun h2 => absurd c h2⟩
    · have hi : i < np := hz_c hi (by omega) c
      obtain ⟨e, se⟩ := hz_match (hz_rp h) ha hi
      obtain ⟨g1, gs1⟩ := hz_gap (hz_rp h) ha hi
      have r1 := ih (i + 1) hi b hb
      have r2 := ih (i + 1) hi (nI i) (Or.inr ⟨i, hi, rfl⟩)
      rw [if_neg c, if_neg c, e, g1, ← nI_succ]
      by_cases c3 : fX5_fits (w.2.2.1 1) (nI a) (nI i) = 0
      · rw [if_pos c3, if_pos c3]
        exact ⟨r1.1, fun h2 => absurd h2 c, fun _ => ⟨se, fun _ => r1.2, fun h2 => absurd c3 h2⟩⟩
      · rw [if_neg c3, if_neg c3]
        by_cases c4 : b = -1
        · rw [if_pos c4, if_pos c4]
          exact ⟨r2.1, fun h2 => absurd h2 c, fun _ => ⟨se, fun h2 => absurd h2 c3, fun _ => ⟨fun _ => r2.2, fun h2 => absurd c4 h2⟩⟩⟩
        · obtain ⟨j, hj, rfl⟩ := hb.resolve_left c4
          obtain ⟨g2, gs2⟩ := hz_gap (hz_rp h) ha hj
          rw [if_neg c4, if_neg c4, g2]
          refine ⟨?_, fun h2 => absurd h2 c, fun _ => ⟨se, fun h2 => absurd h2 c3, fun _ => ⟨fun h2 => absurd h2 c4, fun _ => ⟨gs1, gs2, fun _ => r1.2, fun _ => r2.2⟩⟩⟩⟩
          by_cases c5 : fX5_gapOf (w.2.2.1 1) (nI a) (nI j) ≤ fX5_gapOf (w.2.2.1 1) (nI a) (nI i)
          · rw [if_pos c5, if_pos c5]; exact r1.1
          · rw [if_neg c5, if_neg c5]; exact r2.1
theorem hq_nearest (h : hz_RP w m ny ns nz np) (z : Int32) : sX7_nearest m z ∧ fX7_nearest m z = fX6_nearest w z := by
  have hn : np ≤ 14 := h.2.2.1.2.2.2
  obtain ⟨s, e1, e2⟩ := hz_pz h z
  obtain ⟨c1, c2⟩ := hz_count (hz_rp h)
  unfold sX7_nearest fX7_nearest fX6_nearest
  simp only [bnd, c1, c2, e1, e2]
  by_cases c : hz_is np z = 0
  · rw [if_pos c, if_pos c]
    exact ⟨⟨s, fun _ => trivial, fun h => absurd c h⟩, rfl⟩
  · obtain ⟨i, hi, rfl⟩ := hz_is_of (by omega) c
    have L := hl_near h hi (fuU (nI np) 0) 0 (Nat.zero_le _) (-1) (Or.inl rfl)
    rw [nI_0] at L
    rw [if_neg c, if_neg c, L.1]
    exact ⟨⟨s, fun h => absurd h c, fun _ => ⟨L.2, trivial⟩⟩, rfl⟩
theorem hl_shapeFor (h : hz_RP w m ny ns nz np) {a : Nat} (ha : a < np) (z : Int32) : ∀ (fu i : Nat) (hi : i ≤ ns) (x b : Int32), fX7_shapeFor_44 (nI a) z m fu (nI i) x b = fX6_shapeFor_46 (nI a) z w fu (nI i) x b ∧ sX7_shapeFor_44 (nI a) z m fu (nI i) x b := by
  intro fu
  induction fu with
  | zero => intro i hi x b; exact ⟨rfl, trivial⟩
  | succ fu ih =>
    intro i hi x b
    have hns : ns ≤ 8 := h.2.2.1.2.1
    simp only [fX7_shapeFor_44, fX6_shapeFor_46, sX7_shapeFor_44, show (m.2.1 0) 6 = nI ns from h.2.2.2.1.2.1, show (w.2.2.1 1).1 1 = nI ns from h.2.1.2.1]
    by_cases c : nI ns ≤ nI i
    · rw [if_pos c, if_pos c]
      exact ⟨rfl, fun _ => trivial, fun h2 => absurd c h2⟩
    · have hi : i < ns := hz_c hi (by omega) c
      obtain ⟨t1, t2⟩ := hz_tear (hz_rp h) ha hi
      obtain ⟨l1, l2, l3⟩ := hz_lon (hz_rp h) ha hi
      obtain ⟨o1, o2⟩ := hz_lenOn (hz_rp h) ha hi
      have r := ih (i + 1) hi
      rw [if_neg c, if_neg c, ← nI_succ]
      by_cases c3 : fX7_wouldTear m (nI a) (nI i) = 0
      · have c4 : ¬ fX5_lengthOn (w.2.2.1 1) (nI a) (nI i) = -1 := fun e => o2.mp e c3
        rw [if_pos c3] at o1
        rw [if_pos c3, if_neg c4, o1]
        refine ⟨?_, fun h2 => absurd h2 c, fun _ => ⟨t2, fun _ => ?_, fun h2 => absurd c3 h2⟩⟩
        · by_cases c5 : b = -1
          · rw [if_pos c5, if_pos c5]; exact (r _ _).1
          · rw [if_neg c5, if_neg c5]
            by_cases c6 : iab (fX7_lengthOn m (nI a) (nI i) - z) < x
            · rw [if_pos c6, if_neg (Int32.not_le.mpr c6)]; exact (r _ _).1
            · rw [if_neg c6, if_pos (Int32.not_lt.mp c6)]; exact (r _ _).1
        · exact ⟨l2, fun _ => (r _ _).2, fun _ => ⟨fun _ => (r _ _).2, fun _ => (r _ _).2⟩⟩
      · have c4 : fX5_lengthOn (w.2.2.1 1) (nI a) (nI i) = -1 := o2.mpr c3
        rw [if_neg c3, if_pos c4]
        exact ⟨(r _ _).1, fun h2 => absurd h2 c, fun _ => ⟨t2, fun h2 => absurd h2 c3, fun _ => (r _ _).2⟩⟩
theorem hq_shapeFor (h : hz_RP w m ny ns nz np) (a b : Int32) : sX7_shapeFor m a b ∧ fX7_shapeFor m a b = fX6_shapeFor w a b := by
  have hn : np ≤ 14 := h.2.2.1.2.2.2
  obtain ⟨s, e1, e2⟩ := hz_pz h a
  have e0 : fX7_in b.toInt64 500 9999 = fX6_isBetween b 500 9999 := hz_in b 500 9999
  unfold sX7_shapeFor fX7_shapeFor fX6_shapeFor
  simp only [bnd, e1, e2, e0, show (m.2.1 0) 6 = nI ns from h.2.2.2.1.2.1, show (w.2.2.1 1).1 1 = nI ns from h.2.1.2.1]
  by_cases c : hz_is np a = 0
  · rw [if_pos c, if_pos c]
    exact ⟨⟨s, fun _ => trivial, fun h => absurd c h⟩, rfl⟩
  · rw [if_neg c, if_neg c]
    by_cases c2 : fX6_isBetween b 500 9999 = 0
    · rw [if_pos c2, if_pos c2]
      exact ⟨⟨s, fun h => absurd h c, fun _ => ⟨fun _ => trivial, fun h => absurd c2 h⟩⟩, rfl⟩
    · obtain ⟨i, hi, rfl⟩ := hz_is_of (by omega) c
      obtain ⟨d1, d2, d3⟩ := hz_done (hz_rp h) hi
      have L := hl_shapeFor h hi b (fuU (nI ns) 0) 0 (Nat.zero_le _) 0 (-1)
      rw [nI_0] at L
      rw [if_neg c2, if_neg c2, L.1]
      refine ⟨⟨s, fun h => absurd h c, fun _ => ⟨fun h => absurd h c2, fun _ => ⟨d1, fun _ => ⟨L.2, trivial⟩, fun _ => trivial⟩⟩⟩, ?_⟩
      by_cases c3 : fX7_isDone m (nI i) = 0
      · rw [if_pos c3, if_neg (d2.mp c3)]
      · have c4 : fX5_canBeBoarded (w.2.2.1 1) (nI i) = 0 := Classical.byContradiction fun h => c3 (d2.mpr h)
        rw [if_neg c3, if_pos c4]
theorem hl_range (h : hz_RP w m ny ns nz np) : ∀ (fu i : Nat) (hi : i ≤ np) (x a b : Int32), ((x = -1 ∧ a = 100000 ∧ b = 9999) ∨ (¬ x = -1 ∧ a = b ∧ a.toInt ≤ 9999)) → sX7_lengthRange_7 m fu (nI i) x a ∧ (fX7_lengthRange_7 m fu (nI i) x a).2.1 = (fX6_lengthRange_8 w fu (nI i) x b).2.1 ∧ (¬ (fX6_lengthRange_8 w fu (nI i) x b).2.1 = -1 → (fX7_lengthRange_7 m fu (nI i) x a).2.2 = (fX6_lengthRange_8 w fu (nI i) x b).2.2) := by
  intro fu
  induction fu with
  | zero => intro i hi x a b hab; exact ⟨trivial, rfl, fun hx => by rcases hab with h | h; exact absurd h.1 hx; exact h.2.1⟩
  | succ fu ih =>
    intro i hi x a b hab
    have hn := hz_np (hz_rp h)
    obtain ⟨c1, c2⟩ := hz_count (hz_rp h)
    simp only [fX7_lengthRange_7, fX6_lengthRange_8, sX7_lengthRange_7, c1, c2]
    by_cases c : nI np ≤ nI i
    · rw [if_pos c, if_pos c]
      exact ⟨⟨fun _ => trivial, fun h2 => absurd c h2⟩, rfl, fun hx => by rcases hab with h | h; exact absurd h.1 hx; exact h.2.1⟩
    · have hi : i < np := hz_c hi (by omega) c
      obtain ⟨e, se⟩ := hz_isIn (hz_rp h) hi 1
      have s3 := (hz_fs m (show i < 14 by omega)).2.2.2.1
      have ei : fX5_isBoarded (w.2.2.1 1) (nI i) = fX7_isIn m (nI i) 1 := by rw [e]; rfl
      rw [if_neg c, if_neg c, ei, (hz_f (hz_rp h) hi).2.2.2.1, ← nI_succ]
      obtain ⟨-, ⟨k1, k2⟩, -⟩ := hz_len (hz_rp h) hi
      by_cases c3 : fX7_isIn m (nI i) 1 = 0
      · rw [if_pos c3, if_pos c3]
        obtain ⟨r1, r2, r3⟩ := ih (i + 1) hi x a b hab
        exact ⟨⟨fun h2 => absurd h2 c, fun _ => ⟨se, fun _ => r1, fun h2 => absurd c3 h2⟩⟩, r2, r3⟩
      · rw [if_neg c3, if_neg c3]
        have hx2 : ¬ imx x (fX6_at 14 ((w.2.2.1 1).2 11) (nI i)) = -1 := fun e => by
          rw [hz_inj, hz_imx, show (-1 : Int32).toInt = -1 from rfl] at e
          omega
        have hm : imn a (fX6_at 14 ((w.2.2.1 1).2 11) (nI i)) = imn b (fX6_at 14 ((w.2.2.1 1).2 11) (nI i)) ∧ (imn a (fX6_at 14 ((w.2.2.1 1).2 11) (nI i))).toInt ≤ 9999 := by
          rcases hab with ⟨x1, x2, x3⟩ | ⟨x1, x2, x3⟩
          · rw [hz_inj, hz_imn, hz_imn, x2, x3, show (100000 : Int32).toInt = 100000 from rfl, show (9999 : Int32).toInt = 9999 from rfl]
            omega
          · rw [← x2]
            refine ⟨rfl, ?_⟩
            rw [hz_imn]; omega
        obtain ⟨r1, r2, r3⟩ := ih (i + 1) hi _ _ (imn b (fX6_at 14 ((w.2.2.1 1).2 11) (nI i))) (Or.inr ⟨hx2, hm.1, hm.2⟩)
        exact ⟨⟨fun h2 => absurd h2 c, fun _ => ⟨se, fun h2 => absurd h2 c3, fun _ => ⟨s3, s3, r1⟩⟩⟩, r2, r3⟩
theorem hq_lengthRange (h : hz_RP w m ny ns nz np) : sX7_lengthRange m ∧ fX7_lengthRange m = fX6_lengthRange w := by
  obtain ⟨c1, c2⟩ := hz_count (hz_rp h)
  have L := hl_range h (fuU (nI np) 0) 0 (Nat.zero_le _) (-1) 100000 9999 (Or.inl ⟨rfl, rfl, rfl⟩)
  rw [nI_0] at L
  obtain ⟨s, e1, e2⟩ := L
  unfold sX7_lengthRange fX7_lengthRange fX6_lengthRange
  simp only [bnd, c1, c2]
  refine ⟨⟨s, fun _ => trivial, fun _ => trivial⟩, ?_⟩
  rw [e1]
  by_cases c : (fX6_lengthRange_8 w (fuU (nI np) 0) 0 (-1) 9999).2.1 = -1
  · rw [if_pos c, if_pos c]
  · rw [if_neg c, if_neg c, e2 c]
end HZN
