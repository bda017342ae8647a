/-! Reading: the end of a statement. -/
def hz_fin (m : Md) : Md := if fX7_good m = 0 then fX7_goOn m else if m.1 7 = 3 then (if m.1 8 = 59 then fX7_goOn m else fX7_goOn (fX7_fail m 1)) else fX7_goOn (fX7_fail m 1)
def hz_finS (m : Md) : Prop := sX7_goOn m ∧ sX7_goOn (fX7_fail m 1)
section HZZ
variable {L : Nat} {g : Nat → Nat} {w : Wd} {m : Md} {s q k : Nat}
theorem hz_finB (h : ¬ m.1 9 = 0) : hz_fin m = m ∧ hz_finS m := by
  obtain ⟨g1, g2⟩ := hz_goB h
  unfold hz_fin hz_finS
  rw [if_pos (hz_gB h), hz_flB h]
  exact ⟨g2, g1, g1⟩
theorem hz_ckE (w : Wd) : hz_ck w (fX4_endStatement w) := by
  unfold fX4_endStatement
  simp only [hz_bid]
  simp only [hz_bnd]
  by_cases c1 : w.1 4 = 3
  · rw [if_pos c1]
    by_cases c2 : fX6_at 1200 (w.2.1 0) (w.1 5) = 59
    · rw [if_pos c2]; exact hz_ckA w
    · rw [if_neg c2]; exact hz_ckRA w 1
  · rw [if_neg c1]; exact hz_ckRA w 1
theorem hz_end (h : hz_tx L g w m) (ho : hz_prs L g w m s q k) : hz_finS m ∧ hz_mf m (hz_fin m) ∧ (hz_bad (fX4_endStatement w) (hz_fin m) ∨ ∃ s1 q1 k1, q ≤ s1 ∧ hz_prs L g (fX4_endStatement w) (hz_fin m) s1 q1 k1) := by
  have hgd : ¬ fX7_good m = 0 := by rw [hz_gG ho.2.1]; decide
  obtain ⟨g1, -, g3, g4, s1, q1, k1, g5, g6⟩ := hz_go h ho
  obtain ⟨f1, f2⟩ := hz_fl ho (z := 1) (by decide)
  have fb := hz_badM f1
  obtain ⟨f3, f4⟩ := hz_goB fb
  have hb := hz_badC f1 (hz_ckA _)
  obtain ⟨o1, o2, t1, t2, t3, t4, t5, t6, t7, t8, t9⟩ := ho
  have hL := h.1
  have hk3 : k ≤ 3 := by
    rcases t9 with ⟨x, _⟩ | ⟨x, _⟩ | ⟨x, _, _⟩ | ⟨x, _⟩ <;> omega
  refine ⟨⟨g1, f3⟩, ?_⟩
  unfold hz_fin fX4_endStatement
  simp only [hz_bid]
  simp only [hz_bnd]
  rw [if_neg hgd, t5, t6, f4, g3]
  by_cases k1' : nI k = 3
  · have hk : k = 3 := hz_nIi (a := k) (b := 3) (by omega) (by omega) k1'
    have hv : q = s + 1 ∧ m.1 8 = nI (g s) := by
      rcases t9 with ⟨x, _⟩ | ⟨x, _, _⟩ | ⟨x, _, _⟩ | ⟨x, y, z⟩
      · omega
      · omega
      · omega
      · exact ⟨y, z⟩
    rw [if_pos k1', if_pos k1', t1, hv.2, hz_cA h (by omega)]
    by_cases c : nI (g s) = 59
    · rw [if_pos c, if_pos c]
      exact ⟨g4, Or.inr ⟨s1, q1, k1, g5, g6⟩⟩
    · rw [if_neg c, if_neg c]
      exact ⟨f2, Or.inl hb⟩
  · rw [if_neg k1', if_neg k1']
    exact ⟨f2, Or.inl hb⟩
theorem hz_ckT7 (w : Wd) (x c : Int32) : hz_ck w (fX4_takeNewName_7 w x c).2 := by
  unfold fX4_takeNewName_7
  simp only [hz_bnd]
  by_cases c1 : x = -1
  · rw [if_pos c1]; exact hz_ckRA w 1
  · rw [if_neg c1]
    by_cases c2 : fX6_indexOfName 6 ((w.2.2.1 0).2 0) c x = -1
    · rw [if_pos c2]; exact hz_ckA w
    · rw [if_neg c2]; exact hz_ckRA w 3
theorem hz_ckT10 (w : Wd) (x c : Int32) : hz_ck w (fX4_takeNewName_10 w x c).2 := by
  unfold fX4_takeNewName_10
  simp only [hz_bnd]
  by_cases c1 : x = -1
  · rw [if_pos c1]; exact hz_ckRA w 1
  · rw [if_neg c1]
    by_cases c2 : fX6_indexOfName 8 ((w.2.2.1 0).2 3) c x = -1
    · rw [if_pos c2]; exact hz_ckA w
    · rw [if_neg c2]; exact hz_ckRA w 3
theorem hz_ckT12 (w : Wd) (x c : Int32) : hz_ck w (fX4_takeNewName_12 w x c).2 := by
  unfold fX4_takeNewName_12
  simp only [hz_bnd]
  by_cases c1 : x = -1
  · rw [if_pos c1]; exact hz_ckRA w 1
  · rw [if_neg c1]
    by_cases c2 : fX6_indexOfName 6 ((w.2.2.1 0).2 5) c x = -1
    · rw [if_pos c2]; exact hz_ckA w
    · rw [if_neg c2]; exact hz_ckRA w 3
theorem hz_ckS (w : Wd) (a b : Int32) : hz_ck w (fX4_startStatement w a b) := by
  unfold fX4_startStatement
  simp only [hz_bid]
  simp only [hz_bnd]
  by_cases c1 : a = 0
  · rw [if_pos c1]; exact hz_ckA w
  · rw [if_neg c1]; exact hz_ckRA w b
theorem hz_ckKY (w : Wd) (x : Int32) : hz_ck w (fX4_takeKnownYarn_6 w x).2 := by
  unfold fX4_takeKnownYarn_6
  simp only [hz_bnd]
  by_cases c1 : x = -1
  · rw [if_pos c1]; exact hz_ckRA w 1
  · rw [if_neg c1]
    by_cases c2 : fX6_indexOfName 6 ((w.2.2.1 0).2 0) ((w.2.2.1 0).1 0) x = -1
    · rw [if_pos c2]; exact hz_ckRA w 4
    · rw [if_neg c2]; exact hz_ckA w
theorem hz_ckK (w : Wd) : hz_ck w (fX4_readKind w).2 := by
  unfold fX4_readKind
  simp only [hz_bnd]
  by_cases c1 : fX4_spells w sq8 = 0
  · rw [if_pos c1]
    by_cases c2 : fX4_spells w sq9 = 0
    · rw [if_pos c2]
      by_cases c3 : fX4_spells w sq7 = 0
      · rw [if_pos c3]; exact hz_ckRA w 1
      · rw [if_neg c3]; exact hz_ckA w
    · rw [if_neg c2]; exact hz_ckA w
  · rw [if_neg c1]; exact hz_ckA w
end HZZ
