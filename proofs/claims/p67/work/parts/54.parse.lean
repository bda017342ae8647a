/-! Reading: what a step may change; refusing; numbers. -/
def hz_cf (w w1 : Wd) : Prop := (∀ k, ¬ k = 1 → ¬ k = 2 → ¬ k = 4 → ¬ k = 5 → ¬ k = 6 → ¬ k = 7 → w1.1 k = w.1 k) ∧ w1.2 = w.2
def hz_ck (w w1 : Wd) : Prop := hz_cf w w1 ∧ (¬ w.1 1 = 0 → w1.1 1 = w.1 1 ∧ w1.1 2 = w.1 2)
def hz_mf (m m1 : Md) : Prop := (∀ k, ¬ k = 5 → ¬ k = 6 → ¬ k = 7 → ¬ k = 8 → ¬ k = 9 → ¬ k = 10 → m1.1 k = m.1 k) ∧ m1.2 = m.2
def hz_bad (w : Wd) (m : Md) : Prop := ¬ w.1 1 = 0 ∧ m.1 9 = w.1 1 ∧ m.1 10 = w.1 2
def hz_prs (L : Nat) (g : Nat → Nat) (w : Wd) (m : Md) (s q k : Nat) : Prop := w.1 1 = 0 ∧ m.1 9 = 0 ∧ hz_tok L g w m s q k
theorem hz_ck0 (w : Wd) : hz_ck w w := ⟨⟨fun _ _ _ _ _ _ _ => rfl, rfl⟩, fun _ => ⟨rfl, rfl⟩⟩
theorem hz_mf0 (m : Md) : hz_mf m m := ⟨fun _ _ _ _ _ _ _ => rfl, rfl⟩
theorem hz_ckT {a b c : Wd} (h : hz_ck a b) (g : hz_ck b c) : hz_ck a c := by
  obtain ⟨⟨h1, h2⟩, h3⟩ := h
  obtain ⟨⟨g1, g2⟩, g3⟩ := g
  refine ⟨⟨fun k a1 a2 a3 a4 a5 a6 => (g1 k a1 a2 a3 a4 a5 a6).trans (h1 k a1 a2 a3 a4 a5 a6), g2.trans h2⟩, fun hn => ?_⟩
  obtain ⟨e1, e2⟩ := h3 hn
  obtain ⟨f1, f2⟩ := g3 (by rw [e1]; exact hn)
  exact ⟨f1.trans e1, f2.trans e2⟩
theorem hz_mfT {a b c : Md} (h : hz_mf a b) (g : hz_mf b c) : hz_mf a c := ⟨fun k a1 a2 a3 a4 a5 a6 => (g.1 k a1 a2 a3 a4 a5 a6).trans (h.1 k a1 a2 a3 a4 a5 a6), g.2.trans h.2⟩
theorem hz_u0 : ∀ (fu : Nat) (w : Wd), (∀ k, ¬ k = 6 → (fX4_advance_0 fu w).1 k = w.1 k) ∧ (fX4_advance_0 fu w).2 = w.2
  | 0, w => ⟨fun _ _ => rfl, rfl⟩
  | fu + 1, w => by
    have e : fX4_advance_0 (fu + 1) w = (if (w.1 3) ≤ (w.1 6) then w else (if (fX4_isBlank (fX6_at 1200 (w.2.1 0) (w.1 6))) = 0 then w else (fX4_advance_0 fu (wS w 6 ((w.1 6) + 1))))) := rfl
    rw [e]
    by_cases c1 : w.1 3 ≤ w.1 6
    · rw [if_pos c1]; exact ⟨fun _ _ => rfl, rfl⟩
    · by_cases c2 : fX4_isBlank (fX6_at 1200 (w.2.1 0) (w.1 6)) = 0
      · rw [if_neg c1, if_pos c2]; exact ⟨fun _ _ => rfl, rfl⟩
      · rw [if_neg c1, if_neg c2]
        obtain ⟨i1, i2⟩ := hz_u0 fu (wS w 6 ((w.1 6) + 1))
        exact ⟨fun k hk => (i1 k hk).trans (if_neg hk), i2⟩
theorem hz_u95 : ∀ (fu : Nat) (w : Wd), (∀ k, ¬ k = 6 → (fX4_advance_95 fu w).1 k = w.1 k) ∧ (fX4_advance_95 fu w).2 = w.2
  | 0, w => ⟨fun _ _ => rfl, rfl⟩
  | fu + 1, w => by
    have e : fX4_advance_95 (fu + 1) w = (if (w.1 3) ≤ (w.1 6) then w else (if (fX6_isLetter (fX6_at 1200 (w.2.1 0) (w.1 6))) = 0 then w else (fX4_advance_95 fu (wS w 6 ((w.1 6) + 1))))) := rfl
    rw [e]
    by_cases c1 : w.1 3 ≤ w.1 6
    · rw [if_pos c1]; exact ⟨fun _ _ => rfl, rfl⟩
    · by_cases c2 : fX6_isLetter (fX6_at 1200 (w.2.1 0) (w.1 6)) = 0
      · rw [if_neg c1, if_pos c2]; exact ⟨fun _ _ => rfl, rfl⟩
      · rw [if_neg c1, if_neg c2]
        obtain ⟨i1, i2⟩ := hz_u95 fu (wS w 6 ((w.1 6) + 1))
        exact ⟨fun k hk => (i1 k hk).trans (if_neg hk), i2⟩
theorem hz_u158 : ∀ (fu : Nat) (w : Wd), (∀ k, ¬ k = 6 → ¬ k = 7 → (fX4_advance_158 fu w).1 k = w.1 k) ∧ (fX4_advance_158 fu w).2 = w.2
  | 0, w => ⟨fun _ _ _ => rfl, rfl⟩
  | fu + 1, w => by
    have e : fX4_advance_158 (fu + 1) w = (if (w.1 3) ≤ (w.1 6) then w else (if (fX4_isDigit (fX6_at 1200 (w.2.1 0) (w.1 6))) = 0 then w else (fX4_advance_158 fu (wS (wS w 7 (imn ((((w.1 7) * 10) + (fX6_at 1200 (w.2.1 0) (w.1 6))) - 48) 100000)) 6 ((w.1 6) + 1))))) := rfl
    rw [e]
    by_cases c1 : w.1 3 ≤ w.1 6
    · rw [if_pos c1]; exact ⟨fun _ _ _ => rfl, rfl⟩
    · by_cases c2 : fX4_isDigit (fX6_at 1200 (w.2.1 0) (w.1 6)) = 0
      · rw [if_neg c1, if_pos c2]; exact ⟨fun _ _ _ => rfl, rfl⟩
      · rw [if_neg c1, if_neg c2]
        obtain ⟨i1, i2⟩ := hz_u158 fu (wS (wS w 7 (imn ((((w.1 7) * 10) + (fX6_at 1200 (w.2.1 0) (w.1 6))) - 48) 100000)) 6 ((w.1 6) + 1))
        exact ⟨fun k hk hl => (i1 k hk hl).trans ((if_neg hk).trans (if_neg hl)), i2⟩
theorem hz_fwA (w : Wd) : hz_fw w (fX4_advance w) := by
  obtain ⟨x2, x3⟩ := hz_u0 (fuU 2147483647 (w.1 6)) w
  generalize hX : fX4_advance_0 (fuU 2147483647 (w.1 6)) w = X at x2 x3
  rw [hz_adv4 w X hX]
  by_cases c1 : X.1 6 < X.1 3
  · rw [if_pos c1]
    by_cases c2 : fX6_isLetter (fX6_at 1200 (X.2.1 0) (X.1 6)) = 0
    · rw [if_pos c2]
      by_cases c3 : fX4_isDigit (fX6_at 1200 (X.2.1 0) (X.1 6)) = 0
      · rw [if_pos c3]
        exact ⟨fun k h4 h5 h6 h7 => (if_neg h6).trans ((if_neg h4).trans ((if_neg h7).trans ((if_neg h5).trans (x2 k h6)))), x3⟩
      · rw [if_neg c3]
        obtain ⟨y2, y3⟩ := hz_u158 (fuU 2147483647 (X.1 6)) (wS (wS (wS X 5 (X.1 6)) 7 0) 4 2)
        exact ⟨fun k h4 h5 h6 h7 => (y2 k h6 h7).trans ((if_neg h4).trans ((if_neg h7).trans ((if_neg h5).trans (x2 k h6)))), y3.trans x3⟩
    · rw [if_neg c2]
      obtain ⟨y2, y3⟩ := hz_u95 (fuU 2147483647 (X.1 6)) (wS (wS (wS X 5 (X.1 6)) 7 0) 4 1)
      exact ⟨fun k h4 h5 h6 h7 => (y2 k h6).trans ((if_neg h4).trans ((if_neg h7).trans ((if_neg h5).trans (x2 k h6)))), y3.trans x3⟩
  · rw [if_neg c1]
    exact ⟨fun k h4 h5 h6 h7 => (if_neg h4).trans ((if_neg h7).trans ((if_neg h5).trans (x2 k h6))), x3⟩
theorem hz_ckA (w : Wd) : hz_ck w (fX4_advance w) := by
  obtain ⟨h1, h2⟩ := hz_fwA w
  exact ⟨⟨fun k _ _ a3 a4 a5 a6 => h1 k a3 a4 a5 a6, h2⟩, fun _ => ⟨h1 1 (by decide) (by decide) (by decide) (by decide), h1 2 (by decide) (by decide) (by decide) (by decide)⟩⟩
theorem hz_ckR (w : Wd) (z : Int32) : hz_ck w (fX4_refuse w z) := by
  unfold fX4_refuse
  by_cases c : w.1 1 = 0
  · rw [if_pos c]
    exact ⟨⟨fun k a1 a2 _ _ _ _ => (if_neg a2).trans (if_neg a1), rfl⟩, fun h => absurd c h⟩
  · rw [if_neg c]; exact hz_ck0 w
theorem hz_ckRA (w : Wd) (z : Int32) : hz_ck w (fX4_advance (fX4_refuse w z)) := hz_ckT (hz_ckR w z) (hz_ckA _)
theorem hz_ckN (w : Wd) (a b : Int32) : hz_ck w (fX4_readNumber w a b).2 := by
  unfold fX4_readNumber
  simp only [bnd]
  by_cases c1 : w.1 4 = 2
  · rw [if_pos c1]
    by_cases c2 : fX6_isBetween (w.1 7) a b = 0
    · rw [if_pos c2]; exact hz_ckRA w 2
    · rw [if_neg c2]; exact hz_ckA w
  · rw [if_neg c1]; exact hz_ckRA w 1
theorem hz_badC {w w1 : Wd} {m : Md} (h : hz_bad w m) (k : hz_ck w w1) : hz_bad w1 m := by
  obtain ⟨h1, h2, h3⟩ := h
  obtain ⟨k1, k2⟩ := k.2 h1
  exact ⟨by rw [k1]; exact h1, h2.trans k1.symm, h3.trans k2.symm⟩
theorem hz_badM {w : Wd} {m : Md} (h : hz_bad w m) : ¬ m.1 9 = 0 := by rw [h.2.1]; exact h.1
theorem hz_gB {m : Md} (h : ¬ m.1 9 = 0) : fX7_good m = 0 := if_neg h
theorem hz_gG {m : Md} (h : m.1 9 = 0) : fX7_good m = 1 := if_pos h
theorem hz_goB {m : Md} (h : ¬ m.1 9 = 0) : sX7_goOn m ∧ fX7_goOn m = m := ⟨⟨fun _ => trivial, fun k => absurd (hz_gB h) k⟩, if_pos (hz_gB h)⟩
theorem hz_flB {m : Md} (h : ¬ m.1 9 = 0) (z : Int32) : fX7_fail m z = m := if_pos (hz_gB h)
section HZZ
variable {L : Nat} {g : Nat → Nat} {w : Wd} {m : Md} {s q k : Nat}
theorem hz_go (h : hz_tx L g w m) (ho : hz_prs L g w m s q k) : sX7_goOn m ∧ sX7_advance m ∧ fX7_goOn m = fX7_advance m ∧ hz_mf m (fX7_advance m) ∧ ∃ s1 q1 k1, q ≤ s1 ∧ hz_prs L g (fX4_advance w) (fX7_advance m) s1 q1 k1 := by
  obtain ⟨o1, o2, t⟩ := ho
  have hq := t.2.2.2.2.2.2.2.1
  obtain ⟨a1, ⟨s1, q1, k1, b1, b2⟩, a2, a3⟩ := hl_adv h hq t.2.2.1 t.2.2.2.1
  have hg : ¬ fX7_good m = 0 := by rw [hz_gG o2]; decide
  exact ⟨⟨fun h => absurd h hg, fun _ => ⟨a1, trivial⟩⟩, a1, if_neg hg, ⟨fun k c1 c2 c3 c4 _ _ => a3.1 k c1 c2 c3 c4, a3.2⟩, s1, q1, k1, b1, (a2.1 1 (by decide) (by decide) (by decide) (by decide)).trans o1, (a3.1 9 (by decide) (by decide) (by decide) (by decide)).trans o2, b2⟩
theorem hz_fl (ho : hz_prs L g w m s q k) {z : Int32} (hz : ¬ z = 0) : hz_bad (fX4_refuse w z) (fX7_fail m z) ∧ hz_mf m (fX7_fail m z) := by
  obtain ⟨o1, o2, t⟩ := ho
  have hg : ¬ fX7_good m = 0 := by rw [hz_gG o2]; decide
  have e1 : fX4_refuse w z = wS (wS w 1 z) 2 (w.1 5) := if_pos o1
  have e2 : fX7_fail m z = mS (mS m 9 z) 10 (m.1 6) := if_neg hg
  rw [e1, e2]
  exact ⟨⟨hz, rfl, t.2.1.trans t.1.symm⟩, ⟨fun k _ _ _ _ c5 c6 => (if_neg c6).trans (if_neg c5), rfl⟩⟩
theorem hz_numB (h : ¬ m.1 9 = 0) (a b : Int32) : sX7_number m a b ∧ fX7_number m a b = (a, m) := by
  have hg := hz_gB h
  obtain ⟨g1, g2⟩ := hz_goB h
  unfold sX7_number fX7_number
  simp only [bnd]
  rw [g2, if_pos hg, if_pos hg]
  exact ⟨⟨fun _ => ⟨g1, fun _ => trivial, fun _ => trivial⟩, fun h => absurd hg h⟩, rfl⟩
theorem hz_num (h : hz_tx L g w m) (ho : hz_prs L g w m s q k) {a b : Nat} (ha : a < 99999) (hb : b < 99999) : sX7_number m (nI a) (nI b) ∧ hz_mf m (fX7_number m (nI a) (nI b)).2 ∧ (hz_bad (fX4_readNumber w (nI a) (nI b)).2 (fX7_number m (nI a) (nI b)).2 ∨ ∃ s1 q1 k1 v, q ≤ s1 ∧ hz_prs L g (fX4_readNumber w (nI a) (nI b)).2 (fX7_number m (nI a) (nI b)).2 s1 q1 k1 ∧ (fX4_readNumber w (nI a) (nI b)).1 = nI v ∧ (fX7_number m (nI a) (nI b)).1 = nI v ∧ a ≤ v ∧ v ≤ b) := by
  have ho0 := ho
  obtain ⟨o1, o2, t⟩ := ho
  have hg : ¬ fX7_good m = 0 := by rw [hz_gG o2]; decide
  obtain ⟨g1, -, g2, g3, s1, q1, k1, g4, g5⟩ := hz_go h ho0
  have ei : fX7_in ((m.1 8).toInt64) ((nI a).toInt64) ((nI b).toInt64) = fX6_isBetween (m.1 8) (nI a) (nI b) := hz_in _ _ _
  have ek : w.1 4 = nI k := t.2.2.2.2.1
  have em : m.1 7 = nI k := t.2.2.2.2.2.1
  unfold sX7_number fX7_number fX4_readNumber
  simp only [bnd]
  rw [if_neg hg, ei, ek, em]
  by_cases k2 : k = 2
  · have c2 : nI k = 2 := by rw [k2]; rfl
    have hv : hz_nv (w.1 7) (m.1 8) := by
      rcases t.2.2.2.2.2.2.2.2 with ⟨x, _⟩ | ⟨x, _⟩ | ⟨_, _, x⟩ | ⟨x, _⟩
      · omega
      · omega
      · exact x
      · omega
    rw [if_pos c2, if_pos c2]
    have key : fX6_isBetween (w.1 7) (nI a) (nI b) = fX6_isBetween (m.1 8) (nI a) (nI b) ∧ (¬ fX6_isBetween (m.1 8) (nI a) (nI b) = 0 → ∃ v, w.1 7 = nI v ∧ m.1 8 = nI v ∧ a ≤ v ∧ v ≤ b) := by
      rcases hv with ⟨v, v1, v2, v3⟩ | ⟨v1, v2, v3⟩
      · rw [v2, v3]
        refine ⟨rfl, fun hh => ⟨v, rfl, rfl, ?_⟩⟩
        have := hz_btw1 hh
        rw [nI_toInt (by omega), nI_toInt (by omega), nI_toInt (by omega)] at this
        omega
      · have x1 : fX6_isBetween (w.1 7) (nI a) (nI b) = 0 := by
          unfold fX6_isBetween
          rw [if_neg (by rw [hz_lt, nI_toInt (by omega)]; omega), if_pos (by rw [hz_lt, nI_toInt (by omega)]; omega)]
        have x2 : fX6_isBetween (m.1 8) (nI a) (nI b) = 0 := by
          rw [v3]
          unfold fX6_isBetween
          rw [if_neg (by rw [hz_lt, nI_toInt (by omega), nI_toInt (by omega)]; omega), if_pos (by rw [hz_lt, nI_toInt (by omega), nI_toInt (by omega)]; omega)]
        exact ⟨x1.trans x2.symm, fun hh => absurd x2 hh⟩
    rw [key.1]
    by_cases c : fX6_isBetween (m.1 8) (nI a) (nI b) = 0
    · obtain ⟨f1, f2⟩ := hz_fl ho0 (z := 2) (by decide)
      have fb := hz_badM f1
      obtain ⟨f3, f4⟩ := hz_goB fb
      rw [if_pos c, if_pos c, f4, if_pos (hz_gB fb)]
      exact ⟨⟨fun h => absurd h hg, fun _ => ⟨fun _ => ⟨fun _ => ⟨f3, fun _ => trivial, fun _ => trivial⟩, fun h => absurd c h⟩, fun h => absurd c2 h⟩⟩, f2, Or.inl (hz_badC f1 (hz_ckA _))⟩
    · obtain ⟨v, v1, v2, v3, v4⟩ := key.2 c
      have gg : ¬ fX7_good (fX7_advance m) = 0 := by rw [hz_gG g5.2.1]; decide
      rw [if_neg c, if_neg c, g2, if_neg gg]
      exact ⟨⟨fun h => absurd h hg, fun _ => ⟨fun _ => ⟨fun h => absurd h c, fun _ => ⟨g1, fun _ => trivial, fun _ => trivial⟩⟩, fun h => absurd c2 h⟩⟩, g3, Or.inr ⟨s1, q1, k1, v, g4, g5, v1, v2, v3, v4⟩⟩
  · have c2 : ¬ nI k = 2 := by
      have hk3 : k ≤ 3 := by
        rcases t.2.2.2.2.2.2.2.2 with ⟨x, _⟩ | ⟨x, _⟩ | ⟨x, _, _⟩ | ⟨x, _⟩ <;> omega
      intro hh
      exact k2 (hz_nIi (a := k) (b := 2) (by omega) (by omega) hh)
    obtain ⟨f1, f2⟩ := hz_fl ho0 (z := 1) (by decide)
    have fb := hz_badM f1
    obtain ⟨f3, f4⟩ := hz_goB fb
    rw [if_neg c2, if_neg c2, f4, if_pos (hz_gB fb), if_pos (hz_gB fb)]
    exact ⟨⟨fun h => absurd h hg, fun _ => ⟨fun h => absurd h c2, fun _ => ⟨fun _ => ⟨f3, fun _ => trivial, fun _ => trivial⟩, fun h => absurd (hz_gB fb) h⟩⟩⟩, f2, Or.inl (hz_badC f1 (hz_ckA _))⟩
end HZZ
