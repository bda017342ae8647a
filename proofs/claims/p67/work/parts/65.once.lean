/-! A statement that may stand once. -/
section HZZ
variable {L : Nat} {g : Nat → Nat} {w : Wd} {m : Md} {s q k : Nat}
theorem hz_once (h : hz_tx L g w m) (ho : hz_prs L g w m s q k) {i : Nat} (hi : i < 3) {v : Int32} (hf : (v = 0 ∧ bt (m.1 11) i = false) ∨ (¬ v = 0 ∧ bt (m.1 11) i = true)) : sX7_once m (nI i) ∧ (∀ j, ¬ j = 5 → ¬ j = 6 → ¬ j = 7 → ¬ j = 8 → ¬ j = 9 → ¬ j = 10 → ¬ j = 11 → (fX7_once m (nI i)).1 j = m.1 j) ∧ (fX7_once m (nI i)).1 11 = m.1 11 ||| ((1 : Int32) <<< (nI i &&& 31)) ∧ (fX7_once m (nI i)).2 = m.2 ∧ hz_either L g (fX4_startStatement w v 3) (fX7_once m (nI i)) q := by
  have hb : fX7_hasBit (m.1 11) (nI i) = (if bt (m.1 11) i then 1 else 0) := hz_hb _ (by omega)
  unfold sX7_once fX7_once fX4_startStatement
  simp only [hz_bid]
  simp only [hz_bnd]
  rw [hb]
  rcases hf with ⟨hv, h0⟩ | ⟨hv, h1⟩
  · rw [h0, if_pos hv]
    generalize m.1 11 ||| ((1 : Int32) <<< (nI i &&& 31)) = x
    have h' : hz_tx L g w (mS m 11 x) := h
    have ho' : hz_prs L g w (mS m 11 x) s q k := ho
    obtain ⟨g1, -, g3, g4, s1, q1, k1, g5, g6⟩ := hz_go h' ho'
    rw [g3]
    generalize fX7_advance (mS m 11 x) = Y at *
    refine ⟨⟨fun _ => ⟨g1, trivial⟩, fun hh => absurd rfl hh⟩, ?_⟩
    rw [if_neg (show ¬ (false = true) by decide), if_pos rfl]
    exact ⟨fun j a1 a2 a3 a4 a5 a6 a7 => (g4.1 j a1 a2 a3 a4 a5 a6).trans (if_neg a7), g4.1 11 (by decide) (by decide) (by decide) (by decide) (by decide) (by decide), g4.2, Or.inr ⟨s1, q1, k1, g5, g6⟩⟩
  · rw [h1, if_neg hv]
    obtain ⟨f1, f2⟩ := hz_fl ho (z := 3) (by decide)
    have fb := hz_badM f1
    have e11 : (fX7_fail m 3).1 11 = m.1 11 := f2.1 11 (by decide) (by decide) (by decide) (by decide) (by decide) (by decide)
    rw [e11]
    generalize m.1 11 ||| ((1 : Int32) <<< (nI i &&& 31)) = x
    generalize fX7_fail m 3 = Y at *
    have fb2 : ¬ (mS Y 11 x).1 9 = 0 := fb
    obtain ⟨f3, f4⟩ := hz_goB fb2
    rw [f4]
    have hbad : hz_bad (fX4_refuse w 3) (mS Y 11 x) := f1
    refine ⟨⟨fun hh => absurd hh (by decide), fun _ => ⟨f3, trivial⟩⟩, ?_⟩
    rw [if_pos rfl, if_neg (show ¬ (1 : Int32) = 0 by decide)]
    exact ⟨fun j a1 a2 a3 a4 a5 a6 a7 => (if_neg a7).trans (f2.1 j a1 a2 a3 a4 a5 a6), rfl, f2.2, Or.inl (hz_badC hbad (hz_ckA _))⟩
end HZZ
