/-! Reading: one token further. -/
section HZZ
variable {L : Nat} {g : Nat → Nat} {w : Wd} {m : Md}
theorem hl_adv (h : hz_tx L g w m) {q : Nat} (hq : q ≤ L) (hw : w.1 6 = nI q) (hm : m.1 5 = nI q) : sX7_advance m ∧ (∃ s e k, q ≤ s ∧ hz_tok L g (fX4_advance w) (fX7_advance m) s e k) ∧ hz_fw w (fX4_advance w) ∧ hz_fm m (fX7_advance m) := by
  have hL := h.1
  obtain ⟨F, hF⟩ : ∃ F : Nat, 1300 = F := ⟨_, rfl⟩
  have hFb : 1201 < F := by omega
  have hf0 := hz_fuB (q := q) (by omega)
  obtain ⟨a1, s, s1, s2, a2, a3⟩ := hl_sk (L - q) q (fuU 2147483647 (w.1 6)) F w m (by omega) (by rw [hw]; omega) (by omega) h hw hm
  generalize hX : fX4_advance_0 (fuU 2147483647 (w.1 6)) w = X at a2
  generalize hY : fX7_advance_0 F m = Y at a3
  obtain ⟨x1, x2, x3⟩ := a2
  obtain ⟨y1, y2, y3⟩ := a3
  have hT : hz_tx L g X (mS Y 6 (nI s)) := hz_txS h (x2 3 (by decide)) (show Y.1 4 = m.1 4 from y2 4 (by decide)) (by rw [x3]) (by show Y.2.1 7 = _; rw [y3])
  obtain ⟨b1, b2⟩ := hz_bA hT (q := s) s2
  have c3 : X.1 3 = nI L := hT.2.1
  have hfs := hz_fuB (q := s) (by omega)
  obtain ⟨p1, e, p2, p3, p4, p5, p6, p7⟩ := hl_le (L := L) (g := g) (L - s) s (fuU 2147483647 (nI s)) F (wS (wS (wS X 5 (nI s)) 7 0) 4 1) (mS Y 6 (nI s)) (by omega) (by omega) (by omega) (hz_txS hT rfl rfl rfl rfl) x1 y1
  obtain ⟨d1, f, d2, d3, d5, d6, d7, d8⟩ := hl_di (L := L) (g := g) (L - s) s (fuU 2147483647 (nI s)) F (wS (wS (wS X 5 (nI s)) 7 0) 4 2) (mS (mS Y 6 (nI s)) 8 0) (by omega) (by omega) (by omega) (hz_txS hT rfl rfl rfl rfl) x1 y1 (Or.inl ⟨0, by omega, rfl, rfl⟩)
  refine ⟨hz_adv7s m F hF Y hY a1 (by rw [y1]; exact b1) (fun _ _ _ => by rw [y1]; exact d1) (fun _ _ => by rw [y1]; exact p1), ?_⟩
  rw [hz_adv4 w X hX, hz_adv7 m F hF Y hY, y1, x1, c3, b2]
  generalize fX4_advance_95 (fuU 2147483647 (nI s)) (wS (wS (wS X 5 (nI s)) 7 0) 4 1) = W1 at *
  generalize fX7_advance_83 F (mS Y 6 (nI s)) = M1 at *
  generalize fX4_advance_158 (fuU 2147483647 (nI s)) (wS (wS (wS X 5 (nI s)) 7 0) 4 2) = W2 at *
  generalize fX7_advance_144 F (mS (mS Y 6 (nI s)) 8 0) = M2 at *
  by_cases c : s < L
  · have hb := (h.2.2.2 s c).1
    have ei : fX7_in ((nI (g s)).toInt64) 97 122 = fX6_isBetween (nI (g s)) 97 122 := hz_in (nI (g s)) 97 122
    have ej : fX7_in ((nI (g s)).toInt64) 48 57 = fX6_isBetween (nI (g s)) 48 57 := hz_in (nI (g s)) 48 57
    have cl : nI s < nI L := by rw [nI_ltI (by omega) (by omega)]; exact c
    have cm : ¬ nI (g s) = -1 := fun h => by
      rw [hz_inj, nI_toInt (by omega), show (-1 : Int32).toInt = -1 from rfl] at h
      omega
    rw [if_pos c, if_pos cl, if_neg cm, hz_cA hT c, hz_isl _ hb, hz_dig _ hb, ei, ej, hz_letM _ hb, hz_digM _ hb]
    by_cases l : 97 ≤ g s ∧ g s ≤ 122
    · rw [if_pos l, if_neg (show ¬ (1 : Int32) = 0 by decide), if_neg (show ¬ (1 : Int32) = 0 by decide)]
      have he : s < e := by
        rcases Nat.lt_or_ge s e with k | k
        · exact k
        · have : e = s := by omega
          subst this
          exact absurd l (p5 c)
      refine ⟨⟨s, e, 1, s1, (p6.2.1 5 (by decide)).trans rfl, (p7.2.1 6 (by decide)).trans rfl, p6.1, p7.1, (p6.2.1 4 (by decide)).trans rfl, rfl, p2, p3, Or.inr (Or.inl ⟨rfl, he, p4⟩)⟩, ⟨fun k h4 h5 h6 h7 => (p6.2.1 k h6).trans ((if_neg h4).trans ((if_neg h7).trans ((if_neg h5).trans (x2 k h6)))), p6.2.2.trans x3⟩, ⟨fun k h5 h6 h7 h8 => (if_neg h7).trans ((p7.2.1 k h5).trans ((if_neg h6).trans (y2 k h5))), p7.2.2.trans y3⟩⟩
    · rw [if_neg l, if_pos rfl, if_pos rfl]
      by_cases dg : 48 ≤ g s ∧ g s ≤ 57
      · rw [if_pos dg, if_neg (show ¬ (1 : Int32) = 0 by decide), if_neg (show ¬ (1 : Int32) = 0 by decide)]
        have he : s < f := by
          rcases Nat.lt_or_ge s f with k | k
          · exact k
          · have : f = s := by omega
            subst this
            exact absurd dg (d5 c)
        refine ⟨⟨s, f, 2, s1, (d6.2.1 5 (by decide) (by decide)).trans rfl, (d7.2.1 6 (by decide) (by decide)).trans rfl, d6.1, d7.1, (d6.2.1 4 (by decide) (by decide)).trans rfl, rfl, d2, d3, Or.inr (Or.inr (Or.inl ⟨rfl, he, d8⟩))⟩, ⟨fun k h4 h5 h6 h7 => (d6.2.1 k h6 h7).trans ((if_neg h4).trans ((if_neg h7).trans ((if_neg h5).trans (x2 k h6)))), d6.2.2.trans x3⟩, ⟨fun k h5 h6 h7 h8 => (if_neg h7).trans ((d7.2.1 k h5 h8).trans ((if_neg h8).trans ((if_neg h6).trans (y2 k h5)))), d7.2.2.trans y3⟩⟩
      · rw [if_neg dg, if_pos rfl, if_pos rfl]
        refine ⟨⟨s, s + 1, 3, s1, rfl, rfl, (nI_succ s).symm, (nI_succ s).symm, rfl, rfl, by omega, by omega, Or.inr (Or.inr (Or.inr ⟨rfl, rfl, rfl⟩))⟩, ⟨fun k h4 h5 h6 h7 => (if_neg h6).trans ((if_neg h4).trans ((if_neg h7).trans ((if_neg h5).trans (x2 k h6)))), x3⟩, ⟨fun k h5 h6 h7 h8 => (if_neg h5).trans ((if_neg h8).trans ((if_neg h7).trans ((if_neg h6).trans (y2 k h5)))), y3⟩⟩
  · have cl : ¬ nI s < nI L := by rw [nI_ltI (by omega) (by omega)]; exact c
    rw [if_neg c, if_neg cl, if_pos rfl]
    have e1 : s = L := by omega
    refine ⟨⟨s, s, 0, s1, rfl, rfl, x1, y1, rfl, rfl, by omega, by omega, Or.inl ⟨rfl, e1⟩⟩, ⟨fun k h4 h5 h6 h7 => (if_neg h4).trans ((if_neg h7).trans ((if_neg h5).trans (x2 k h6))), x3⟩, ⟨fun k h5 h6 h7 h8 => (if_neg h7).trans ((if_neg h6).trans (y2 k h5)), y3⟩⟩
end HZZ
