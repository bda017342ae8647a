/-! Reading: how many pieces. -/
def hz_xt (w : Wd) : Int32 × Wd := if fX4_spells w sq10 = 0 then (1, w) else fX4_readTimes w
theorem hz_ckXt (w : Wd) : hz_ck w (hz_xt w).2 := by
  unfold hz_xt
  by_cases c : fX4_spells w sq10 = 0
  · rw [if_pos c]; exact hz_ck0 w
  · rw [if_neg c]; exact hz_ckX w
theorem hz_in64 (x : Int32) : fX7_in x.toInt64 1 14 = fX6_isBetween x (nI 1) (nI 14) := by
  have e1 : (1 : Int64) = (nI 1).toInt64 := by decide
  have e2 : (14 : Int64) = (nI 14).toInt64 := by decide
  rw [e1, e2]
  exact hz_in _ _ _
section HZZ
variable {L : Nat} {g : Nat → Nat} {w : Wd} {m : Md} {s q k np : Nat}
theorem hz_timesG {W : Wd} {M : Md} {s1 q1 k1 : Nat} (h : hz_tx L g W M) (ho : hz_prs L g W M s1 q1 k1) (hc : (W.2.2.1 0).1 8 = nI np) (hd : M.2.1 M.2.2 8 = nI np) (hn : np < 14) {X : Int32 × Wd} (hX : (if (W.1 4) = 2 then (if (fX6_isBetween (W.1 7) 1 14) = 0 then (fX4_readNumber W 1 14) else (if (((W.2.2.1 0).1 8) + (W.1 7)) ≤ 14 then (fX4_readNumber W 1 14) else (fX4_readNumber (fX4_refuse W 5) 1 14))) else (fX4_readNumber W 1 14)) = X) : sX7_times M ∧ hz_mf M (fX7_times M).2 ∧ (hz_bad X.2 (fX7_times M).2 ∨ ∃ s q k t, q1 ≤ s ∧ hz_prs L g X.2 (fX7_times M).2 s q k ∧ X.1 = nI t ∧ (fX7_times M).1 = nI t ∧ np + t ≤ 14) := by
  obtain ⟨n1, n2, n3⟩ := hz_num h ho (a := 1) (b := 14) (by omega) (by omega)
  have n1' : sX7_number M 1 14 := n1
  have hgM : ¬ fX7_good M = 0 := by rw [hz_gG ho.2.1]; decide
  obtain ⟨f1, f2⟩ := hz_fl ho (z := 5) (by decide)
  obtain ⟨b1, b2⟩ := hz_numB (hz_badM f1) 1 14
  have ek : W.1 4 = nI k1 := ho.2.2.2.2.2.2.1
  have em : M.1 7 = nI k1 := ho.2.2.2.2.2.2.2.1
  have hk3 : k1 ≤ 3 := by
    rcases ho.2.2.2.2.2.2.2.2.2.2 with ⟨x, _⟩ | ⟨x, _⟩ | ⟨x, _, _⟩ | ⟨x, _⟩ <;> omega
  refine ⟨?_, ?_⟩
  · unfold sX7_times
    simp only [hz_bnd]
    exact ⟨fun h => absurd h hgM, fun _ => ⟨fun _ => ⟨fun _ => ⟨n1', trivial⟩, fun _ => ⟨fun _ => ⟨n1', trivial⟩, fun _ => ⟨b1, trivial⟩⟩⟩, fun _ => ⟨n1', trivial⟩⟩⟩
  have eT : fX7_times M = (if nI k1 = 2 then (if (fX6_isBetween (M.1 8) (nI 1) (nI 14)) = 0 then fX7_number M 1 14 else (if nI np + M.1 8 ≤ 14 then fX7_number M 1 14 else (1, fX7_fail M 5))) else fX7_number M 1 14) := by
    unfold fX7_times
    simp only [hz_bnd, hz_eta]
    rw [if_neg hgM, hz_in64, em, hd, b2]
  rw [hc, ek] at hX
  have dir : X = fX4_readNumber W 1 14 → fX7_times M = fX7_number M 1 14 → (∀ v, X.1 = nI v → X.2.1 1 = 0 → 1 ≤ v → v ≤ 14 → np + v ≤ 14) → hz_mf M (fX7_times M).2 ∧ (hz_bad X.2 (fX7_times M).2 ∨ ∃ s q k t, q1 ≤ s ∧ hz_prs L g X.2 (fX7_times M).2 s q k ∧ X.1 = nI t ∧ (fX7_times M).1 = nI t ∧ np + t ≤ 14) := fun hx ht hv => by
    rw [ht]
    refine ⟨n2, ?_⟩
    have hx' : fX4_readNumber W (nI 1) (nI 14) = X := hx.symm
    rw [hx'] at n3
    rcases n3 with n3 | ⟨s1, q1, k1, v, a1, a2, a3, a4, a5, a6⟩
    · exact Or.inl n3
    · exact Or.inr ⟨s1, q1, k1, v, a1, a2, a3, a4, hv v a3 a2.1 a5 a6⟩
  by_cases k2 : nI k1 = 2
  · have hk : k1 = 2 := hz_nIi (a := k1) (b := 2) (by omega) (by omega) k2
    have hv : hz_nv (W.1 7) (M.1 8) := by
      rcases ho.2.2.2.2.2.2.2.2.2.2 with ⟨x, _⟩ | ⟨x, _⟩ | ⟨_, _, x⟩ | ⟨x, _⟩
      · omega
      · omega
      · exact x
      · omega
    obtain ⟨v1, v2⟩ := hz_nvB (a := 1) (b := 14) (by omega) (by omega) hv
    rw [if_pos k2] at hX eT
    have v1' : fX6_isBetween (W.1 7) 1 14 = fX6_isBetween (M.1 8) (nI 1) (nI 14) := v1
    rw [v1'] at hX
    by_cases c : fX6_isBetween (M.1 8) (nI 1) (nI 14) = 0
    · rw [if_pos c] at hX eT
      refine dir hX.symm eT (fun v a1 a2 a3 a4 => ?_)
      rw [← hX] at a2
      exact absurd (v1'.trans c) (hz_rnG ho.1 a2).2
    · rw [if_neg c] at hX eT
      obtain ⟨v, x1, x2, x3, x4⟩ := v2 (by rw [v1]; exact c)
      rw [x1, nI_add] at hX
      rw [x2, nI_add] at eT
      by_cases c2 : nI (np + v) ≤ 14
      · have c3 : np + v ≤ 14 := by
          have c4 : nI (np + v) ≤ nI 14 := c2
          rw [hz_le, nI_toInt (by omega), nI_toInt (by omega)] at c4
          omega
        rw [if_pos c2] at hX eT
        refine dir hX.symm eT (fun u a1 a2 a3 a4 => ?_)
        rw [← hX, hz_rn1, x1] at a1
        have := hz_nIi (by omega) (by omega) a1
        omega
      · rw [if_neg c2] at hX eT
        rw [eT, ← hX]
        exact ⟨f2, Or.inl (hz_badC f1 (hz_ckN _ 1 14))⟩
  · rw [if_neg k2] at hX eT
    refine dir hX.symm eT (fun v a1 a2 a3 a4 => ?_)
    rw [← hX] at a2
    exact absurd (ek.symm.trans (hz_rnG ho.1 a2).1) k2
theorem hz_timesE {p : Nat} (h : hz_tx L g w m) (hE : hz_either L g w m p) (hc : (w.2.2.1 0).1 8 = nI np) (hd : m.2.1 m.2.2 8 = nI np) (hn : w.1 1 = 0 → np < 14) : hz_tmS m ∧ hz_mf m (hz_tm m).2 ∧ (hz_bad (hz_xt w).2 (hz_tm m).2 ∨ ∃ s q k t, p ≤ s ∧ hz_prs L g (hz_xt w).2 (hz_tm m).2 s q k ∧ (hz_xt w).1 = nI t ∧ (hz_tm m).1 = nI t ∧ np + t ≤ 14) := by
  rcases hE with hB | ⟨s, q, k, hp, ho⟩
  · obtain ⟨i1, i2⟩ := hz_itB (hz_badM hB) mq31 (by decide)
    have e : hz_tm m = (1, m) := if_pos i2
    rw [e]
    exact ⟨⟨i1, fun h => absurd i2 h⟩, hz_mf0 m, Or.inl (hz_badC hB (hz_ckXt w))⟩
  · obtain ⟨i1, i2, -⟩ := hz_wr10 h ho
    have hn14 := hn ho.1
    have hsq : s ≤ q := ho.2.2.2.2.2.2.2.2.1
    by_cases c : fX4_spells w sq10 = 0
    · have c' := i2.trans c
      have e1 : hz_tm m = (1, m) := if_pos c'
      have e2 : hz_xt w = (1, w) := if_pos c
      rw [e1, e2]
      exact ⟨⟨i1, fun h => absurd c' h⟩, hz_mf0 m, Or.inr ⟨s, q, k, 1, hp, ho, rfl, rfl, by omega⟩⟩
    · have c' : ¬ fX7_isText m mq31 = 0 := by rw [i2]; exact c
      have e1 : hz_tm m = fX7_times (fX7_advance m) := if_neg c'
      have e2 : hz_xt w = fX4_readTimes w := if_neg c
      obtain ⟨-, sA, -, g4, s1, q1, k1, g5, g6⟩ := hz_go h ho
      have tx1 : hz_tx L g (fX4_advance w) (fX7_advance m) := hz_txE h (hz_fcK (hz_ckA w)) (hz_fmF g4)
      have hcA : ((fX4_advance w).2.2.1 0).1 8 = nI np := by rw [(hz_ckA w).1.2]; exact hc
      have hdA : (fX7_advance m).2.1 (fX7_advance m).2.2 8 = nI np := by rw [g4.2]; exact hd
      obtain ⟨X, hX⟩ : ∃ X, fX4_readTimes w = X := ⟨_, rfl⟩
      rw [e1, e2, hX]
      unfold fX4_readTimes at hX
      simp only [hz_bnd, hz_eta] at hX
      obtain ⟨t1, t2, t3⟩ := hz_timesG tx1 g6 hcA hdA hn14 hX
      have hsq1 : s1 ≤ q1 := g6.2.2.2.2.2.2.2.2.1
      refine ⟨⟨i1, fun _ => ⟨sA, t1⟩⟩, hz_mfT g4 t2, ?_⟩
      rcases t3 with t3 | ⟨s2, q2, k2, t, a1, a2⟩
      · exact Or.inl t3
      · exact Or.inr ⟨s2, q2, k2, t, by omega, a2⟩
end HZZ
