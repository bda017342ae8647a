/-! Reading: the yarn of a piece, its kind, its number. -/
theorem hz_pAB {M : Md} (h : ¬ M.1 9 = 0) (y z : Int32) : hz_pAS M y z ∧ hz_pA M y z = M := by
  obtain ⟨g1, g2⟩ := hz_goB h
  have hg := hz_gB h
  exact ⟨⟨fun _ => g1, fun h => absurd hg h⟩, (if_pos hg).trans g2⟩
theorem hl_fiS {N z1 z2 : Nat} {m : Md} {y : Int32} (hz : z1 + z2 * N ≤ 146) (h2 : 1 ≤ z2) : ∀ (n i fv : Nat), i + n = N → n < fv → sX7_findIn_3 (nI z1) (nI z2) (nI N) y m fv (nI i) := by
  have hN2 : N ≤ 146 := by
    have : 1 * N ≤ z2 * N := Nat.mul_le_mul_right _ h2
    omega
  intro n
  induction n with
  | zero =>
    intro i fv hi hg
    obtain ⟨fv, rfl⟩ : ∃ k, fv = k + 1 := ⟨fv - 1, by omega⟩
    have c : nI N ≤ nI i := by rw [hz_le, nI_toInt (by omega), nI_toInt (by omega)]; omega
    exact ⟨fun _ => trivial, fun h => absurd c h⟩
  | succ n ih =>
    intro i fv hi hg
    obtain ⟨fv, rfl⟩ : ∃ k, fv = k + 1 := ⟨fv - 1, by omega⟩
    have hl : z1 + z2 * i < 146 := by
      have : z2 * (i + 1) ≤ z2 * N := Nat.mul_le_mul_left _ (by omega)
      rw [Nat.mul_add] at this
      omega
    have e3 : sX7_findIn_3 (nI z1) (nI z2) (nI N) y m (fv + 1) (nI i) = ((nI N ≤ nI i → True) ∧ (¬ nI N ≤ nI i → (vp_in (nI z1 + (nI z2 * nI i)) 146 ∧ ((((m.2.1 (m.2.2)) (nI z1 + (nI z2 * nI i)).toNatClampNeg) = y → True) ∧ (¬ ((m.2.1 (m.2.2)) (nI z1 + (nI z2 * nI i)).toNatClampNeg) = y → (sX7_findIn_3 (nI z1) (nI z2) (nI N) y m fv (nI i + 1))))))) := rfl
    rw [hz_ia2, ← nI_succ] at e3
    rw [e3]
    exact ⟨fun _ => trivial, fun _ => ⟨vp_in_nI (by omega) (by omega), fun _ => trivial, fun _ => ih (i + 1) fv (by omega) (by omega)⟩⟩
theorem hz_fiS {N z1 z2 : Nat} {m : Md} {y : Int32} (hz : z1 + z2 * N ≤ 146) (h2 : 1 ≤ z2) : sX7_findIn m (nI z1) (nI z2) (nI N) y := by
  have hN2 : N ≤ 146 := by
    have : 1 * N ≤ z2 * N := Nat.mul_le_mul_right _ h2
    omega
  have hf : N < fuU (nI N) 0 := by
    unfold fuU
    rw [nI_toInt (by omega), show (0 : Int32).toInt = 0 from rfl]
    omega
  unfold sX7_findIn
  generalize fuU (nI N) 0 = FF at *
  have h := hl_fiS (m := m) (y := y) hz h2 N 0 FF (by omega) hf
  rw [nI_0] at h
  exact h
theorem hl_ixV {cap N : Nat} {A : Nat → Int32} {x : Int32} (hN : N < 1000) : ∀ (n i fu : Nat), i + n = N → n < fu → fX6_indexOfName_2 cap A (nI N) x fu (nI i) = -1 ∨ ∃ j, j < N ∧ fX6_indexOfName_2 cap A (nI N) x fu (nI i) = nI j := by
  intro n
  induction n with
  | zero =>
    intro i fu hi hf
    obtain ⟨fu, rfl⟩ : ∃ k, fu = k + 1 := ⟨fu - 1, by omega⟩
    have c : nI N ≤ nI i := by rw [hz_le, nI_toInt (by omega), nI_toInt (by omega)]; omega
    exact Or.inl (if_pos c)
  | succ n ih =>
    intro i fu hi hf
    obtain ⟨fu, rfl⟩ : ∃ k, fu = k + 1 := ⟨fu - 1, by omega⟩
    have c : ¬ nI N ≤ nI i := by rw [hz_le, nI_toInt (by omega), nI_toInt (by omega)]; omega
    have e1 : fX6_indexOfName_2 cap A (nI N) x (fu + 1) (nI i) = (if nI N ≤ nI i then -1 else if fX6_at cap A (nI i) = x then nI i else fX6_indexOfName_2 cap A (nI N) x fu (nI i + 1)) := rfl
    rw [if_neg c, ← nI_succ] at e1
    rw [e1]
    by_cases k : fX6_at cap A (nI i) = x
    · rw [if_pos k]; exact Or.inr ⟨i, by omega, rfl⟩
    · rw [if_neg k]; exact ih (i + 1) fu (by omega) (by omega)
theorem hz_ixV {cap N : Nat} {A : Nat → Int32} {x : Int32} (hN : N < 1000) : fX6_indexOfName cap A (nI N) x = -1 ∨ ∃ j, j < N ∧ fX6_indexOfName cap A (nI N) x = nI j := by
  have hf : N < fuU (nI N) 0 := by
    unfold fuU
    rw [nI_toInt (by omega), show (0 : Int32).toInt = 0 from rfl]
    omega
  unfold fX6_indexOfName
  generalize fuU (nI N) 0 = FF at *
  have h := hl_ixV (cap := cap) (A := A) (x := x) hN N 0 FF (by omega) hf
  rw [nI_0] at h
  exact h
section HZZ
variable {L : Nat} {g : Nat → Nat} {w : Wd} {m : Md} {s q k ny ns nz np : Nat}
theorem hz_pAF (ho : hz_prs L g w m s q k) {y z : Int32} (hy : y = -1) (hz : ¬ z = 0) : hz_pAS m y z ∧ hz_pA m y z = fX7_fail m z ∧ hz_bad (fX4_advance (fX4_refuse w z)) (fX7_fail m z) ∧ hz_mf m (fX7_fail m z) := by
  have hgd : ¬ fX7_good m = 0 := by rw [hz_gG ho.2.1]; decide
  obtain ⟨f1, f2⟩ := hz_fl ho hz
  obtain ⟨f3, f4⟩ := hz_goB (hz_badM f1)
  exact ⟨⟨fun h => absurd h hgd, fun _ => ⟨fun _ => f3, fun h => absurd hy h⟩⟩, (if_neg hgd).trans ((if_pos hy).trans f4), hz_badC f1 (hz_ckA _), f2⟩
theorem hz_pAN (h : hz_tx L g w m) (ho : hz_prs L g w m s q k) {y : Int32} (z : Int32) (hy : ¬ y = -1) : hz_pAS m y z ∧ hz_pA m y z = fX7_advance m ∧ hz_mf m (fX7_advance m) ∧ ∃ s1 q1 k1, q ≤ s1 ∧ hz_prs L g (fX4_advance w) (fX7_advance m) s1 q1 k1 := by
  have hgd : ¬ fX7_good m = 0 := by rw [hz_gG ho.2.1]; decide
  obtain ⟨g1, -, g3, g4, g5⟩ := hz_go h ho
  exact ⟨⟨fun h => absurd h hgd, fun _ => ⟨fun h => absurd h hy, fun _ => g1⟩⟩, (if_neg hgd).trans ((if_neg hy).trans g3), g4, g5⟩
theorem hz_yarnE (h : hz_tx L g w m) (ho : hz_prs L g w m s q k) (h1 : m.2.2 = 1) (hP : hz_PR (w.2.2.1 0) (m.2.1 1) ny ns nz np) {r12 : Int32 × Md} (e12 : fX7_nameHere m = r12) {y : Int32} (ey : fX7_findIn r12.2 10 3 ((m.2.1 (m.2.2)) 5) r12.1 = y) : sX7_nameHere m ∧ sX7_findIn r12.2 10 3 ((m.2.1 (m.2.2)) 5) r12.1 ∧ hz_pAS r12.2 y 4 ∧ hz_mf m (hz_pA r12.2 y 4) ∧ (hz_bad (fX4_takeKnownYarn_6 w (fX4_nameHere w)).2 (hz_pA r12.2 y 4) ∨ ∃ s1 q1 k1 a, q ≤ s1 ∧ hz_prs L g (fX4_takeKnownYarn_6 w (fX4_nameHere w)).2 (hz_pA r12.2 y 4) s1 q1 k1 ∧ (fX4_takeKnownYarn_6 w (fX4_nameHere w)).1 = nI a ∧ y = nI a ∧ a < ny) := by
  obtain ⟨n1, n2⟩ := hz_nameHere h ho
  have hny : ny ≤ 6 := hP.2.1.1
  have hcnt : (m.2.1 (m.2.2)) 5 = nI ny := by rw [h1]; exact hP.2.2.1.1
  have hcw : (w.2.2.1 0).1 0 = nI ny := hP.1.1
  rw [hcnt] at ey ⊢
  have sf : sX7_findIn r12.2 10 3 (nI ny) r12.1 := hz_fiS (z1 := 10) (z2 := 3) (N := ny) (by omega) (by omega)
  unfold fX4_takeKnownYarn_6
  simp only [hz_bnd]
  rw [hcw]
  rcases n2 with ⟨x, y', hxy, hx1, e1, e2⟩ | ⟨e1, e2⟩
  · have e3 : r12 = (y', m) := e12.symm.trans e2
    subst e3
    have ey' : fX7_findIn m (nI 10) (nI 3) (nI ny) y' = y := ey
    have hi := (hl_find (m := m) (F := m.2.1 1) (cap := 6) (N := ny) (z1 := 10) (z2 := 3) (x := x) (y := y') (A := (w.2.2.1 0).2 0) (by rw [h1]) hny (by omega) (by omega) (by omega) hxy (fun i hi => (hP.2.2.2.2.2.1 i hi).1)).2
    rw [ey'] at hi
    rw [e1, if_neg hx1, hi]
    by_cases c : y = -1
    · obtain ⟨a1, a2, a3, a4⟩ := hz_pAF ho c (z := 4) (by decide)
      rw [if_pos c]
      show _ ∧ _ ∧ hz_pAS m y 4 ∧ hz_mf m (hz_pA m y 4) ∧ (hz_bad _ (hz_pA m y 4) ∨ _)
      rw [a2]
      exact ⟨n1, sf, a1, a4, Or.inl a3⟩
    · obtain ⟨a1, a2, a3, s1, q1, k1, a4, a5⟩ := hz_pAN h ho (4 : Int32) c
      rw [if_neg c]
      have hv : ∃ j, j < ny ∧ y = nI j := by
        rcases hz_ixV (cap := 6) (A := (w.2.2.1 0).2 0) (x := x) (show ny < 1000 by omega) with h2 | ⟨j, j1, j2⟩
        · exact absurd (hi.symm.trans h2) c
        · exact ⟨j, j1, hi.symm.trans j2⟩
      obtain ⟨j, j1, j2⟩ := hv
      show _ ∧ _ ∧ hz_pAS m y 4 ∧ hz_mf m (hz_pA m y 4) ∧ (_ ∨ ∃ s1 q1 k1 a, q ≤ s1 ∧ hz_prs L g _ (hz_pA m y 4) s1 q1 k1 ∧ y = nI a ∧ y = nI a ∧ a < ny)
      rw [a2]
      exact ⟨n1, sf, a1, a3, Or.inr ⟨s1, q1, k1, j, a4, a5, j2, j2, j1⟩⟩
  · have e3 : r12 = (0, fX7_fail m 1) := e12.symm.trans e2
    subst e3
    obtain ⟨f1, f2⟩ := hz_fl ho (z := 1) (by decide)
    obtain ⟨a1, a2⟩ := hz_pAB (hz_badM f1) y 4
    rw [e1, if_pos rfl]
    show _ ∧ _ ∧ hz_pAS (fX7_fail m 1) y 4 ∧ hz_mf m (hz_pA (fX7_fail m 1) y 4) ∧ (hz_bad _ (hz_pA (fX7_fail m 1) y 4) ∨ _)
    rw [a2]
    exact ⟨n1, sf, a1, f2, Or.inl (hz_badC f1 (hz_ckA _))⟩
theorem hz_spL {a : Sq} (h : ¬ fX4_spells w a = 0) : (w.1 6) - (w.1 5) = nI a.2.2.2.length := by
  unfold fX4_spells at h
  by_cases c1 : w.1 4 = 1
  · rw [if_pos c1] at h
    by_cases c2 : (w.1 6) - (w.1 5) = nI a.2.2.2.length
    · exact c2
    · rw [if_neg c2] at h; exact absurd rfl h
  · rw [if_neg c1] at h; exact absurd rfl h
theorem hz_kindB {M : Md} (h : ¬ M.1 9 = 0) : sX7_kindHere M := by
  obtain ⟨a1, a2⟩ := hz_itB h mq28 (by decide)
  obtain ⟨b1, b2⟩ := hz_itB h mq29 (by decide)
  obtain ⟨c1, c2⟩ := hz_itB h mq30 (by decide)
  exact ⟨a1, fun _ => ⟨b1, fun _ => ⟨c1, fun _ => trivial, fun _ => trivial⟩, fun _ => trivial⟩, fun _ => trivial⟩
theorem hz_kindE {p : Nat} (h : hz_tx L g w m) (hE : hz_either L g w m p) : sX7_kindHere m ∧ hz_pAS m (fX7_kindHere m) 1 ∧ hz_mf m (hz_pA m (fX7_kindHere m) 1) ∧ (hz_bad (fX4_readKind w).2 (hz_pA m (fX7_kindHere m) 1) ∨ ∃ s q k c, p ≤ s ∧ hz_prs L g (fX4_readKind w).2 (hz_pA m (fX7_kindHere m) 1) s q k ∧ c < 3 ∧ (fX4_readKind w).1 = nI c ∧ fX7_kindHere m = nI c) := by
  rcases hE with hB | ⟨s, q, k, hp, ho⟩
  · obtain ⟨a1, a2⟩ := hz_pAB (hz_badM hB) (fX7_kindHere m) 1
    rw [a2]
    exact ⟨hz_kindB (hz_badM hB), a1, hz_mf0 m, Or.inl (hz_badC hB (hz_ckK w))⟩
  · obtain ⟨sk, -, -⟩ := hz_kw h ho
    have hsq : s ≤ q := ho.2.2.2.2.2.2.2.2.1
    obtain ⟨-, a2, -⟩ := hz_wr7 h ho
    obtain ⟨-, b2, -⟩ := hz_wr8 h ho
    obtain ⟨-, c2, -⟩ := hz_wr9 h ho
    have x78 : ¬ fX4_spells w sq7 = 0 → fX4_spells w sq8 = 0 := fun h7 => by
      by_cases c : fX4_spells w sq8 = 0
      · exact c
      · exact absurd ((hz_spL h7).symm.trans (hz_spL c)) (by decide)
    have x79 : ¬ fX4_spells w sq7 = 0 → fX4_spells w sq9 = 0 := fun h7 => by
      by_cases c : fX4_spells w sq9 = 0
      · exact c
      · exact absurd ((hz_spL h7).symm.trans (hz_spL c)) (by decide)
    have x89 : ¬ fX4_spells w sq8 = 0 → fX4_spells w sq9 = 0 := fun h7 => by
      by_cases c : fX4_spells w sq9 = 0
      · exact c
      · exact absurd ((hz_spL h7).symm.trans (hz_spL c)) (by decide)
    have ek : fX7_kindHere m = (if fX4_spells w sq7 = 0 then (if fX4_spells w sq8 = 0 then (if fX4_spells w sq9 = 0 then -1 else 2) else 1) else 0) := by
      unfold fX7_kindHere
      rw [a2, b2, c2]
    refine ⟨sk, ?_⟩
    unfold fX4_readKind
    simp only [hz_bnd]
    by_cases c7 : fX4_spells w sq7 = 0
    · by_cases c8 : fX4_spells w sq8 = 0
      · by_cases c9 : fX4_spells w sq9 = 0
        · rw [if_pos c7, if_pos c8, if_pos c9] at ek
          obtain ⟨a1, a2, a3, a4⟩ := hz_pAF ho ek (z := 1) (by decide)
          rw [if_pos c8, if_pos c9, if_pos c7, a2]
          exact ⟨a1, a4, Or.inl a3⟩
        · rw [if_pos c7, if_pos c8, if_neg c9] at ek
          obtain ⟨a1, a2, a3, s1, q1, k1, a4, a5⟩ := hz_pAN h ho (1 : Int32) (y := fX7_kindHere m) (by rw [ek]; decide)
          rw [if_pos c8, if_neg c9, a2]
          exact ⟨a1, a3, Or.inr ⟨s1, q1, k1, 2, by omega, a5, by omega, rfl, ek⟩⟩
      · rw [if_pos c7, if_neg c8] at ek
        obtain ⟨a1, a2, a3, s1, q1, k1, a4, a5⟩ := hz_pAN h ho (1 : Int32) (y := fX7_kindHere m) (by rw [ek]; decide)
        rw [if_neg c8, a2]
        exact ⟨a1, a3, Or.inr ⟨s1, q1, k1, 1, by omega, a5, by omega, rfl, ek⟩⟩
    · have c8 := x78 c7
      have c9 := x79 c7
      rw [if_neg c7] at ek
      obtain ⟨a1, a2, a3, s1, q1, k1, a4, a5⟩ := hz_pAN h ho (1 : Int32) (y := fX7_kindHere m) (by rw [ek]; decide)
      rw [if_pos c8, if_pos c9, if_neg c7, a2]
      exact ⟨a1, a3, Or.inr ⟨s1, q1, k1, 0, by omega, a5, by omega, rfl, ek⟩⟩
theorem hz_nvB {x y : Int32} {a b : Nat} (ha : a < 99999) (hb : b < 99999) (hv : hz_nv x y) : fX6_isBetween x (nI a) (nI b) = fX6_isBetween y (nI a) (nI b) ∧ (¬ fX6_isBetween x (nI a) (nI b) = 0 → ∃ v, x = nI v ∧ y = nI v ∧ a ≤ v ∧ v ≤ b) := by
  rcases hv with ⟨v, v1, v2, v3⟩ | ⟨v1, v2, v3⟩
  · rw [v2, v3]
    refine ⟨rfl, fun hh => ⟨v, rfl, rfl, ?_⟩⟩
    have := hz_btw1 hh
    rw [nI_toInt (by omega), nI_toInt (by omega), nI_toInt (by omega)] at this
    omega
  · have x1 : fX6_isBetween x (nI a) (nI b) = 0 := by
      unfold fX6_isBetween
      rw [if_neg (by rw [hz_lt, nI_toInt (by omega)]; omega), if_pos (by rw [hz_lt, nI_toInt (by omega)]; omega)]
    have x2 : fX6_isBetween y (nI a) (nI b) = 0 := by
      rw [v3]
      unfold fX6_isBetween
      rw [if_neg (by rw [hz_lt, nI_toInt (by omega), nI_toInt (by omega)]; omega), if_pos (by rw [hz_lt, nI_toInt (by omega), nI_toInt (by omega)]; omega)]
    exact ⟨x1.trans x2.symm, fun hh => absurd x1 hh⟩
theorem hz_rn1 (w : Wd) (a b : Int32) : (fX4_readNumber w a b).1 = w.1 7 := by
  unfold fX4_readNumber
  simp only [hz_bnd]
  by_cases c1 : w.1 4 = 2
  · rw [if_pos c1]
    by_cases c2 : fX6_isBetween (w.1 7) a b = 0
    · rw [if_pos c2]
    · rw [if_neg c2]
  · rw [if_neg c1]
theorem hz_rA1 {w : Wd} {z : Int32} (h : w.1 1 = 0) (hz : ¬ z = 0) : ¬ (fX4_advance (fX4_refuse w z)).1 1 = 0 := by
  have e : (fX4_refuse w z).1 1 = z := by
    unfold fX4_refuse
    rw [if_pos h]
    rfl
  have hk := hz_ckA (fX4_refuse w z)
  rw [(hk.2 (by rw [e]; exact hz)).1, e]
  exact hz
theorem hz_rnG {w : Wd} {a b : Int32} (h : w.1 1 = 0) (h2 : (fX4_readNumber w a b).2.1 1 = 0) : w.1 4 = 2 ∧ ¬ fX6_isBetween (w.1 7) a b = 0 := by
  unfold fX4_readNumber at h2
  simp only [hz_bnd] at h2
  by_cases c1 : w.1 4 = 2
  · rw [if_pos c1] at h2
    by_cases c2 : fX6_isBetween (w.1 7) a b = 0
    · rw [if_pos c2] at h2
      exact absurd h2 (hz_rA1 h (by decide))
    · exact ⟨c1, c2⟩
  · rw [if_neg c1] at h2
    exact absurd h2 (hz_rA1 h (by decide))
theorem hz_ckX (w : Wd) : hz_ck w (fX4_readTimes w).2 := by
  unfold fX4_readTimes
  simp only [hz_bnd]
  have hA := hz_ckA w
  generalize fX4_advance w = r4 at *
  by_cases c1 : r4.1 4 = 2
  · rw [if_pos c1]
    by_cases c2 : fX6_isBetween (r4.1 7) 1 14 = 0
    · rw [if_pos c2]; exact hz_ckT hA (hz_ckN r4 1 14)
    · rw [if_neg c2]
      by_cases c3 : ((r4.2.2.1 0).1 8) + (r4.1 7) ≤ 14
      · rw [if_pos c3]; exact hz_ckT hA (hz_ckN r4 1 14)
      · rw [if_neg c3]; exact hz_ckT hA (hz_ckT (hz_ckR r4 5) (hz_ckN _ 1 14))
  · rw [if_neg c1]; exact hz_ckT hA (hz_ckN r4 1 14)
end HZZ
