/-! Days; the least tolerance. -/
def itD (f : Nat → Int32) : Nat → Nat → Int32
  | 0 => f
  | d + 1 => gDy (itD f d)
theorem btw_060 {D : Nat} (h : D ≤ 60) : ¬ fX6_isBetween (nI D) 0 60 = 0 := btw_ok (a := 0) (b := 60) (Nat.zero_le _) h (by decide)
section DYS
variable {f : Nat → Int32} {ny ns nz np n : Nat} {w : Wd}
theorem l_id {D : Nat} (hD : D ≤ 60) : ∀ (k i fu r : Nat) (y : Wd), i + k = D → k < fu → hz_skp w y → hz_mo y r → hz_PR (y.2.2.1 2) (itD f i) ny ns nz np → ∃ y', (fX6_ifDays_26 (nI D) fu (nI i) y).2 = y' ∧ hz_skp w y' ∧ hz_mo y' r ∧ hz_PR (y'.2.2.1 2) (itD f D) ny ns nz np := by
  intro k
  induction k with
  | zero =>
    intro i fu r y hi hfu hk hm hP
    obtain ⟨fu, rfl⟩ : ∃ a, fu = a + 1 := ⟨fu - 1, by omega⟩
    have e : fX6_ifDays_26 (nI D) (fu + 1) (nI i) y = (if nI D ≤ nI i then (nI i, y) else (fX6_ifDays_26 (nI D) fu (nI i + 1) (wP y 2 (fX5_passDay (y.2.2.1 2)).2))) := rfl
    have hin : i = D := by omega
    subst hin
    exact ⟨y, by rw [e, if_pos (Int32.le_refl _)], hk, hm, hP⟩
  | succ k ih =>
    intro i fu r y hi hfu hk hm hP
    obtain ⟨fu, rfl⟩ : ∃ a, fu = a + 1 := ⟨fu - 1, by omega⟩
    have e : fX6_ifDays_26 (nI D) (fu + 1) (nI i) y = (if nI D ≤ nI i then (nI i, y) else (fX6_ifDays_26 (nI D) fu (nI i + 1) (wP y 2 (fX5_passDay (y.2.2.1 2)).2))) := rfl
    rw [e, if_neg (by rw [nI_leI (by omega) (by omega)]; omega), nI_1]
    exact ih (i + 1) fu r _ (by omega) (by omega) (hz_skpT hk (hz_skpP _ _)) hm (d_pr hP)
theorem o_id (h : CI n w f ny ns nz np) (hn : n ≤ 1000000) {D : Nat} (hD : D ≤ 60) {K : Nat} (hK : KF (itD f D) np K) : ∃ w1, fX6_ifDays w (nI D) = (nI K, w1) ∧ K ≤ 7 ∧ CI (n + 1) w1 f ny ns nz np ∧ hz_skp w w1 := by
  obtain ⟨r, r1, r2⟩ := h.2.1
  have hfu := hz_fu0 (n := D) (by omega)
  obtain ⟨y, hy⟩ : ∃ y, wP w 2 (fX5_copyFrom (w.2.2.1 2) (w.2.2.1 1)) = y := ⟨_, rfl⟩
  have hyk : hz_skp w y := by rw [← hy]; exact hz_skpP _ _
  have hym : hz_mo y r := by rw [← hy]; exact r2
  have hyP : hz_PR (y.2.2.1 2) (itD f 0) ny ns nz np := by rw [← hy]; exact cp_pr h.1 _
  obtain ⟨y', g1, g2, g3, g4⟩ := l_id (w := w) hD D 0 (fuU (nI D) 0) r y (Nat.zero_add _) (by omega) hyk hym hyP
  obtain ⟨y1, e1, e2, e3, e4⟩ := o_mp g4 (r := r) (by omega) g3 hK
  refine ⟨y1, ?_, e2, ci_skp h (skp_mt g2 e3) (by omega) e4, skp_mt g2 e3⟩
  have e : fX6_ifDays w (nI D) = (if (fX6_isBetween (nI D) 0 60) = 0 then ((-2), w) else ((fX2_mostPairs_37 (fX6_ifDays_26 (nI D) (fuU (nI D) 0) (nI 0) (wP w 2 (fX5_copyFrom (w.2.2.1 2) (w.2.2.1 1)))).2).1, (fX2_mostPairs_37 (fX6_ifDays_26 (nI D) (fuU (nI D) 0) (nI 0) (wP w 2 (fX5_copyFrom (w.2.2.1 2) (w.2.2.1 1)))).2).2)) := rfl
  rw [e, if_neg (btw_060 hD), hy, g1, e1]
theorem l_bd {D : Nat} (hD : D ≤ 60) {K : Nat → Nat} (hK : ∀ d, d ≤ D → KF (itD f d) np (K d)) (hK7 : ∀ s, K s < 100) : ∀ (k i fu r : Nat) (x m : Int32) (y : Wd), i + k = D + 1 → k < fu → hz_skp w y → hz_mo y r → r + 100 < 2 ^ 40 + i → hz_PR (y.2.2.1 2) (itD f i) ny ns nz np → amI K i x m → ∃ x' m' y' r', fX6_bestDay_31 (nI D) fu (nI i) m x y = (nI (D + 1), m', x', y') ∧ amI K (D + 1) x' m' ∧ hz_skp w y' ∧ hz_mo y' r' ∧ r' ≤ r + k := by
  intro k
  induction k with
  | zero =>
    intro i fu r x m y hi hfu hk hm hr hP ha
    obtain ⟨fu, rfl⟩ : ∃ a, fu = a + 1 := ⟨fu - 1, by omega⟩
    have e : fX6_bestDay_31 (nI D) (fu + 1) (nI i) m x y = (if nI D < nI i then (nI i, m, x, y) else (if (fX2_mostPairs_37 y).1 ≤ m then (fX6_bestDay_31 (nI D) fu (nI i + 1) m x (wP (fX2_mostPairs_37 y).2 2 (fX5_passDay ((fX2_mostPairs_37 y).2.2.2.1 2)).2)) else (fX6_bestDay_31 (nI D) fu (nI i + 1) (fX2_mostPairs_37 y).1 (nI i) (wP (fX2_mostPairs_37 y).2 2 (fX5_passDay ((fX2_mostPairs_37 y).2.2.2.1 2)).2)))) := rfl
    have hin : i = D + 1 := by omega
    subst hin
    exact ⟨x, m, y, r, by rw [e, if_pos (by rw [nI_ltI (by omega) (by omega)]; omega)], ha, hk, hm, Nat.le_refl _⟩
  | succ k ih =>
    intro i fu r x m y hi hfu hk hm hr hP ha
    obtain ⟨fu, rfl⟩ : ∃ a, fu = a + 1 := ⟨fu - 1, by omega⟩
    have e : fX6_bestDay_31 (nI D) (fu + 1) (nI i) m x y = (if nI D < nI i then (nI i, m, x, y) else (if (fX2_mostPairs_37 y).1 ≤ m then (fX6_bestDay_31 (nI D) fu (nI i + 1) m x (wP (fX2_mostPairs_37 y).2 2 (fX5_passDay ((fX2_mostPairs_37 y).2.2.2.1 2)).2)) else (fX6_bestDay_31 (nI D) fu (nI i + 1) (fX2_mostPairs_37 y).1 (nI i) (wP (fX2_mostPairs_37 y).2 2 (fX5_passDay ((fX2_mostPairs_37 y).2.2.2.1 2)).2)))) := rfl
    obtain ⟨y1, e1, e2, e3, e4⟩ := o_mp hP (r := r) (by omega) hm (hK i (by omega))
    have hst := am_st ha hK7
    have hk1 := skp_mt hk e3
    have hP1 : hz_PR (y1.2.2.1 2) (itD f i) ny ns nz np := by rw [e3.2.2.1]; exact hP
    have hk2 : hz_skp w (wP y1 2 (fX5_passDay (y1.2.2.1 2)).2) := hz_skpT hk1 (hz_skpP _ _)
    have hP2 : hz_PR ((wP y1 2 (fX5_passDay (y1.2.2.1 2)).2).2.2.1 2) (itD f (i + 1)) ny ns nz np := d_pr hP1
    rw [e, if_neg (by rw [nI_ltI (by omega) (by omega)]; omega), e1]
    by_cases c : nI (K i) ≤ m
    · rw [if_pos c, nI_1]
      obtain ⟨x', m', y', r', g1, g2, g3, g4, g5⟩ := ih (i + 1) fu (r + 1) x m _ (by omega) (by omega) hk2 e4 (by omega) hP2 (hst.1 c)
      exact ⟨x', m', y', r', g1, g2, g3, g4, by omega⟩
    · rw [if_neg c, nI_1]
      obtain ⟨x', m', y', r', g1, g2, g3, g4, g5⟩ := ih (i + 1) fu (r + 1) (nI i) (nI (K i)) _ (by omega) (by omega) hk2 e4 (by omega) hP2 (hst.2 c)
      exact ⟨x', m', y', r', g1, g2, g3, g4, by omega⟩
theorem o_bd (h : CI n w f ny ns nz np) (hn : n ≤ 1000000) {D : Nat} (hD : D ≤ 60) {K : Nat → Nat} (hK : ∀ d, d ≤ D → KF (itD f d) np (K d)) (hK7 : ∀ s, K s < 100) : ∃ b w1, fX6_bestDay w (nI D) = (nI b, w1) ∧ am K (D + 1) b ∧ CI (n + 1) w1 f ny ns nz np ∧ hz_skp w w1 := by
  obtain ⟨r, r1, r2⟩ := h.2.1
  obtain ⟨y, hy⟩ : ∃ y, wP w 2 (fX5_copyFrom (w.2.2.1 2) (w.2.2.1 1)) = y := ⟨_, rfl⟩
  have hyk : hz_skp w y := by rw [← hy]; exact hz_skpP _ _
  have hym : hz_mo y r := by rw [← hy]; exact r2
  have hyP : hz_PR (y.2.2.1 2) (itD f 0) ny ns nz np := by rw [← hy]; exact cp_pr h.1 _
  have hfu : fuL (nI D) 0 = D + 2 := by
    unfold fuL
    rw [nI_toInt (by omega), show (0 : Int32).toInt = 0 from rfl]
    omega
  obtain ⟨x', m', y', r', g1, g2, g3, g4, g5⟩ := l_bd (w := w) hD hK hK7 (D + 1) 0 (fuL (nI D) 0) r 0 (-1) y (Nat.zero_add _) (by omega) hyk hym (by omega) hyP (Or.inl ⟨rfl, rfl⟩)
  rcases g2 with ⟨g2, -⟩ | ⟨b, g2, rfl, -⟩
  · omega
  · refine ⟨b, y', ?_, g2, ci_skp h g3 (by omega) g4, g3⟩
    have e : fX6_bestDay w (nI D) = (if (fX6_isBetween (nI D) 0 60) = 0 then ((-2), w) else ((fX6_bestDay_31 (nI D) (fuL (nI D) 0) (nI 0) (-1) 0 (wP w 2 (fX5_copyFrom (w.2.2.1 2) (w.2.2.1 1)))).2.2.1, (fX6_bestDay_31 (nI D) (fuL (nI D) 0) (nI 0) (-1) 0 (wP w 2 (fX5_copyFrom (w.2.2.1 2) (w.2.2.1 1)))).2.2.2)) := rfl
    rw [e, if_neg (btw_060 hD), hy, g1]
/-- the least tolerance -/
theorem l_lt (h : CI n w f ny ns nz np) {a b : Nat} (ha : a < 100) (hb : b ≤ 255) {K : Nat → Nat} (hK : ∀ t, t ≤ 500 → KF (upd (upd f 0 (nI t)) 1 (nI b)) np (K t)) (hK7 : ∀ s, K s < 100) : ∀ (k i fu r lo hi : Nat) (y : Wd), i + k = 10 → k < fu → hz_skp w y → hz_mo y r → r + 20 < 2 ^ 40 + i → lo ≤ hi → hi ≤ 500 → hi < lo + 2 ^ k → a ≤ K hi → (lo = 0 ∨ K (lo - 1) < a) → ∃ i' lo' t y' r', fX6_leastTolerance_45 (nI a) (nI b) fu (nI i) (nI hi) (nI lo) y = (i', nI t, lo', y') ∧ t ≤ 500 ∧ a ≤ K t ∧ (t = 0 ∨ K (t - 1) < a) ∧ hz_skp w y' ∧ hz_mo y' r' ∧ r' ≤ r + k := by
  intro k
  induction k with
  | zero =>
    intro i fu r lo hi y hi0 hfu hk hm hr h1 h2 h3 h4 h5
    obtain ⟨fu, rfl⟩ : ∃ a, fu = a + 1 := ⟨fu - 1, by omega⟩
    have e : fX6_leastTolerance_45 (nI a) (nI b) (fu + 1) (nI i) (nI hi) (nI lo) y = (if 10 ≤ nI i then (nI i, nI hi, nI lo, y) else (if nI hi ≤ nI lo then (nI i, nI hi, nI lo, y) else (if (fX6_pairsWithin y ((nI lo + nI hi) / 2) (nI b)).1 < nI a then (fX6_leastTolerance_45 (nI a) (nI b) fu (nI i + 1) (nI hi) (((nI lo + nI hi) / 2) + 1) (fX6_pairsWithin y ((nI lo + nI hi) / 2) (nI b)).2) else (fX6_leastTolerance_45 (nI a) (nI b) fu (nI i + 1) ((nI lo + nI hi) / 2) (nI lo) (fX6_pairsWithin y ((nI lo + nI hi) / 2) (nI b)).2)))) := rfl
    have hll : lo = hi := by
      have : (2 : Nat) ^ 0 = 1 := rfl
      omega
    refine ⟨nI i, nI lo, hi, y, r, ?_, h2, h4, by rw [← hll]; exact h5, hk, hm, Nat.le_refl _⟩
    rw [e, if_pos (by rw [show (10 : Int32) = nI 10 from rfl, nI_leI (by decide) (by omega)]; omega)]
  | succ k ih =>
    intro i fu r lo hi y hi0 hfu hk hm hr h1 h2 h3 h4 h5
    obtain ⟨fu, rfl⟩ : ∃ a, fu = a + 1 := ⟨fu - 1, by omega⟩
    have e : fX6_leastTolerance_45 (nI a) (nI b) (fu + 1) (nI i) (nI hi) (nI lo) y = (if 10 ≤ nI i then (nI i, nI hi, nI lo, y) else (if nI hi ≤ nI lo then (nI i, nI hi, nI lo, y) else (if (fX6_pairsWithin y ((nI lo + nI hi) / 2) (nI b)).1 < nI a then (fX6_leastTolerance_45 (nI a) (nI b) fu (nI i + 1) (nI hi) (((nI lo + nI hi) / 2) + 1) (fX6_pairsWithin y ((nI lo + nI hi) / 2) (nI b)).2) else (fX6_leastTolerance_45 (nI a) (nI b) fu (nI i + 1) ((nI lo + nI hi) / 2) (nI lo) (fX6_pairsWithin y ((nI lo + nI hi) / 2) (nI b)).2)))) := rfl
    rw [e, if_neg (by rw [show (10 : Int32) = nI 10 from rfl, nI_leI (by decide) (by omega)]; omega)]
    by_cases c : hi ≤ lo
    · have hll : lo = hi := by omega
      rw [if_pos (by rw [nI_leI (by omega) (by omega)]; exact c)]
      exact ⟨nI i, nI lo, hi, y, r, rfl, h2, h4, by rw [← hll]; exact h5, hk, hm, by omega⟩
    · have em : (nI lo + nI hi) / 2 = nI ((lo + hi) / 2) := by rw [nI_add, show (2 : Int32) = nI 2 from rfl, pk_div (by omega) (by decide) (by decide)]
      obtain ⟨y1, e1, e2, e3, e4⟩ := o_wi h (r := r) (by omega) hk hm (a := (lo + hi) / 2) (b := b) (by omega) hb (hK _ (by omega))
      have hp : (2 : Nat) ^ (k + 1) = 2 * 2 ^ k := by rw [Nat.pow_succ]; omega
      rw [if_neg (by rw [nI_leI (by omega) (by omega)]; exact c), em, e1]
      by_cases c2 : K ((lo + hi) / 2) < a
      · have := hK7 ((lo + hi) / 2)
        rw [if_pos (by rw [nI_ltI (by omega) (by omega)]; exact c2), nI_1, nI_1]
        obtain ⟨i', lo', t, y', r', g1, g2, g3, g4, g5, g6, g7⟩ := ih (i + 1) fu (r + 1) ((lo + hi) / 2 + 1) hi y1 (by omega) (by omega) e3 e4 (by omega) (by omega) h2 (by omega) h4 (Or.inr (by rw [show (lo + hi) / 2 + 1 - 1 = (lo + hi) / 2 by omega]; exact c2))
        exact ⟨i', lo', t, y', r', g1, g2, g3, g4, g5, g6, by omega⟩
      · have := hK7 ((lo + hi) / 2)
        rw [if_neg (by rw [nI_ltI (by omega) (by omega)]; exact c2), nI_1]
        obtain ⟨i', lo', t, y', r', g1, g2, g3, g4, g5, g6, g7⟩ := ih (i + 1) fu (r + 1) lo ((lo + hi) / 2) y1 (by omega) (by omega) e3 e4 (by omega) (by omega) (by omega) (by omega) (by omega) h5
        exact ⟨i', lo', t, y', r', g1, g2, g3, g4, g5, g6, by omega⟩
/-- leastTolerance: none, with too few pairs at 500; or t with enough, and too few at t - 1 -/
def ltI (K : Nat → Nat) (a : Nat) (x : Int32) : Prop := (x = -1 ∧ K 500 < a) ∨ ∃ t, t ≤ 500 ∧ x = nI t ∧ a ≤ K t ∧ (t = 0 ∨ K (t - 1) < a)
theorem o_lt (h : CI n w f ny ns nz np) (hn : n ≤ 1000000) {a b : Nat} (h1 : 1 ≤ a) (h2 : a ≤ 7) (hb : b ≤ 255) (hfb : f 1 = nI b) {K : Nat → Nat} (hK : ∀ t, t ≤ 500 → KF (upd (upd f 0 (nI t)) 1 (nI b)) np (K t)) (hK7 : ∀ s, K s < 100) : ∃ x w1, fX6_leastTolerance w (nI a) = (x, w1) ∧ ltI K a x ∧ CI (n + 1) w1 f ny ns nz np ∧ hz_skp w w1 := by
  obtain ⟨r, r1, r2⟩ := h.2.1
  have hs4 : (w.2.2.1 1).1 4 = nI b := h.1.2.2.2.1.2.1.symm.trans hfb
  obtain ⟨y1, e1, e2, e3, e4⟩ := o_wi h (r := r) (by omega) (hz_skp0 w) r2 (a := 500) (b := b) (by decide) hb (hK 500 (by decide))
  have e : fX6_leastTolerance w (nI a) = (if (fX6_isBetween (nI a) 1 7) = 0 then ((-2), w) else (if nI a ≤ (fX6_pairsWithin w (nI 500) ((w.2.2.1 1).1 4)).1 then ((fX6_leastTolerance_45 (nI a) ((w.2.2.1 1).1 4) (fuU 10 0) (nI 0) (nI 500) (nI 0) (fX6_pairsWithin w (nI 500) ((w.2.2.1 1).1 4)).2).2.1, (fX6_leastTolerance_45 (nI a) ((w.2.2.1 1).1 4) (fuU 10 0) (nI 0) (nI 500) (nI 0) (fX6_pairsWithin w (nI 500) ((w.2.2.1 1).1 4)).2).2.2.2) else ((-1), (fX6_pairsWithin w (nI 500) ((w.2.2.1 1).1 4)).2))) := rfl
  rw [e, if_neg (btw_17 h1 h2), hs4, e1]
  have := hK7 500
  by_cases c : a ≤ K 500
  · rw [if_pos (by rw [nI_leI (by omega) (by omega)]; exact c)]
    obtain ⟨i', lo', t, y', r', g1, g2, g3, g4, g5, g6, g7⟩ := l_lt h (show a < 100 by omega) hb hK hK7 10 0 (fuU 10 0) (r + 1) 0 500 y1 (by decide) (by decide) e3 e4 (by omega) (by decide) (by decide) (by decide) c (Or.inl rfl)
    rw [g1]
    exact ⟨nI t, y', rfl, Or.inr ⟨t, g2, rfl, g3, g4⟩, ci_skp h g5 (by omega) g6, g5⟩
  · rw [if_neg (by rw [nI_leI (by omega) (by omega)]; exact c)]
    exact ⟨-1, y1, rfl, Or.inl ⟨rfl, by omega⟩, ci_skp h e3 (by omega) e4, e3⟩
theorem o_it (h : CI n w f ny ns nz np) (hn : n ≤ 1000000) {a b : Nat} (ha : a ≤ 500) (hb : b ≤ 255) {K : Nat} (hK : KF (upd (upd f 0 (nI a)) 1 (nI b)) np K) : ∃ w1, fX6_ifTolerance w (nI a) (nI b) = (nI K, w1) ∧ K ≤ 7 ∧ CI (n + 1) w1 f ny ns nz np ∧ hz_skp w w1 := by
  obtain ⟨r, r1, r2⟩ := h.2.1
  obtain ⟨y1, e1, e2, e3, e4⟩ := o_wi h (r := r) (by omega) (hz_skp0 w) r2 ha hb hK
  refine ⟨y1, ?_, e2, ci_skp h e3 (by omega) e4, e3⟩
  have e : fX6_ifTolerance w (nI a) (nI b) = (if (fX6_areTolerances (nI a) (nI b)) = 0 then ((-2), w) else ((fX6_pairsWithin w (nI a) (nI b)).1, (fX6_pairsWithin w (nI a) (nI b)).2)) := rfl
  rw [e, if_neg (fun z => by
    rcases (hz_tolB _ _).mp z with z | z
    · exact btw_ok (a := 0) (b := 500) (Nat.zero_le _) ha (by decide) z
    · exact btw_ok (a := 0) (b := 255) (Nat.zero_le _) hb (by decide) z), e1]
end DYS
