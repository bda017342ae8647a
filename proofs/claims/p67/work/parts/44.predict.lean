/-! Predictions. -/
def hz_skp (w w1 : Wd) : Prop := w1.1 = w.1 ∧ (∀ q, ¬ q = 1 → ¬ q = 2 → w1.2.1 q = w.2.1 q) ∧ (∀ q, ¬ q = 2 → w1.2.2.1 q = w.2.2.1 q) ∧ w1.2.2.2.2.2 = w.2.2.2.2.2
theorem hz_skp0 (w : Wd) : hz_skp w w := ⟨rfl, fun _ _ _ => rfl, fun _ _ => rfl, rfl⟩
theorem hz_skpT {a b c : Wd} (h : hz_skp a b) (g : hz_skp b c) : hz_skp a c := ⟨g.1.trans h.1, fun q h1 h2 => (g.2.1 q h1 h2).trans (h.2.1 q h1 h2), fun q h1 => (g.2.2.1 q h1).trans (h.2.2.1 q h1), g.2.2.2.trans h.2.2.2⟩
theorem hz_skpP (w : Wd) (p : Pl) : hz_skp w (wP w 2 p) := ⟨rfl, fun _ _ _ => rfl, fun q hq => if_neg hq, rfl⟩
/-- in a prediction over the plant of w, m -/
def hz_PD (w : Wd) (m : Md) (w1 : Wd) (m1 : Md) (ny ns nz np r : Nat) : Prop := m1.2.2 = 2 ∧ hz_PR (w1.2.2.1 2) (m1.2.1 2) ny ns nz np ∧ hz_skp w w1 ∧ hz_mq m (mN m1 0) ∧ hz_mo w1 r
theorem hz_mqN {m X : Md} (h0 : m.2.2 = 0) (h1 : ∀ q, ¬ q = 1 → X.1 q = m.1 q) (h2 : ∀ q, ¬ q = 2 → ¬ q = 3 → ¬ q = 4 → ¬ q = 5 → X.2.1 q = m.2.1 q) : hz_mq m (mN X 0) := ⟨h1, h0.symm, h2⟩
theorem hz_mAA (X : Md) (k : Nat) (f : Nat → Int32) : mA (mA X k f) k f = mA X k f := by
  have e3 : (fun q => if q = k then f else (if q = k then f else X.2.1 q)) = (fun q => if q = k then f else X.2.1 q) := by
    funext q
    by_cases hq : q = k
    · simp only [if_pos hq]
    · simp only [if_neg hq]
  show (X.1, (fun q => if q = k then f else (if q = k then f else X.2.1 q)), X.2.2) = (X.1, (fun q => if q = k then f else X.2.1 q), X.2.2)
  rw [e3]
section HZX
variable {w w1 : Wd} {m m1 : Md} {ny ns nz np r : Nat}
theorem hz_pdr (h : hz_PD w m w1 m1 ny ns nz np r) : hz_PR (w1.2.2.1 2) (m1.2.1 m1.2.2) ny ns nz np := by rw [h.1]; exact h.2.1
theorem hz_PDs (h : hz_RP w m ny ns nz np) (hmo : hz_mo w r) : sX7_startPrediction m ∧ hz_PD w m (wP w 2 (fX5_copyFrom (w.2.2.1 2) (w.2.2.1 1))) (fX7_startPrediction m) ny ns nz np r := by
  obtain ⟨s, a1, a2, a3, a4⟩ := hz_start m
  exact ⟨s, a2, hz_cp h.2 a4, hz_skpP w _, hz_mqN h.1 (fun q _ => by rw [a1]) (fun q h1 _ _ _ => a3 q h1), hmo⟩
theorem hz_PDc (h : hz_PD w m w1 m1 ny ns nz np r) {p1 : Pl} {m2 : Md} {ny1 ns1 nz1 np1 : Nat} (hc : hz_ch m1 m2) (hP : hz_PR p1 (m2.2.1 2) ny1 ns1 nz1 np1) : hz_PD w m (wP w1 2 p1) m2 ny1 ns1 nz1 np1 r := by
  obtain ⟨h1, h2, h3, ⟨g1, g2, g3⟩, h5⟩ := h
  obtain ⟨k1, k2, k3⟩ := hc
  rw [h1] at k2 k3
  refine ⟨k2, hP, hz_skpT h3 (hz_skpP w1 _), ⟨fun q hq => ?_, g2, fun q q1 q2 q3 q4 => ?_⟩, h5⟩
  · show m2.1 q = _
    rw [k1]; exact g1 q hq
  · show m2.2.1 q = _
    rw [k3 q q1]; exact g3 q q1 q2 q3 q4
theorem hz_PDm (h : hz_PD w m w1 m1 ny ns nz np r) (hr : r + 1 < 2 ^ 40) : ∃ K w2, K ≤ 7 ∧ fX2_mostPairs_37 w1 = (nI K, w2) ∧ sX7_countPairs m1 ∧ (fX7_countPairs m1).1 = nI K ∧ hz_PD w m w2 (fX7_countPairs m1).2 ny ns nz np (r + 1) ∧ w2.2.2.1 2 = w1.2.2.1 2 ∧ (fX7_countPairs m1).2.2.1 2 = m1.2.1 2 ∧ hz_W (hz_A (w1.2.2.1 2) np) (fun _ _ => 0) (hz_aS np) = 100000 * (K : Int) := by
  obtain ⟨s, ⟨K, k7, e, k1, -⟩, kk, -⟩ := hz_cntP (hz_pdr h) (by rw [h.1]; omega)
  obtain ⟨w2, e2, ⟨q1, q2, q3, q4⟩, q5⟩ := hz_most h.2.1 rfl hr h.2.2.2.2 k1 k7
  have e3 : (fX7_countPairs m1).2.2.1 2 = m1.2.1 2 := kk.2.2 2 (by omega)
  refine ⟨K, w2, k7, e2, s, e, ⟨kk.2.1.trans h.1, ?_, hz_skpT h.2.2.1 ⟨q1, fun q h1 h2 => q2 q (by omega), fun q _ => by rw [q3], q4⟩, ?_, q5⟩, by rw [q3], e3, k1⟩
  · rw [q3, e3]; exact h.2.1
  · obtain ⟨g1, g2, g3⟩ := h.2.2.2.1
    refine ⟨fun q hq => ?_, g2, fun q h1 h2 h3 h4 => ?_⟩
    · show (fX7_countPairs m1).2.1 q = _
      rw [kk.1]; exact g1 q hq
    · show (fX7_countPairs m1).2.2.1 q = _
      rw [kk.2.2 q (by omega)]; exact g3 q h1 h2 h3 h4
theorem hz_PDd (h : hz_PD w m w1 m1 ny ns nz np r) : sX7_pass m1 ∧ hz_PD w m (wP w1 2 (fX5_passDay (w1.2.2.1 2)).2) (fX7_pass m1).2 ny ns nz np r := by
  obtain ⟨d1, d2, d3, d4⟩ := hz_day (hz_pdr h)
  rw [h.1] at d3
  exact ⟨d1, hz_PDc h d4 d3⟩
theorem hz_PDe (hP : hz_RP w m ny ns nz np) (hK : hz_RK w np) (hH : hz_hist w m) (hI : hz_inp w m) (hE : hz_err w m) (hO : hz_outp w m) {ny1 ns1 nz1 np1 n : Nat} (h : hz_PD w m w1 m1 ny1 ns1 nz1 np1 r) (hr : r ≤ 1000 * n) : hz_R n w1 (mN m1 0) := by
  obtain ⟨h1, h2, ⟨q1, q2, q3, q4⟩, h4, h5⟩ := h
  refine hz_RR hP hH hI hE hO ⟨fun q _ _ _ => by rw [q1], fun q a b _ => q2 q a b, q3, q4⟩ h4 hr h5 ?_
  unfold hz_RK hz_kn
  rw [q1, q2 3 (by decide) (by decide), q3 1 (by decide)]
  exact hK
theorem hl_ifDays {D : Nat} (hD : D ≤ 60) : ∀ (fu i : Nat) (y : Wd) (x : Md), i ≤ D → hz_PD w m y x ny ns nz np r → sX7_ifDays_21 (nI D) fu (nI i) x ∧ hz_PD w m (fX6_ifDays_26 (nI D) fu (nI i) y).2 (fX7_ifDays_21 (nI D) fu (nI i) x).2 ny ns nz np r := by
  intro fu
  induction fu with
  | zero => intro i y x hi h; exact ⟨trivial, h⟩
  | succ fu ih =>
    intro i y x hi h
    simp only [fX6_ifDays_26, fX7_ifDays_21, sX7_ifDays_21, bnd]
    by_cases c : nI D ≤ nI i
    · rw [if_pos c, if_pos c]
      exact ⟨⟨fun _ => trivial, fun hh => absurd c hh⟩, h⟩
    · have hi : i < D := hz_c hi (by omega) c
      obtain ⟨d1, d2⟩ := hz_PDd h
      obtain ⟨a1, a2⟩ := ih (i + 1) _ _ hi d2
      rw [if_neg c, if_neg c, ← nI_succ]
      exact ⟨⟨fun hh => absurd hh c, fun _ => ⟨d1, a1⟩⟩, a2⟩
theorem hp_ifDays {n : Nat} (hn : n ≤ 1000) (hR : hz_R n w m) (z : Int32) : sX7_ifDays m z ∧ (fX6_ifDays w z).1 = (fX7_ifDays m z).1 ∧ hz_R (n + 1) (fX6_ifDays w z).2 (fX7_ifDays m z).2 := by
  have hR0 := hR
  obtain ⟨ny, ns, nz, np, r, h, ⟨hr, hmo⟩, hK, hH, hI, hE, hO⟩ := hR
  have e0 : fX7_in z.toInt64 0 60 = fX6_isBetween z 0 60 := hz_in z 0 60
  unfold sX7_ifDays fX6_ifDays fX7_ifDays
  simp only [bnd]
  rw [e0]
  by_cases c : fX6_isBetween z 0 60 = 0
  · rw [if_pos c, if_pos c]
    exact ⟨⟨fun _ => trivial, fun hh => absurd c hh⟩, rfl, hz_Rup hR0 (by omega)⟩
  · obtain ⟨h1, h2⟩ := hz_btw1 c
    obtain ⟨D, d1, d2, rfl⟩ := hz_rgN (a := 0) (b := 60) (x := z) ⟨h1, h2⟩ (by omega)
    obtain ⟨s, p0⟩ := hz_PDs h hmo
    have L := hl_ifDays d2 (fuU (nI D) 0) 0 _ _ (Nat.zero_le _) p0
    rw [nI_0] at L
    obtain ⟨l1, l2⟩ := L
    obtain ⟨K, w2, k7, e1, s2, e2, p2, -⟩ := hz_PDm l2 (by omega)
    rw [if_neg c, if_neg c, e1]
    exact ⟨⟨fun hh => absurd hh c, fun _ => ⟨s, l1, s2, trivial⟩⟩, e2.symm, hz_PDe h hK hH hI hE hO p2 (by omega)⟩
theorem hl_bestDay {D : Nat} (hD : D ≤ 60) : ∀ (fu fv i r : Nat) (x b : Int32) (y : Wd) (v : Md), 1 ≤ i → i ≤ D + 1 → D + 1 < fu + i → D + 1 < fv + i → r + 100 < 2 ^ 40 + i → (∃ y0, hz_PD w m y0 v ny ns nz np r ∧ y = wP y0 2 (fX5_passDay (y0.2.2.1 2)).2) → sX7_bestDay_29 (nI D) fv (nI i) x b v ∧ (fX6_bestDay_31 (nI D) fu (nI i) x b y).2.2.1 = (fX7_bestDay_29 (nI D) fv (nI i) x b v).2.2.1 ∧ ∃ r1, r1 + i ≤ r + D + 1 ∧ ∃ p1, hz_skp w (fX6_bestDay_31 (nI D) fu (nI i) x b y).2.2.2 ∧ hz_mo (fX6_bestDay_31 (nI D) fu (nI i) x b y).2.2.2 r1 ∧ hz_mq m (mN (fX7_bestDay_29 (nI D) fv (nI i) x b v).2.2.2 0) ∧ p1 = 0 := by
  intro fu
  induction fu with
  | zero => intro fv i r x b y v h1 h2 h3; omega
  | succ fu ih =>
    intro fv i r x b y v h1 h2 h3 h4 hr9 hp
    match fv, h4 with
    | 0, h4 => omega
    | fv + 1, h4 =>
      obtain ⟨y0, p0, ey⟩ := hp
      simp only [fX6_bestDay_31, fX7_bestDay_29, sX7_bestDay_29, bnd]
      by_cases c : nI D < nI i
      · rw [if_pos c, if_pos c]
        have c' := c
        rw [nI_ltI (by omega) (by omega)] at c'
        refine ⟨⟨fun _ => trivial, fun hh => absurd c hh⟩, rfl, r, by omega, 0, ?_, ?_, p0.2.2.2.1, rfl⟩
        · rw [ey]; exact hz_skpT p0.2.2.1 (hz_skpP y0 _)
        · rw [ey]; exact p0.2.2.2.2
      · have hi : i ≤ D := by
          rw [nI_ltI (by omega) (by omega)] at c
          omega
        obtain ⟨d1, d2⟩ := hz_PDd p0
        rw [← ey] at d2
        obtain ⟨K, w2, k7, e1, s2, e2, p2, e3, -⟩ := hz_PDm d2 (by omega)
        rw [if_neg c, if_neg c, e1, e2, ← nI_succ]
        have go := fun x b => ih fv (i + 1) (r + 1) x b (wP w2 2 (fX5_passDay (w2.2.2.1 2)).2) (fX7_countPairs (fX7_pass v).2).2 (by omega) (by omega) (by omega) (by omega) (by omega) ⟨w2, p2, rfl⟩
        by_cases c2 : nI K ≤ x
        · obtain ⟨g1, g2, r1, g3, p1, g4⟩ := go x b
          rw [if_pos c2, if_neg (Int32.not_lt.mpr c2)]
          exact ⟨⟨fun hh => absurd hh c, fun _ => ⟨d1, s2, fun hh => absurd hh (Int32.not_lt.mpr c2), fun _ => g1⟩⟩, g2, r1, by omega, p1, g4⟩
        · have c3 : x < nI K := Int32.not_le.mp c2
          obtain ⟨g1, g2, r1, g3, p1, g4⟩ := go (nI K) (nI i)
          rw [if_neg c2, if_pos c3]
          exact ⟨⟨fun hh => absurd hh c, fun _ => ⟨d1, s2, fun _ => g1, fun hh => absurd c3 hh⟩⟩, g2, r1, by omega, p1, g4⟩
theorem hz_PDf (hP : hz_RP w m ny ns nz np) (hK : hz_RK w np) (hH : hz_hist w m) (hI : hz_inp w m) (hE : hz_err w m) (hO : hz_outp w m) {n : Nat} (hk : hz_skp w w1) (hm : hz_mq m m1) (hmo : hz_mo w1 r) (hr : r ≤ 1000 * n) : hz_R n w1 m1 := by
  obtain ⟨q1, q2, q3, q4⟩ := hk
  refine hz_RR hP hH hI hE hO ⟨fun q _ _ _ => by rw [q1], fun q a b _ => q2 q a b, q3, q4⟩ hm hr hmo ?_
  unfold hz_RK hz_kn
  rw [q1, q2 3 (by decide) (by decide), q3 1 (by decide)]
  exact hK
theorem hp_bestDay {n : Nat} (hn : n ≤ 1000) (hR : hz_R n w m) (z : Int32) : sX7_bestDay m z ∧ (fX6_bestDay w z).1 = (fX7_bestDay m z).1 ∧ hz_R (n + 1) (fX6_bestDay w z).2 (fX7_bestDay m z).2 := by
  have hR0 := hR
  obtain ⟨ny, ns, nz, np, r, h, ⟨hr, hmo⟩, hK, hH, hI, hE, hO⟩ := hR
  have e0 : fX7_in z.toInt64 0 60 = fX6_isBetween z 0 60 := hz_in z 0 60
  unfold sX7_bestDay fX6_bestDay fX7_bestDay
  simp only [bnd]
  rw [e0]
  by_cases c : fX6_isBetween z 0 60 = 0
  · rw [if_pos c, if_pos c]
    exact ⟨⟨fun _ => trivial, fun hh => absurd c hh⟩, rfl, hz_Rup hR0 (by omega)⟩
  · obtain ⟨h1, h2⟩ := hz_btw1 c
    obtain ⟨D, d1, d2, rfl⟩ := hz_rgN (a := 0) (b := 60) (x := z) ⟨h1, h2⟩ (by omega)
    obtain ⟨s, p0⟩ := hz_PDs h hmo
    obtain ⟨K, w2, k7, e1, s2, e2, p2, e3, -⟩ := hz_PDm p0 (by omega)
    have hfu : fuL (nI D) 0 = D + 1 + 1 := by
      unfold fuL
      rw [nI_toInt (by omega), show (0 : Int32).toInt = 0 from rfl]
      omega
    have e4 : fX6_bestDay_31 (nI D) (fuL (nI D) 0) 0 (-1) 0 (wP w 2 (fX5_copyFrom (w.2.2.1 2) (w.2.2.1 1))) = fX6_bestDay_31 (nI D) (D + 1) (nI 1) (nI K) 0 (wP w2 2 (fX5_passDay (w2.2.2.1 2)).2) := by
      rw [hfu]
      simp only [fX6_bestDay_31, bnd]
      rw [if_neg (show ¬ nI D < 0 from nI_pos (by omega)), e1]
      show (if nI K ≤ -1 then _ else _) = _
      rw [if_neg (by rw [hz_le, nI_toInt (by omega), show (-1 : Int32).toInt = -1 from rfl]; omega)]
      rfl
    have L := fun F (hF : D + 1 < F + 1) => hl_bestDay (w := w) (m := m) d2 (D + 1) F 1 (r + 1) (nI K) 0 (wP w2 2 (fX5_passDay (w2.2.2.1 2)).2) (fX7_countPairs (fX7_startPrediction m)).2 (Nat.le_refl _) (by omega) (by omega) hF (by omega) ⟨w2, p2, rfl⟩
    have L := L 70 (by omega)
    rw [show nI 1 = 1 from rfl] at L
    rw [if_neg c, if_neg c, e4, e2, show nI 1 = 1 from rfl]
    obtain ⟨l1, l2, r1, l3, p1, l4, l5, l6, -⟩ := L
    generalize fX7_bestDay_29 (nI D) 70 1 (nI K) 0 (fX7_countPairs (fX7_startPrediction m)).2 = X at *
    exact ⟨⟨fun hh => absurd hh c, fun _ => ⟨s, s2, l1, trivial⟩⟩, l2, hz_PDf h hK hH hI hE hO l4 l6 l5 (by omega)⟩
theorem hl_daysTo {i : Nat} (hi : i < np) (z : Int32) {x0 : Int32} (hx0 : x0 = -1) : ∀ (fu d : Nat) (y : Wd) (v : Md), d ≤ 61 → 61 < fu + d → hz_PD w m y v ny ns nz np r → sX7_daysToSize_39 (nI i) z fu (nI d) x0 v ∧ (fX6_daysToSize_32 (nI i) z fu (nI d) y).1 = (fX7_daysToSize_39 (nI i) z fu (nI d) x0 v).2.1 ∧ hz_skp w (fX6_daysToSize_32 (nI i) z fu (nI d) y).2 ∧ hz_mo (fX6_daysToSize_32 (nI i) z fu (nI d) y).2 r ∧ hz_mq m (mN (fX7_daysToSize_39 (nI i) z fu (nI d) x0 v).2.2 0) := by
  intro fu
  induction fu with
  | zero => intro d y v h1 h2; omega
  | succ fu ih =>
    intro d y v hd hf h
    simp only [fX6_daysToSize_32, fX7_daysToSize_39, sX7_daysToSize_39, bnd]
    by_cases c : (60 : Int32) < nI d
    · rw [if_pos c, if_pos c]
      exact ⟨⟨fun _ => trivial, fun hh => absurd c hh⟩, hx0.symm, h.2.2.1, h.2.2.2.2, h.2.2.2.1⟩
    · have hd : d ≤ 60 := by
        have c' : ¬ nI 60 < nI d := c
        rw [nI_ltI (by omega) (by omega)] at c'
        omega
      obtain ⟨e1, e2⟩ := hz_sizeP (hz_pdr h) hi
      obtain ⟨d1, d2⟩ := hz_PDd h
      rw [if_neg c, if_neg c, if_pos hx0, e1, ← nI_succ]
      by_cases c2 : fX5_sizeOfPiece (y.2.2.1 2) (nI i) = z
      · rw [if_pos c2, if_pos c2]
        -- the model goes round once more, and ends
        have fin : ∀ (fv : Nat) (x : Md), 0 < fv → sX7_daysToSize_39 (nI i) z fv (nI (d + 1)) (nI d) x ∧ fX7_daysToSize_39 (nI i) z fv (nI (d + 1)) (nI d) x = (nI (d + 1), nI d, x) := fun fv x hfv => by
          match fv, hfv with
          | fv + 1, _ =>
            simp only [fX7_daysToSize_39, sX7_daysToSize_39, bnd]
            have hne : ¬ nI d = -1 := hz_nIm1 (by omega)
            refine ⟨⟨fun _ => trivial, fun _ => ⟨fun hh => absurd hh hne, fun _ => trivial⟩⟩, ?_⟩
            by_cases c3 : (60 : Int32) < nI (d + 1)
            · rw [if_pos c3]
            · rw [if_neg c3, if_neg hne]
        obtain ⟨f1, f2⟩ := fin fu (fX7_pass v).2 (by omega)
        rw [f2]
        refine ⟨⟨fun hh => absurd hh c, fun _ => ⟨fun _ => ⟨e2, fun _ => ⟨d1, f1⟩, fun hh => absurd c2 hh⟩, fun hh => absurd hx0 hh⟩⟩, rfl, h.2.2.1, h.2.2.2.2, d2.2.2.2.1⟩
      · obtain ⟨a1, a2, a3, a4, a5⟩ := ih (d + 1) _ _ (by omega) (by omega) d2
        rw [if_neg c2, if_neg c2]
        exact ⟨⟨fun hh => absurd hh c, fun _ => ⟨fun _ => ⟨e2, fun hh => absurd hh c2, fun _ => ⟨d1, a1⟩⟩, fun hh => absurd hx0 hh⟩⟩, a2, a3, a4, a5⟩
theorem hp_daysToSize {n : Nat} (hR : hz_R n w m) (a b : Int32) : sX7_daysToSize m a b ∧ (fX6_daysToSize w a b).1 = (fX7_daysToSize m a b).1 ∧ hz_R (n + 1) (fX6_daysToSize w a b).2 (fX7_daysToSize m a b).2 := by
  have hR0 := hR
  obtain ⟨ny, ns, nz, np, r, h, ⟨hr, hmo⟩, hK, hH, hI, hE, hO⟩ := hR
  have hn14 : np ≤ 14 := h.2.2.1.2.2.2
  obtain ⟨sz, e1, e2⟩ := hz_pz h a
  obtain ⟨e3, e4⟩ := hz_szz h b
  unfold sX7_daysToSize fX6_daysToSize fX7_daysToSize
  simp only [bnd]
  rw [e1, e2, e3, e4]
  by_cases c1 : hz_is np a = 0
  · rw [if_pos c1, if_pos c1]
    exact ⟨⟨sz, fun _ => trivial, fun h => absurd c1 h⟩, rfl, hz_Rup hR0 (by omega)⟩
  · obtain ⟨i, hi, rfl⟩ := hz_is_of (by omega) c1
    rw [if_neg c1, if_neg c1]
    by_cases c2 : hz_is nz b = 0
    · rw [if_pos c2, if_pos c2]
      exact ⟨⟨sz, fun h => absurd h c1, fun _ => ⟨fun _ => trivial, fun h => absurd c2 h⟩⟩, rfl, hz_Rup hR0 (by omega)⟩
    · obtain ⟨s, p0⟩ := hz_PDs h hmo
      have hfu : 61 < fuL 60 0 + 0 := by
        unfold fuL
        rw [show (60 : Int32).toInt = 60 from rfl, show (0 : Int32).toInt = 0 from rfl]
        omega
      have L := hl_daysTo hi b (x0 := -1) rfl (fuL 60 0) 0 _ _ (by omega) hfu p0
      rw [nI_0] at L
      obtain ⟨l1, l2, l3, l4, l5⟩ := L
      rw [if_neg c2, if_neg c2]
      generalize fX7_daysToSize_39 (nI i) b (fuL 60 0) 0 (-1) (fX7_startPrediction m) = X at *
      generalize fX6_daysToSize_32 (nI i) b (fuL 60 0) 0 (wP w 2 (fX5_copyFrom (w.2.2.1 2) (w.2.2.1 1))) = Y at *
      exact ⟨⟨sz, fun h => absurd h c1, fun _ => ⟨fun h => absurd h c2, fun _ => ⟨s, l1, trivial⟩⟩⟩, l2, hz_PDf h hK hH hI hE hO l3 l5 l4 (by omega)⟩
/-- pairs, if boarded -/
theorem hz_on1 (h : hz_RP w m ny ns nz np) (hmo : hz_mo w r) (hr : r + 1 < 2 ^ 40) {s : Nat} (hs : s < ns) {g : Int32} (hg : hz_rg 0 100 g) : ∃ K w1, K ≤ 7 ∧ fX6_pairsIfBoarded w (nI s) g = (nI K, w1) ∧ sX7_pairsOn m (nI s) g ∧ (fX7_pairsOn m (nI s) g).1 = nI K ∧ hz_skp w w1 ∧ hz_mo w1 (r + 1) ∧ hz_mq m (fX7_pairsOn m (nI s) g).2 := by
  obtain ⟨st, p0⟩ := hz_PDs h hmo
  have hsteam : hz_PR (upS (fX5_copyFrom (w.2.2.1 2) (w.2.2.1 1)) 5 g) (upd ((fX7_startPrediction m).2.1 2) 2 g) ny ns nz np := by
    have hP : hz_PR (fX5_copyFrom (w.2.2.1 2) (w.2.2.1 1)) ((fX7_startPrediction m).2.1 2) ny ns nz np := p0.2.1
    refine hz_uset hP (fun k hk hn => if_neg (by omega)) rfl (fun j hj => pk_un (by omega)) ⟨?_, ?_, ?_, ?_, ?_⟩ ⟨hP.2.2.2.2.1.1, hP.2.2.2.2.1.2.1, hg, hP.2.2.2.2.1.2.2.2⟩
    · rw [pk_un (by decide)]; exact hP.2.2.2.1.1
    · rw [pk_un (by decide)]; exact hP.2.2.2.1.2.1
    · rw [pk_us]; rfl
    · rw [pk_un (by decide)]; exact hP.2.2.2.1.2.2.2.1
    · rw [pk_un (by decide)]; exact hP.2.2.2.1.2.2.2.2
  have c1 : hz_ch (fX7_startPrediction m) (mA (fX7_startPrediction m) 2 (upd ((fX7_startPrediction m).2.1 2) 2 g)) := by
    have := hz_chA (fX7_startPrediction m) (upd ((fX7_startPrediction m).2.1 2) 2 g)
    rw [p0.1] at this
    exact this
  have p1 := hz_PDc p0 c1 (p1 := upS (fX5_copyFrom (w.2.2.1 2) (w.2.2.1 1)) 5 g) (by rw [hz_mAs]; exact hsteam)
  have hP1 := hz_pdr p1
  obtain ⟨d1, d2, d3, d4⟩ := hz_putA hP1 hs
  rw [p1.1] at d3
  have p2 := hz_PDc p1 d4 d3
  obtain ⟨K, w2, k7, e1, s2, e2, p3, -⟩ := hz_PDm p2 hr
  unfold fX6_pairsIfBoarded fX7_pairsOn sX7_pairsOn
  simp only [bnd]
  rw [p0.1]
  have ew : wP (wP (wP w 2 (fX5_copyFrom (w.2.2.1 2) (w.2.2.1 1))) 2 (upS (fX5_copyFrom (w.2.2.1 2) (w.2.2.1 1)) 5 g)) 2 (fX5_boardRaw (upS (fX5_copyFrom (w.2.2.1 2) (w.2.2.1 1)) 5 g) (nI s)).2 = wP (wP (wP w 2 (fX5_copyFrom (w.2.2.1 2) (w.2.2.1 1))) 2 (upS (fX5_copyFrom (w.2.2.1 2) (w.2.2.1 1)) 5 g)) 2 (fX5_boardRaw ((wP (wP w 2 (fX5_copyFrom (w.2.2.1 2) (w.2.2.1 1))) 2 (upS (fX5_copyFrom (w.2.2.1 2) (w.2.2.1 1)) 5 g)).2.2.1 2) (nI s)).2 := rfl
  rw [ew, e1]
  exact ⟨K, w2, k7, rfl, ⟨st, d1, s2, trivial⟩, e2, p3.2.2.1, p3.2.2.2.2, p3.2.2.2.1⟩
theorem hz_RPs {w1 : Wd} {m1 : Md} (h : hz_RP w m ny ns nz np) (hk : hz_skp w w1) (hm : hz_mq m m1) : hz_RP w1 m1 ny ns nz np := by
  refine ⟨hm.2.1.trans h.1, ?_⟩
  rw [hk.2.2.1 1 (by decide), hm.2.2 0 (by decide) (by decide) (by decide) (by decide)]
  exact h.2
theorem hp_ifAllBoarded {n : Nat} (hn : n ≤ 1000) (hR : hz_R n w m) (z : Int32) : sX7_ifAllBoarded m z ∧ (fX6_ifAllBoarded w z).1 = (fX7_ifAllBoarded m z).1 ∧ hz_R (n + 1) (fX6_ifAllBoarded w z).2 (fX7_ifAllBoarded m z).2 := by
  have hR0 := hR
  obtain ⟨ny, ns, nz, np, r, h, ⟨hr, hmo⟩, hK, hH, hI, hE, hO⟩ := hR
  have hns : ns ≤ 8 := h.2.2.1.2.1
  obtain ⟨sz, e1, e2⟩ := hz_shz h z
  have e3 : (m.2.1 0) 2 = (w.2.2.1 1).1 5 := h.2.2.2.2.1.2.2.1
  unfold sX7_ifAllBoarded fX6_ifAllBoarded fX7_ifAllBoarded
  simp only [bnd]
  rw [e1, e2, e3]
  by_cases c1 : hz_is ns z = 0
  · rw [if_pos c1, if_pos c1]
    exact ⟨⟨sz, fun _ => trivial, fun h => absurd c1 h⟩, rfl, hz_Rup hR0 (by omega)⟩
  · obtain ⟨j, hj, rfl⟩ := hz_is_of (by omega) c1
    obtain ⟨K, w1, k7, o1, o2, o3, o4, o5, o6⟩ := hz_on1 h hmo (by omega) hj h.2.2.2.2.2.1.2.2.1
    rw [if_neg c1, if_neg c1, o1]
    exact ⟨⟨sz, fun h => absurd h c1, fun _ => ⟨o2, trivial⟩⟩, o3.symm, hz_PDf h hK hH hI hE hO o4 o6 o5 (by omega)⟩
theorem hl_bestShape (h : hz_RP w m ny ns nz np) : ∀ (fu i r : Nat) (x1 x2 b : Int32) (y : Wd) (v : Md), i ≤ ns → r + 20 < 2 ^ 40 + i → hz_skp w y → hz_mo y r → hz_mq m v → ((b = -1 ∧ x1 = -1) ∨ (¬ b = -1 ∧ x1 = x2)) → sX7_bestShape_6 fu (nI i) x2 b v ∧ (fX6_bestShape_6 fu (nI i) x1 b y).2.2.1 = (fX7_bestShape_6 fu (nI i) x2 b v).2.2.1 ∧ hz_skp w (fX6_bestShape_6 fu (nI i) x1 b y).2.2.2 ∧ (∃ r1, r1 + i ≤ r + ns ∧ hz_mo (fX6_bestShape_6 fu (nI i) x1 b y).2.2.2 r1) ∧ hz_mq m (fX7_bestShape_6 fu (nI i) x2 b v).2.2.2 := by
  have hns : ns ≤ 8 := h.2.2.1.2.1
  intro fu
  induction fu with
  | zero => intro i r x1 x2 b y v hi hr hk hmo hm hb; exact ⟨trivial, rfl, hk, ⟨r, by omega, hmo⟩, hm⟩
  | succ fu ih =>
    intro i r x1 x2 b y v hi hr hk hmo hm hb
    have h' := hz_RPs h hk hm
    simp only [fX6_bestShape_6, fX7_bestShape_6, sX7_bestShape_6, bnd, show (y.2.2.1 1).1 1 = nI ns from h'.2.1.2.1, show (v.2.1 0) 6 = nI ns from h'.2.2.2.1.2.1, show (v.2.1 0) 2 = (y.2.2.1 1).1 5 from h'.2.2.2.2.1.2.2.1]
    by_cases c : nI ns ≤ nI i
    · rw [if_pos c, if_pos c]
      exact ⟨⟨fun _ => trivial, fun hh => absurd c hh⟩, rfl, hk, ⟨r, by omega, hmo⟩, hm⟩
    · have hi : i < ns := hz_c hi (by omega) c
      obtain ⟨K, w1, k7, o1, o2, o3, o4, o5, o6⟩ := hz_on1 h' hmo (by omega) hi h'.2.2.2.2.2.1.2.2.1
      rw [if_neg c, if_neg c, o1, o3, ← nI_succ]
      have go := fun x1 x2 b hb => ih (i + 1) (r + 1) x1 x2 b w1 (fX7_pairsOn v (nI i) ((y.2.2.1 1).1 5)).2 hi (by omega) (hz_skpT hk o4) o5 (hz_mqT hm o6) hb
      have hne : ¬ nI i = -1 := hz_nIm1 (by omega)
      rcases hb with ⟨b1, b2⟩ | ⟨b1, b2⟩
      · obtain ⟨g1, g2, g3, ⟨r1, g4, g5⟩, g6⟩ := go (nI K) (nI K) (nI i) (Or.inr ⟨hne, rfl⟩)
        have c3 : ¬ nI K ≤ x1 := by
          rw [b2, hz_le, nI_toInt (by omega), show (-1 : Int32).toInt = -1 from rfl]
          omega
        rw [if_pos b1, if_neg c3]
        exact ⟨⟨fun hh => absurd hh c, fun _ => ⟨o2, fun _ => g1, fun hh => absurd b1 hh⟩⟩, g2, g3, ⟨r1, by omega, g5⟩, g6⟩
      · rw [if_neg b1, b2]
        by_cases c3 : nI K ≤ x2
        · obtain ⟨g1, g2, g3, ⟨r1, g4, g5⟩, g6⟩ := go x2 x2 b (Or.inr ⟨b1, rfl⟩)
          rw [if_pos c3, if_neg (Int32.not_lt.mpr c3)]
          exact ⟨⟨fun hh => absurd hh c, fun _ => ⟨o2, fun hh => absurd hh b1, fun _ => ⟨fun hh => absurd hh (Int32.not_lt.mpr c3), fun _ => g1⟩⟩⟩, g2, g3, ⟨r1, by omega, g5⟩, g6⟩
        · have c4 : x2 < nI K := Int32.not_le.mp c3
          obtain ⟨g1, g2, g3, ⟨r1, g4, g5⟩, g6⟩ := go (nI K) (nI K) (nI i) (Or.inr ⟨hne, rfl⟩)
          rw [if_neg c3, if_pos c4]
          exact ⟨⟨fun hh => absurd hh c, fun _ => ⟨o2, fun hh => absurd hh b1, fun _ => ⟨fun _ => g1, fun hh => absurd c4 hh⟩⟩⟩, g2, g3, ⟨r1, by omega, g5⟩, g6⟩
theorem hp_bestShape {n : Nat} (hn : n ≤ 1000) (hR : hz_R n w m) : sX7_bestShape m ∧ (fX6_bestShape w).1 = (fX7_bestShape m).1 ∧ hz_R (n + 1) (fX6_bestShape w).2 (fX7_bestShape m).2 := by
  obtain ⟨ny, ns, nz, np, r, h, ⟨hr, hmo⟩, hK, hH, hI, hE, hO⟩ := hR
  have hns : ns ≤ 8 := h.2.2.1.2.1
  have L := hl_bestShape h (fuU 2147483647 0) 0 r (-1) 0 (-1) w m (Nat.zero_le _) (by omega) (hz_skp0 w) hmo (hz_mq0 m) (Or.inl ⟨rfl, rfl⟩)
  rw [nI_0] at L
  unfold sX7_bestShape fX6_bestShape fX7_bestShape
  simp only [bnd]
  obtain ⟨l1, l2, l3, ⟨r1, l4, l5⟩, l6⟩ := L
  generalize fX7_bestShape_6 (fuU 2147483647 0) 0 0 (-1) m = X at *
  generalize fX6_bestShape_6 (fuU 2147483647 0) 0 (-1) (-1) w = Y at *
  exact ⟨⟨l1, trivial⟩, l2, hz_PDf h hK hH hI hE hO l3 l6 l5 (by omega)⟩
theorem hl_leastSteam (h : hz_RP w m ny ns nz np) {s : Nat} (hs : s < ns) (z : Int32) : ∀ (fu i r : Nat) (y : Wd) (v : Md), i ≤ 101 → r + 200 < 2 ^ 40 + i → hz_skp w y → hz_mo y r → hz_mq m v → sX7_leastSteam_20 (nI s) z fu (nI i) v ∧ (fX6_leastSteam_23 (nI s) z fu (nI i) y).1 = (fX7_leastSteam_20 (nI s) z fu (nI i) v).1 ∧ hz_skp w (fX6_leastSteam_23 (nI s) z fu (nI i) y).2 ∧ (∃ r1, r1 + i ≤ r + 101 ∧ hz_mo (fX6_leastSteam_23 (nI s) z fu (nI i) y).2 r1) ∧ hz_mq m (fX7_leastSteam_20 (nI s) z fu (nI i) v).2 := by
  intro fu
  induction fu with
  | zero => intro i r y v hi hr hk hmo hm; exact ⟨trivial, rfl, hk, ⟨r, by omega, hmo⟩, hm⟩
  | succ fu ih =>
    intro i r y v hi hr hk hmo hm
    have h' := hz_RPs h hk hm
    simp only [fX6_leastSteam_23, fX7_leastSteam_20, sX7_leastSteam_20, bnd]
    by_cases c : (100 : Int32) < nI i
    · rw [if_pos c, if_pos c]
      exact ⟨⟨fun _ => trivial, fun hh => absurd c hh⟩, rfl, hk, ⟨r, by omega, hmo⟩, hm⟩
    · have hi : i ≤ 100 := by
        have c' : ¬ nI 100 < nI i := c
        rw [nI_ltI (by omega) (by omega)] at c'
        omega
      obtain ⟨K, w1, k7, o1, o2, o3, o4, o5, o6⟩ := hz_on1 h' hmo (by omega) hs (g := nI i) (by unfold hz_rg; rw [nI_toInt (by omega)]; omega)
      rw [if_neg c, if_neg c, o1, o3, ← nI_succ]
      by_cases c2 : nI K < z
      · obtain ⟨g1, g2, g3, ⟨r1, g4, g5⟩, g6⟩ := ih (i + 1) (r + 1) w1 (fX7_pairsOn v (nI s) (nI i)).2 (by omega) (by omega) (hz_skpT hk o4) o5 (hz_mqT hm o6)
        rw [if_pos c2, if_pos c2]
        exact ⟨⟨fun hh => absurd hh c, fun _ => ⟨o2, fun _ => g1, fun hh => absurd c2 hh⟩⟩, g2, g3, ⟨r1, by omega, g5⟩, g6⟩
      · rw [if_neg c2, if_neg c2]
        exact ⟨⟨fun hh => absurd hh c, fun _ => ⟨o2, fun hh => absurd hh c2, fun _ => trivial⟩⟩, rfl, hz_skpT hk o4, ⟨r + 1, by omega, o5⟩, hz_mqT hm o6⟩
theorem hz_isPairs (z : Int32) : sX7_isPairs z ∧ fX7_isPairs z = fX6_isBetween z 1 7 := by
  have e : fX7_in z.toInt64 1 7 = fX6_isBetween z 1 7 := hz_in z 1 7
  refine ⟨⟨?_, trivial⟩, e⟩
  rw [e]; exact hz_nb (hz_btw z 1 7)
theorem hp_leastSteam {n : Nat} (hn : n ≤ 1000) (hR : hz_R n w m) (a b : Int32) : sX7_leastSteam m a b ∧ (fX6_leastSteam w a b).1 = (fX7_leastSteam m a b).1 ∧ hz_R (n + 1) (fX6_leastSteam w a b).2 (fX7_leastSteam m a b).2 := by
  have hR0 := hR
  obtain ⟨ny, ns, nz, np, r, h, ⟨hr, hmo⟩, hK, hH, hI, hE, hO⟩ := hR
  have hns : ns ≤ 8 := h.2.2.1.2.1
  obtain ⟨sz, e1, e2⟩ := hz_shz h a
  obtain ⟨s2, e3⟩ := hz_isPairs b
  unfold sX7_leastSteam fX6_leastSteam fX7_leastSteam
  rw [e1, e2, e3]
  by_cases c1 : hz_is ns a = 0
  · rw [if_pos c1, if_pos c1]
    exact ⟨⟨sz, fun _ => trivial, fun h => absurd c1 h⟩, rfl, hz_Rup hR0 (by omega)⟩
  · obtain ⟨j, hj, rfl⟩ := hz_is_of (by omega) c1
    rw [if_neg c1, if_neg c1]
    by_cases c2 : fX6_isBetween b 1 7 = 0
    · rw [if_pos c2, if_pos c2]
      exact ⟨⟨sz, fun h => absurd h c1, fun _ => ⟨s2, fun _ => trivial, fun h => absurd c2 h⟩⟩, rfl, hz_Rup hR0 (by omega)⟩
    · have L := hl_leastSteam h hj b (fuL 100 0) 0 r w m (by omega) (by omega) (hz_skp0 w) hmo (hz_mq0 m)
      rw [nI_0] at L
      rw [if_neg c2, if_neg c2]
      obtain ⟨l1, l2, l3, ⟨r1, l4, l5⟩, l6⟩ := L
      generalize fX7_leastSteam_20 (nI j) b (fuL 100 0) 0 m = X at *
      generalize fX6_leastSteam_23 (nI j) b (fuL 100 0) 0 w = Y at *
      exact ⟨⟨sz, fun h => absurd h c1, fun _ => ⟨s2, fun h => absurd h c2, fun _ => l1⟩⟩, l2, hz_PDf h hK hH hI hE hO l3 l6 l5 (by omega)⟩
/-- pairs within other tolerances -/
theorem hz_wi1 (h : hz_RP w m ny ns nz np) (hmo : hz_mo w r) (hr : r + 1 < 2 ^ 40) {a b : Int32} (ha : hz_rg 0 500 a) (hb : hz_rg 0 255 b) : ∃ K w1, K ≤ 7 ∧ fX6_pairsWithin w a b = (nI K, w1) ∧ sX7_startPrediction m ∧ hz_skp w w1 ∧ hz_mo w1 (r + 1) ∧ ∀ v, v = mA (mA (fX7_startPrediction m) 2 (upd ((fX7_startPrediction m).2.1 2) 0 a)) 2 (upd (upd ((fX7_startPrediction m).2.1 2) 0 a) 1 b) → sX7_countPairs v ∧ (fX7_countPairs v).1 = nI K ∧ hz_mq m (mN (fX7_countPairs v).2 0) := by
  obtain ⟨st, p0⟩ := hz_PDs h hmo
  have hP : hz_PR (fX5_copyFrom (w.2.2.1 2) (w.2.2.1 1)) ((fX7_startPrediction m).2.1 2) ny ns nz np := p0.2.1
  have c0 : ∀ f, hz_ch (fX7_startPrediction m) (mA (fX7_startPrediction m) 2 f) := fun f => by
    have := hz_chA (fX7_startPrediction m) f
    rw [p0.1] at this
    exact this
  have c1 : ∀ f g, hz_ch (fX7_startPrediction m) (mA (mA (fX7_startPrediction m) 2 f) 2 g) := fun f g => by
    have h1 := hz_chA (mA (fX7_startPrediction m) 2 f) g
    rw [show (mA (fX7_startPrediction m) 2 f).2.2 = 2 from p0.1] at h1
    exact hz_chT (c0 f) h1
  have p1 := hz_PDc p0 (c1 (upd ((fX7_startPrediction m).2.1 2) 0 a) (upd (upd ((fX7_startPrediction m).2.1 2) 0 a) 1 b)) (p1 := upS (upS (fX5_copyFrom (w.2.2.1 2) (w.2.2.1 1)) 3 a) 4 b) (by rw [hz_mAs]; exact hz_tolP hP ha hb)
  obtain ⟨K, w2, k7, e1, s2, e2, p3, -⟩ := hz_PDm p1 hr
  refine ⟨K, w2, k7, ?_, st, p3.2.2.1, p3.2.2.2.2, fun v hv => ?_⟩
  · unfold fX6_pairsWithin
    simp only [bnd]
    rw [hz_wPP (wP w 2 (fX5_copyFrom (w.2.2.1 2) (w.2.2.1 1)))] at *
    rw [e1]
  · rw [hv]
    exact ⟨s2, e2, p3.2.2.2.1⟩
theorem hp_ifTolerance {n : Nat} (hn : n ≤ 1000) (hR : hz_R n w m) (a b : Int32) : sX7_ifTolerance m a b ∧ (fX6_ifTolerance w a b).1 = (fX7_ifTolerance m a b).1 ∧ hz_R (n + 1) (fX6_ifTolerance w a b).2 (fX7_ifTolerance m a b).2 := by
  have hR0 := hR
  obtain ⟨ny, ns, nz, np, r, h, ⟨hr, hmo⟩, hK, hH, hI, hE, hO⟩ := hR
  have e0 : fX7_in a.toInt64 0 500 = fX6_isBetween a 0 500 := hz_in a 0 500
  have e00 : fX7_in b.toInt64 0 255 = fX6_isBetween b 0 255 := hz_in b 0 255
  have tb := hz_tolB a b
  unfold sX7_ifTolerance fX6_ifTolerance fX7_ifTolerance
  simp only [bnd]
  rw [e0, e00]
  by_cases c1 : fX6_isBetween a 0 500 = 0
  · rw [if_pos c1, if_pos (tb.mpr (Or.inl c1))]
    exact ⟨⟨fun _ => trivial, fun h => absurd c1 h⟩, rfl, hz_Rup hR0 (by omega)⟩
  · rw [if_neg c1]
    by_cases c2 : fX6_isBetween b 0 255 = 0
    · rw [if_pos c2, if_pos (tb.mpr (Or.inr c2))]
      exact ⟨⟨fun h => absurd h c1, fun _ => ⟨fun _ => trivial, fun h => absurd c2 h⟩⟩, rfl, hz_Rup hR0 (by omega)⟩
    · rw [if_neg c2, if_neg (fun e => (tb.mp e).elim c1 c2)]
      obtain ⟨K, w1, k7, o1, o2, o3, o4, o5⟩ := hz_wi1 h hmo (by omega) (hz_btw1 c1) (hz_btw1 c2)
      obtain ⟨q1, q2, q3⟩ := o5 _ rfl
      have en : (fX7_startPrediction m).2.2 = 2 := (hz_start m).2.2.1
      rw [o1, en]
      have ev : mA (mA (fX7_startPrediction m) 2 (upd ((fX7_startPrediction m).2.1 2) 0 a)) (mA (fX7_startPrediction m) 2 (upd ((fX7_startPrediction m).2.1 2) 0 a)).2.2 (upd ((mA (fX7_startPrediction m) 2 (upd ((fX7_startPrediction m).2.1 2) 0 a)).2.1 (mA (fX7_startPrediction m) 2 (upd ((fX7_startPrediction m).2.1 2) 0 a)).2.2) 1 b) = mA (mA (fX7_startPrediction m) 2 (upd ((fX7_startPrediction m).2.1 2) 0 a)) 2 (upd (upd ((fX7_startPrediction m).2.1 2) 0 a) 1 b) := by
        rw [show (mA (fX7_startPrediction m) 2 (upd ((fX7_startPrediction m).2.1 2) 0 a)).2.2 = 2 from en, hz_mAs]
      rw [ev]
      exact ⟨⟨fun h => absurd h c1, fun _ => ⟨fun h => absurd h c2, fun _ => ⟨o2, q1, trivial⟩⟩⟩, q2.symm, hz_PDf h hK hH hI hE hO o3 q3 o4 (by omega)⟩
theorem hz_wi2 (h : hz_RP w m ny ns nz np) (hmo : hz_mo w r) (hr : r + 1 < 2 ^ 40) {a : Int32} (ha : hz_rg 0 500 a) : ∃ K w1, K ≤ 7 ∧ fX6_pairsWithin w a ((w.2.2.1 1).1 4) = (nI K, w1) ∧ sX7_pairsWithin m a ∧ (fX7_pairsWithin m a).1 = nI K ∧ hz_skp w w1 ∧ hz_mo w1 (r + 1) ∧ hz_mq m (fX7_pairsWithin m a).2 := by
  obtain ⟨K, w1, k7, o1, o2, o3, o4, o5⟩ := hz_wi1 h hmo hr ha h.2.2.2.2.2.1.2.1
  obtain ⟨st, a1, a2, a3, a4⟩ := hz_start m
  have e1 : upd (upd ((fX7_startPrediction m).2.1 2) 0 a) 1 ((w.2.2.1 1).1 4) = upd ((fX7_startPrediction m).2.1 2) 0 a := by
    funext j
    by_cases hj : j = 1
    · rw [hj, pk_us, pk_un (by decide), a4 1 (by decide)]
      exact h.2.2.2.2.1.2.1.symm
    · rw [pk_un hj]
  obtain ⟨q1, q2, q3⟩ := o5 (mA (fX7_startPrediction m) 2 (upd ((fX7_startPrediction m).2.1 2) 0 a)) (by rw [e1, hz_mAA])
  refine ⟨K, w1, k7, o1, ?_, ?_, o3, o4, ?_⟩
  · unfold sX7_pairsWithin
    simp only [bnd]
    rw [a2]
    exact ⟨o2, q1, trivial⟩
  · unfold fX7_pairsWithin
    simp only [bnd]
    rw [a2]
    exact q2
  · unfold fX7_pairsWithin
    simp only [bnd]
    rw [a2]
    exact q3
theorem hl_leastTol (h : hz_RP w m ny ns nz np) (z : Int32) : ∀ (k fu fv j lo hi r : Nat) (y : Wd) (v : Md), hi < lo + 2 ^ k → lo ≤ hi → hi ≤ 500 → j + k ≤ 9 → 10 < fu + j → k < fv → r + 20 < 2 ^ 40 + j → hz_skp w y → hz_mo y r → hz_mq m v → sX7_leastTolerance_29 z fv (nI hi) (nI lo) v ∧ (fX6_leastTolerance_45 z ((w.2.2.1 1).1 4) fu (nI j) (nI hi) (nI lo) y).2.1 = (fX7_leastTolerance_29 z fv (nI hi) (nI lo) v).2.1 ∧ hz_skp w (fX6_leastTolerance_45 z ((w.2.2.1 1).1 4) fu (nI j) (nI hi) (nI lo) y).2.2.2 ∧ (∃ r1, r1 + j ≤ r + 10 ∧ hz_mo (fX6_leastTolerance_45 z ((w.2.2.1 1).1 4) fu (nI j) (nI hi) (nI lo) y).2.2.2 r1) ∧ hz_mq m (fX7_leastTolerance_29 z fv (nI hi) (nI lo) v).2.2 := by
  intro k
  induction k with
  | zero =>
    intro fu fv j lo hi r y v h1 h2 h3 h4 h5 h6 h7 hk hmo hm
    match fu, fv, h5, h6 with
    | fu + 1, fv + 1, h5, h6 =>
      have e : hi = lo := by omega
      simp only [fX6_leastTolerance_45, fX7_leastTolerance_29, sX7_leastTolerance_29, bnd]
      rw [if_neg (show ¬ (10 : Int32) ≤ nI j from nI_ge (a := j) (b := 10) (by omega) (by omega)), e, if_pos (Int32.le_refl _), if_pos (Int32.le_refl _)]
      exact ⟨⟨fun _ => trivial, fun hh => absurd (Int32.le_refl _) hh⟩, rfl, hk, ⟨r, by omega, hmo⟩, hm⟩
    | 0, _, h5, _ => omega
    | _ + 1, 0, _, h6 => omega
  | succ k ih =>
    intro fu fv j lo hi r y v h1 h2 h3 h4 h5 h6 h7 hk hmo hm
    match fu, fv, h5, h6 with
    | 0, _, h5, _ => omega
    | _ + 1, 0, _, h6 => omega
    | fu + 1, fv + 1, h5, h6 =>
      have h' := hz_RPs h hk hm
      simp only [fX6_leastTolerance_45, fX7_leastTolerance_29, sX7_leastTolerance_29, bnd]
      rw [if_neg (show ¬ (10 : Int32) ≤ nI j from nI_ge (a := j) (b := 10) (by omega) (by omega))]
      by_cases c : nI hi ≤ nI lo
      · have c' := c
        rw [nI_leI (by omega) (by omega)] at c'
        have e : hi = lo := by omega
        rw [if_pos c, if_pos c]
        exact ⟨⟨fun _ => trivial, fun hh => absurd c hh⟩, by rw [e], hk, ⟨r, by omega, hmo⟩, hm⟩
      · have hlt : lo < hi := by
          rw [nI_leI (by omega) (by omega)] at c
          omega
        have em : (nI lo + nI hi) / 2 = nI ((lo + hi) / 2) := by rw [nI_add, show (2 : Int32) = nI 2 from rfl, pk_div (by omega) (by omega) (by omega)]
        have esh : (w.2.2.1 1).1 4 = (y.2.2.1 1).1 4 := by rw [hk.2.2.1 1 (by decide)]
        obtain ⟨K, w1, k7, o1, o2, o3, o4, o5, o6⟩ := hz_wi2 h' hmo (by omega) (a := nI ((lo + hi) / 2)) (by unfold hz_rg; rw [nI_toInt (by omega)]; omega)
        rw [← esh] at o1
        rw [if_neg c, if_neg c, em, o1, o3, ← nI_succ, ← nI_succ]
        have hp2 : 2 ^ (k + 1) = 2 * 2 ^ k := by rw [Nat.pow_succ, Nat.mul_comm]
        by_cases c2 : nI K < z
        · obtain ⟨g1, g2, g3, ⟨r1, g4, g5⟩, g6⟩ := ih fu fv (j + 1) ((lo + hi) / 2 + 1) hi (r + 1) w1 (fX7_pairsWithin v (nI ((lo + hi) / 2))).2 (by omega) (by omega) h3 (by omega) (by omega) (by omega) (by omega) (hz_skpT hk o4) o5 (hz_mqT hm o6)
          rw [if_pos c2, if_pos c2]
          exact ⟨⟨fun hh => absurd hh c, fun _ => ⟨o2, fun _ => g1, fun hh => absurd c2 hh⟩⟩, g2, g3, ⟨r1, by omega, g5⟩, g6⟩
        · obtain ⟨g1, g2, g3, ⟨r1, g4, g5⟩, g6⟩ := ih fu fv (j + 1) lo ((lo + hi) / 2) (r + 1) w1 (fX7_pairsWithin v (nI ((lo + hi) / 2))).2 (by omega) (by omega) (by omega) (by omega) (by omega) (by omega) (by omega) (hz_skpT hk o4) o5 (hz_mqT hm o6)
          rw [if_neg c2, if_neg c2]
          exact ⟨⟨fun hh => absurd hh c, fun _ => ⟨o2, fun hh => absurd hh c2, fun _ => g1⟩⟩, g2, g3, ⟨r1, by omega, g5⟩, g6⟩
theorem hp_leastTolerance {n : Nat} (hn : n ≤ 1000) (hR : hz_R n w m) (z : Int32) : sX7_leastTolerance m z ∧ (fX6_leastTolerance w z).1 = (fX7_leastTolerance m z).1 ∧ hz_R (n + 1) (fX6_leastTolerance w z).2 (fX7_leastTolerance m z).2 := by
  have hR0 := hR
  obtain ⟨ny, ns, nz, np, r, h, ⟨hr, hmo⟩, hK, hH, hI, hE, hO⟩ := hR
  obtain ⟨s2, e3⟩ := hz_isPairs z
  unfold sX7_leastTolerance fX6_leastTolerance fX7_leastTolerance
  simp only [bnd]
  rw [e3]
  by_cases c2 : fX6_isBetween z 1 7 = 0
  · rw [if_pos c2, if_pos c2]
    exact ⟨⟨s2, fun _ => trivial, fun h => absurd c2 h⟩, rfl, hz_Rup hR0 (by omega)⟩
  · obtain ⟨K, w1, k7, o1, o2, o3, o4, o5, o6⟩ := hz_wi2 h hmo (by omega) (a := 500) (by unfold hz_rg; decide)
    rw [if_neg c2, if_neg c2, o1, o3]
    have hfu : 10 < fuU 10 0 + 0 := by
      unfold fuU
      rw [show (10 : Int32).toInt = 10 from rfl, show (0 : Int32).toInt = 0 from rfl]
      omega
    have L := hl_leastTol h z 9 (fuU 10 0) 12 0 0 500 (r + 1) w1 (fX7_pairsWithin m 500).2 (by omega) (by omega) (by omega) (by omega) hfu (by omega) (by omega) o4 o5 o6
    rw [nI_0, show nI 500 = 500 from rfl] at L
    obtain ⟨l1, l2, l3, ⟨r1, l4, l5⟩, l6⟩ := L
    generalize fX7_leastTolerance_29 z 12 500 0 (fX7_pairsWithin m 500).2 = X at *
    generalize fX6_leastTolerance_45 z ((w.2.2.1 1).1 4) (fuU 10 0) 0 500 0 w1 = Y at *
    refine ⟨⟨s2, fun h => absurd h c2, fun _ => ⟨o2, fun _ => ⟨l1, trivial⟩, fun _ => trivial⟩⟩, ?_⟩
    by_cases c3 : z ≤ nI K
    · rw [if_pos c3, if_pos c3]
      exact ⟨l2, hz_PDf h hK hH hI hE hO l3 l6 l5 (by omega)⟩
    · rw [if_neg c3, if_neg c3]
      exact ⟨rfl, hz_PDf h hK hH hI hE hO o4 o6 o5 (by omega)⟩
end HZX
