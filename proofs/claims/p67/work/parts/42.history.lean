/-! The plants that are kept. -/
theorem hz_r54 {c : Nat} (hc : c ≤ 9) : ∀ (fu i : Nat) (y : Md), i ≤ 146 → 146 < fu + i → y.1 2 = nI c → sX7_remember_54 fu (nI i) y ∧ ((fX7_remember_54 fu (nI i) y).2.1 = y.1 ∧ (fX7_remember_54 fu (nI i) y).2.2.2 = y.2.2 ∧ ∀ k, ¬ k = 6 → (fX7_remember_54 fu (nI i) y).2.2.1 k = y.2.1 k) ∧ (∀ j, i ≤ j → j < 146 → (fX7_remember_54 fu (nI i) y).2.2.1 6 (146 * c + j) = y.2.1 0 j) ∧ ∀ q, (∀ j, i ≤ j → j < 146 → q ≠ 146 * c + j) → (fX7_remember_54 fu (nI i) y).2.2.1 6 q = y.2.1 6 q := by
  intro fu
  induction fu with
  | zero => intro i y h1 h2; omega
  | succ fu ih =>
    intro i y hi hf hy
    simp only [fX7_remember_54, sX7_remember_54, bnd, hy]
    by_cases h : (146 : Int32) ≤ nI i
    · rw [if_pos h]
      have h9 : nI 146 ≤ nI i := h
      rw [nI_leI (by omega) (by omega)] at h9
      exact ⟨⟨fun _ => trivial, fun h2 => absurd h h2⟩, ⟨rfl, rfl, fun _ _ => rfl⟩, fun j h1 h2 => by omega, fun _ _ => rfl⟩
    · have hi : i < 146 := hz_c (n := 146) hi (by omega) h
      have ei : ((146 : Int32) * nI c) + nI i = nI (146 * c + i) := by
        rw [show (146 : Int32) = nI 146 from rfl, pk_mul, nI_add]
      rw [if_neg h, ← nI_succ, ei, nI_clamp (by omega), nI_clamp (by omega)]
      obtain ⟨a, ⟨b1, b2, b3⟩, d, e⟩ := ih (i + 1) (mA y 6 (upd (y.2.1 6) (146 * c + i) (y.2.1 0 i))) hi (by omega) hy
      refine ⟨⟨fun h2 => absurd h2 h, fun _ => ⟨vp_in_nI hi (by omega), vp_in_nI (by omega) (by omega), a⟩⟩, ⟨b1, b2, fun k hk => (b3 k hk).trans (if_neg hk)⟩, fun j h1 h2 => ?_, fun q hq => ?_⟩
      · by_cases hj : j = i
        · rw [hj, e (146 * c + i) (fun t h3 h4 => by omega), hz_mAs, pk_us]
        · rw [d j (by omega) h2]; rfl
      · rw [e q (fun t h3 h4 => hq t (by omega) h4), hz_mAs, pk_un (hq i (Nat.le_refl _) hi)]
theorem hz_r13 : ∀ (fu i : Nat) (y : Md), 146 ≤ i → i ≤ 1460 → 1460 < fu + i → sX7_remember_13 fu (nI i) y ∧ ((fX7_remember_13 fu (nI i) y).2.1 = y.1 ∧ (fX7_remember_13 fu (nI i) y).2.2.2 = y.2.2 ∧ ∀ k, ¬ k = 6 → (fX7_remember_13 fu (nI i) y).2.2.1 k = y.2.1 k) ∧ (∀ j, i ≤ j + 146 → j < 1314 → (fX7_remember_13 fu (nI i) y).2.2.1 6 j = y.2.1 6 (j + 146)) ∧ ∀ j, j + 146 < i → (fX7_remember_13 fu (nI i) y).2.2.1 6 j = y.2.1 6 j := by
  intro fu
  induction fu with
  | zero => intro i y h1 h2; omega
  | succ fu ih =>
    intro i y h146 hi hf
    simp only [fX7_remember_13, sX7_remember_13, bnd]
    by_cases h : (1460 : Int32) ≤ nI i
    · rw [if_pos h]
      have h9 : nI 1460 ≤ nI i := h
      rw [nI_leI (by omega) (by omega)] at h9
      exact ⟨⟨fun _ => trivial, fun h2 => absurd h h2⟩, ⟨rfl, rfl, fun _ _ => rfl⟩, fun j h1 h2 => by omega, fun _ _ => rfl⟩
    · have hi : i < 1460 := hz_c (n := 1460) hi (by omega) h
      have ei : nI i - (146 : Int32) = nI (i - 146) := pk_sub (a := i) (b := 146) h146
      rw [if_neg h, ← nI_succ, ei, nI_clamp (by omega), nI_clamp (by omega)]
      obtain ⟨a, ⟨b1, b2, b3⟩, d, e⟩ := ih (i + 1) (mA y 6 (upd (y.2.1 6) (i - 146) (y.2.1 6 i))) (by omega) hi (by omega)
      refine ⟨⟨fun h2 => absurd h2 h, fun _ => ⟨vp_in_nI hi (by omega), vp_in_nI (by omega) (by omega), a⟩⟩, ⟨b1, b2, fun k hk => (b3 k hk).trans (if_neg hk)⟩, fun j h1 h2 => ?_, fun j h1 => ?_⟩
      · by_cases hj : j + 146 = i
        · rw [e j (by omega), hz_mAs, show j = i - 146 by omega, pk_us, show i - 146 + 146 = i by omega]
        · rw [d j (by omega) h2, hz_mAs, pk_un (by omega)]
      · rw [e j (by omega), hz_mAs, pk_un (by omega)]
/-- what remembering leaves -/
def hz_rm6 (m m1 : Md) : Prop := (∀ q, ¬ q = 2 → m1.1 q = m.1 q) ∧ m1.2.2 = m.2.2 ∧ ∀ k, ¬ k = 6 → m1.2.1 k = m.2.1 k
def hz_bc (w w1 : Wd) : Prop := w1.1 13 = 0 ∧ (∀ q, ¬ q = 11 → ¬ q = 12 → ¬ q = 13 → w1.1 q = w.1 q) ∧ w1.2.1 = w.2.1 ∧ (∀ q, q < 3 → w1.2.2.1 q = w.2.2.1 q) ∧ w1.2.2.2 = w.2.2.2
theorem hz_f146 (i : Nat) (h : i = 0) : 146 < fuU 146 (nI i) + i := by
  subst h
  unfold fuU
  rw [show (146 : Int32).toInt = 146 from rfl, show (nI 0).toInt = 0 from rfl]
  omega
theorem hz_f1460 : 1460 < fuU 1460 146 + 146 := by
  unfold fuU
  rw [show (1460 : Int32).toInt = 1460 from rfl, show (146 : Int32).toInt = 146 from rfl]
  omega
theorem hz_remA (m : Md) {c : Nat} (hc : c ≤ 9) (hm : m.1 2 = nI c) : ∃ R : Int32 × Md, fX7_remember_54 (fuU 146 0) 0 m = R ∧ sX7_remember_54 (fuU 146 0) 0 m ∧ R.2.1 = m.1 ∧ R.2.2.2 = m.2.2 ∧ (∀ k, ¬ k = 6 → R.2.2.1 k = m.2.1 k) ∧ (∀ j, j < 146 → R.2.2.1 6 (146 * c + j) = m.2.1 0 j) ∧ ∀ q, (∀ j, j < 146 → q ≠ 146 * c + j) → R.2.2.1 6 q = m.2.1 6 q := by
  have L := hz_r54 hc (fuU 146 (nI 0)) 0 m (Nat.zero_le _) (hz_f146 0 rfl) hm
  rw [nI_0] at L
  obtain ⟨a, ⟨b1, b2, b3⟩, d, e⟩ := L
  exact ⟨_, rfl, a, b1, b2, b3, fun j hj => d j (Nat.zero_le _) hj, fun q hq => e q (fun j _ hj => hq j hj)⟩
theorem hz_remB (m : Md) : ∃ R : Int32 × Md, fX7_remember_13 (fuU 1460 146) 146 m = R ∧ sX7_remember_13 (fuU 1460 146) 146 m ∧ R.2.1 = m.1 ∧ R.2.2.2 = m.2.2 ∧ (∀ k, ¬ k = 6 → R.2.2.1 k = m.2.1 k) ∧ ∀ j, j < 1314 → R.2.2.1 6 j = m.2.1 6 (j + 146) := by
  have L := hz_r13 (fuU 1460 146) 146 m (Nat.le_refl _) (by omega) hz_f1460
  rw [show nI 146 = 146 from rfl] at L
  obtain ⟨a, ⟨b1, b2, b3⟩, d, e⟩ := L
  exact ⟨_, rfl, a, b1, b2, b3, fun j hj => d j (by omega) hj⟩
theorem hz_place {w : Wd} {old c : Nat} (ho : old < 10) (hc : c ≤ 10) (h : w.1 12 = nI old) : fX1_placeOf w (nI c) = nI ((old + c) % 10) := by
  unfold fX1_placeOf
  rw [h, nI_add, show (10 : Int32) = nI 10 from rfl, pk_rem (by omega) (by omega) (by omega)]
section HZT
variable {w : Wd} {m : Md} {ny ns nz np : Nat}
theorem hz_rmb (hP : hz_PR (w.2.2.1 1) (m.2.1 0) ny ns nz np) (hH : hz_hist w m) : sX7_remember m ∧ hz_rm6 m (fX7_remember m) ∧ hz_bc w (fX6_beforeChange w) ∧ hz_hist (fX6_beforeChange w) (fX7_remember m) := by
  obtain ⟨cnt, old, a1, a2, a3, a4, a5, a6⟩ := hH
  have ep := hz_place (w := w) a2 a1 a4
  have hlt : (old + cnt) % 10 < 10 := Nat.mod_lt _ (by decide)
  -- the class keeps
  have eK : fX1_keep_21 w = (if 10 ≤ w.1 11 then wS (wP w (3 + (old + cnt) % 10) (fX5_copyFrom (w.2.2.1 (3 + (old + cnt) % 10)) (w.2.2.1 1))) 12 (((w.1 12) + 1) - ((w.1 12) + 1) / 10 * 10) else wS (wP w (3 + (old + cnt) % 10) (fX5_copyFrom (w.2.2.1 (3 + (old + cnt) % 10)) (w.2.2.1 1))) 11 ((w.1 11) + 1)) := by
    unfold fX1_keep_21
    rw [a3, ep, if_pos ⟨nI_pos (by omega), nI_ge (a := (old + cnt) % 10) (b := 10) hlt (by omega)⟩, nI_clamp (by omega)]
    simp only [bnd]
    show (if 10 ≤ w.1 11 then wS (wP w _ _) 12 (((w.1 12) + 1) - ((w.1 12) + 1) / 10 * 10) else wS (wP w _ _) 11 ((w.1 11) + 1)) = _
    rw [a3]
  unfold fX6_beforeChange
  simp only [bnd]
  rw [eK, a3, a4]
  by_cases c10 : cnt = 10
  · have hm10 : m.1 2 = 10 := by rw [a5, c10]; rfl
    have e12 : (nI old + 1) - (nI old + 1) / 10 * 10 = nI ((old + 1) % 10) := by
      rw [← nI_succ, show (10 : Int32) = nI 10 from rfl, pk_rem (by omega) (by omega) (by omega)]
    obtain ⟨R, r1, r2, r3, r4, r5, r6⟩ := hz_remB m
    have h9 : (mS R.2 2 ((R.2.1 2) - 1)).1 2 = nI 9 := by
      show (R.2.1 2) - 1 = nI 9
      rw [r3, hm10]; rfl
    obtain ⟨T, t1, t2, t3, t4, t5, t6, t7⟩ := hz_remA (mS R.2 2 ((R.2.1 2) - 1)) (Nat.le_refl 9) h9
    have eo : (old + 10) % 10 = old := by omega
    rw [c10, eo, if_pos (show (10 : Int32) ≤ nI 10 from Int32.le_refl _), e12]
    unfold sX7_remember fX7_remember
    simp only [bnd]
    rw [if_pos hm10, r1, t1]
    refine ⟨⟨fun _ => ⟨r2, t2, trivial⟩, fun h => absurd hm10 h⟩, ⟨fun q hq => ?_, ?_, fun k hk => ?_⟩, ⟨rfl, fun q h1 h2 h3 => ?_, rfl, fun q hq => if_neg (by omega), rfl⟩, 10, (old + 1) % 10, Nat.le_refl _, Nat.mod_lt _ (by decide), ?_, rfl, ?_, fun i hi => ?_⟩
    · show (if q = 2 then _ else T.2.1 q) = _
      rw [if_neg hq, t3]
      show (if q = 2 then _ else R.2.1 q) = _
      rw [if_neg hq, r3]
    · show T.2.2.2 = _
      rw [t4]; exact r4
    · show T.2.2.1 k = _
      rw [t5 k hk]; exact r5 k hk
    · show (if q = 13 then _ else if q = 12 then _ else w.1 q) = _
      rw [if_neg h3, if_neg h2]
    · show w.1 11 = _
      rw [a3, c10]
    · show T.2.1 2 + 1 = nI 10
      rw [t3, h9]; rfl
    · show ∃ ny ns nz np, hz_PR (if 3 + ((old + 1) % 10 + i) % 10 = 3 + old then _ else w.2.2.1 (3 + ((old + 1) % 10 + i) % 10)) (fun j => T.2.2.1 6 (146 * i + j)) ny ns nz np
      by_cases h9i : i = 9
      · have em : 3 + ((old + 1) % 10 + i) % 10 = 3 + old := by omega
        rw [if_pos em, h9i]
        refine ⟨ny, ns, nz, np, hz_cp hP (fun j hj => ?_)⟩
        rw [t6 j hj]
        show R.2.2.1 0 j = _
        rw [r5 0 (by decide)]
      · have em : ¬ 3 + ((old + 1) % 10 + i) % 10 = 3 + old := by omega
        rw [if_neg em]
        obtain ⟨x1, x2, x3, x4, hx⟩ := a6 (i + 1) (by omega)
        have e1 : (old + (i + 1)) % 10 = ((old + 1) % 10 + i) % 10 := by omega
        rw [e1] at hx
        refine ⟨x1, x2, x3, x4, hz_fr hx (fun _ _ => rfl) (fun _ _ _ _ => rfl) (fun j hj => ?_)⟩
        rw [t7 (146 * i + j) (fun q hq => by omega)]
        show R.2.2.1 6 (146 * i + j) = _
        rw [r6 _ (by omega), show 146 * i + j + 146 = 146 * (i + 1) + j by omega]
  · have hlt10 : cnt < 10 := by omega
    have hm10 : ¬ m.1 2 = 10 := by
      rw [a5]
      intro e
      have e' : nI cnt = nI 10 := e
      rw [nI_eq (by omega) (by omega)] at e'
      omega
    obtain ⟨T, t1, t2, t3, t4, t5, t6, t7⟩ := hz_remA m (show cnt ≤ 9 by omega) a5
    rw [if_neg (show ¬ (10 : Int32) ≤ nI cnt from nI_ge (a := cnt) (b := 10) hlt10 (by omega)), ← nI_succ]
    unfold sX7_remember fX7_remember
    simp only [bnd]
    rw [if_neg hm10, t1]
    refine ⟨⟨fun h => absurd h hm10, fun _ => ⟨t2, trivial⟩⟩, ⟨fun q hq => ?_, t4, fun k hk => t5 k hk⟩, ⟨rfl, fun q h1 h2 h3 => ?_, rfl, fun q hq => if_neg (by omega), rfl⟩, cnt + 1, old, by omega, a2, rfl, a4, ?_, fun i hi => ?_⟩
    · show (if q = 2 then _ else T.2.1 q) = _
      rw [if_neg hq, t3]
    · show (if q = 13 then _ else if q = 11 then _ else w.1 q) = _
      rw [if_neg h3, if_neg h1]
    · show T.2.1 2 + 1 = _
      rw [t3, a5, ← nI_succ]
    · show ∃ ny ns nz np, hz_PR (if 3 + (old + i) % 10 = 3 + (old + cnt) % 10 then _ else w.2.2.1 (3 + (old + i) % 10)) (fun j => T.2.2.1 6 (146 * i + j)) ny ns nz np
      by_cases hic : i = cnt
      · rw [if_pos (by rw [hic]), hic]
        exact ⟨ny, ns, nz, np, hz_cp hP (fun j hj => t6 j hj)⟩
      · rw [if_neg (by omega)]
        obtain ⟨x1, x2, x3, x4, hx⟩ := a6 i (by omega)
        exact ⟨x1, x2, x3, x4, hz_fr hx (fun _ _ => rfl) (fun _ _ _ _ => rfl) (fun j hj => t7 _ (fun q hq => by omega))⟩
/-- after a change -/
theorem hz_chg {n : Nat} (hR : hz_R n w m) {m1 m2 : Md} {p1 : Pl} {ny1 ns1 nz1 np1 : Nat} (hm1 : m1 = fX7_remember m) (hc : hz_ch m1 m2) (hP1 : hz_PR p1 (m2.2.1 0) ny1 ns1 nz1 np1) : hz_R n (wP (fX6_beforeChange w) 1 p1) m2 := by
  obtain ⟨ny, ns, nz, np, r, h, ⟨hr, hmo⟩, hK, hH, hI, hE, hO⟩ := hR
  obtain ⟨s, ⟨g1, g2, g3⟩, ⟨b1, b2, b3, b4, b5⟩, hH2⟩ := hz_rmb h.2 hH
  rw [← hm1] at g1 g2 g3 hH2
  have en : m1.2.2 = 0 := by rw [g2]; exact h.1
  obtain ⟨k1, k2, k3⟩ := hc
  rw [en] at k2 k3
  refine ⟨ny1, ns1, nz1, np1, r, ⟨k2, hP1⟩, ⟨hr, ?_⟩, Or.inl b1, ?_, ?_, ?_, ?_⟩
  · show (fX6_beforeChange w).2.2.2.2.1 = lN r ∧ ∀ q, q < 8192 → (lshr ((fX6_beforeChange w).2.2.2.1 q) 20).toInt ≤ (r : Int)
    rw [b5]; exact hmo
  · obtain ⟨cnt, old, a1, a2, a3, a4, a5, a6⟩ := hH2
    refine ⟨cnt, old, a1, a2, a3, a4, by rw [k1]; exact a5, fun i hi => ?_⟩
    obtain ⟨x1, x2, x3, x4, hx⟩ := a6 i hi
    refine ⟨x1, x2, x3, x4, ?_⟩
    show hz_PR (if 3 + (old + i) % 10 = 1 then p1 else (fX6_beforeChange w).2.2.1 (3 + (old + i) % 10)) _ _ _ _ _
    rw [if_neg (by omega), k3 6 (by decide)]
    exact hx
  · obtain ⟨L, a1, a2, a3, a4⟩ := hI
    refine ⟨L, a1, ?_, ?_, fun j hj => ?_⟩
    · show (fX6_beforeChange w).1 0 = _
      rw [b2 0 (by decide) (by decide) (by decide)]; exact a2
    · rw [k1, g1 3 (by decide)]; exact a3
    · show ∃ b, b < 256 ∧ (fX6_beforeChange w).2.1 0 j = nI b ∧ _
      rw [b3, k3 7 (by decide), g3 7 (by decide)]; exact a4 j hj
  · show (fX6_beforeChange w).1 1 = m2.1 9 ∧ (fX6_beforeChange w).1 2 = m2.1 10
    rw [b2 1 (by decide) (by decide) (by decide), b2 2 (by decide) (by decide) (by decide), k1, g1 9 (by decide), g1 10 (by decide)]
    exact hE
  · obtain ⟨C, a1, a2, a3, a4, a5⟩ := hO
    refine ⟨C, a1, ?_, ?_, ?_, fun j hj => ?_⟩
    · show hz_bb C (fX6_beforeChange w).2.2.2.2.2
      rw [b5]; exact a2
    · show (fX6_beforeChange w).1 16 = _
      rw [b2 16 (by decide) (by decide) (by decide)]; exact a3
    · rw [k1, g1 12 (by decide)]; exact a4
    · show ∃ b, b < 128 ∧ (fX6_beforeChange w).2.2.2.2.2.2.2 j = nI b ∧ _
      rw [b5, k3 8 (by decide), g3 8 (by decide)]; exact a5 j hj
/-- the same plant, written anew -/
theorem hz_same {n : Nat} (hR : hz_R n w m) {m2 : Md} (hc : hz_ch m m2) (he : ∀ j, m2.2.1 0 j = m.2.1 0 j) : hz_R n w m2 := by
  obtain ⟨ny, ns, nz, np, r, h, ⟨hr, hmo⟩, hK, hH, hI, hE, hO⟩ := hR
  obtain ⟨k1, k2, k3⟩ := hc
  rw [h.1] at k2 k3
  have e0 : m2.2.1 0 = m.2.1 0 := funext he
  refine ⟨ny, ns, nz, np, r, ⟨k2, by rw [e0]; exact h.2⟩, ⟨hr, hmo⟩, hK, ?_, ?_, ?_, ?_⟩
  · unfold hz_hist
    rw [k1, k3 6 (by decide)]; exact hH
  · unfold hz_inp
    rw [k1, k3 7 (by decide)]; exact hI
  · unfold hz_err
    rw [k1]; exact hE
  · unfold hz_outp
    rw [k1, k3 8 (by decide)]; exact hO
end HZT
