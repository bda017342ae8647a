/-! The plant's reading functions: model and class answer alike, and the model's are safe. -/
section HZA
variable {m : Md} {p : Pl} {ny ns nz np : Nat}
theorem hz_fldi (m : Md) {i k : Nat} (hi : i < 14) (hk : k < 6) : fX7_field m (nI i) (nI k) = m.2.1 m.2.2 (62 + 6 * i + k) ∧ sX7_field m (nI i) (nI k) := by
  have e : fX7_at (nI i) (nI k) = nI (62 + 6 * i + k) := hz_ia3 62 6 k i
  refine ⟨?_, ?_, trivial⟩
  · unfold fX7_field
    rw [e, nI_clamp (by omega)]
  · rw [e]
    exact vp_in_nI (by omega) (by omega)
theorem hz_fs (m : Md) {i : Nat} (hi : i < 14) : sX7_field m (nI i) 0 ∧ sX7_field m (nI i) 1 ∧ sX7_field m (nI i) 2 ∧ sX7_field m (nI i) 3 ∧ sX7_field m (nI i) 4 ∧ sX7_field m (nI i) 5 :=
  ⟨(hz_fldi m hi (k := 0) (by decide)).2, (hz_fldi m hi (k := 1) (by decide)).2, (hz_fldi m hi (k := 2) (by decide)).2, (hz_fldi m hi (k := 3) (by decide)).2, (hz_fldi m hi (k := 4) (by decide)).2, (hz_fldi m hi (k := 5) (by decide)).2⟩
theorem hz_np (hP : hz_PR p (m.2.1 m.2.2) ny ns nz np) : np ≤ 14 := hP.2.1.2.2.2
theorem hz_f (hP : hz_PR p (m.2.1 m.2.2) ny ns nz np) {i : Nat} (hi : i < np) : fX7_field m (nI i) 0 = fX6_at 14 (p.2 8) (nI i) ∧ fX7_field m (nI i) 1 = fX6_at 14 (p.2 9) (nI i) ∧ fX7_field m (nI i) 2 = fX6_at 14 (p.2 10) (nI i) ∧ fX7_field m (nI i) 3 = fX6_at 14 (p.2 11) (nI i) ∧ fX7_field m (nI i) 4 = fX6_at 14 (p.2 12) (nI i) ∧ fX7_field m (nI i) 5 = fX6_at 14 (p.2 13) (nI i) := by
  have h14 : i < 14 := Nat.lt_of_lt_of_le hi (hz_np hP)
  obtain ⟨⟨a0, a1, a2, a3, a4, a5⟩, -⟩ := hP.2.2.2.2.2.2.2.2 i hi
  rw [hz_at _ h14 (by decide), hz_at _ h14 (by decide), hz_at _ h14 (by decide), hz_at _ h14 (by decide), hz_at _ h14 (by decide), hz_at _ h14 (by decide), ← a0, ← a1, ← a2, ← a3, ← a4, ← a5]
  rw [show 63 + 6 * i = 62 + 6 * i + 1 by omega, show 64 + 6 * i = 62 + 6 * i + 2 by omega, show 65 + 6 * i = 62 + 6 * i + 3 by omega, show 66 + 6 * i = 62 + 6 * i + 4 by omega, show 67 + 6 * i = 62 + 6 * i + 5 by omega]
  exact ⟨(hz_fldi m h14 (k := 0) (by decide)).1, (hz_fldi m h14 (k := 1) (by decide)).1, (hz_fldi m h14 (k := 2) (by decide)).1, (hz_fldi m h14 (k := 3) (by decide)).1, (hz_fldi m h14 (k := 4) (by decide)).1, (hz_fldi m h14 (k := 5) (by decide)).1⟩
theorem hz_isIn (hP : hz_PR p (m.2.1 m.2.2) ny ns nz np) {i : Nat} (hi : i < np) (s : Int32) : fX7_isIn m (nI i) s = (if fX6_at 14 (p.2 13) (nI i) = s then 1 else 0) ∧ sX7_isIn m (nI i) s := by
  have h14 : i < 14 := Nat.lt_of_lt_of_le hi (hz_np hP)
  refine ⟨?_, (hz_fs m h14).2.2.2.2.2, fun _ => trivial, fun _ => trivial⟩
  unfold fX7_isIn
  rw [(hz_f hP hi).2.2.2.2.2]
theorem hz_count (hP : hz_PR p (m.2.1 m.2.2) ny ns nz np) : fX7_count m = nI np ∧ p.1 8 = nI np := ⟨hP.2.2.1.2.2.2, hP.1.2.2.2⟩
theorem hz_yarn (hP : hz_PR p (m.2.1 m.2.2) ny ns nz np) {i : Nat} (hi : i < np) : ∃ y, y < ny ∧ ny ≤ 6 ∧ fX6_at 14 (p.2 8) (nI i) = nI y := by
  have h14 : i < 14 := Nat.lt_of_lt_of_le hi (hz_np hP)
  obtain ⟨-, ⟨y, hy, e⟩, -⟩ := hP.2.2.2.2.2.2.2.2 i hi
  exact ⟨y, hy, hP.2.1.1, by rw [hz_at _ h14 (by decide), e]⟩
theorem hz_kind (hP : hz_PR p (m.2.1 m.2.2) ny ns nz np) {i : Nat} (hi : i < np) : ∃ k, k < 3 ∧ fX6_at 14 (p.2 9) (nI i) = nI k := by
  have h14 : i < 14 := Nat.lt_of_lt_of_le hi (hz_np hP)
  obtain ⟨-, -, ⟨k, hk, e⟩, -⟩ := hP.2.2.2.2.2.2.2.2 i hi
  exact ⟨k, hk, by rw [hz_at _ h14 (by decide), e]⟩
theorem hz_state (hP : hz_PR p (m.2.1 m.2.2) ny ns nz np) {i : Nat} (hi : i < np) : ∃ s, s < 4 ∧ fX6_at 14 (p.2 13) (nI i) = nI s := by
  have h14 : i < 14 := Nat.lt_of_lt_of_le hi (hz_np hP)
  obtain ⟨-, -, -, -, -, -, s, hs, e⟩ := hP.2.2.2.2.2.2.2.2 i hi
  exact ⟨s, hs, by rw [hz_at _ h14 (by decide), e]⟩
theorem hz_len (hP : hz_PR p (m.2.1 m.2.2) ny ns nz np) {i : Nat} (hi : i < np) : hz_rg 500 9999 (fX6_at 14 (p.2 10) (nI i)) ∧ hz_rg 500 9999 (fX6_at 14 (p.2 11) (nI i)) ∧ hz_rg 0 255 (fX6_at 14 (p.2 12) (nI i)) := by
  have h14 : i < 14 := Nat.lt_of_lt_of_le hi (hz_np hP)
  obtain ⟨-, -, -, h1, h2, h3, -⟩ := hP.2.2.2.2.2.2.2.2 i hi
  rw [hz_at _ h14 (by decide), hz_at _ h14 (by decide), hz_at _ h14 (by decide)]
  exact ⟨h1, h2, h3⟩
theorem hz_shape (hP : hz_PR p (m.2.1 m.2.2) ny ns nz np) {s : Nat} (hs : s < ns) : fX7_shapeLength m (nI s) = fX6_at 8 (p.2 4) (nI s) ∧ sX7_shapeLength m (nI s) ∧ hz_rg 500 9999 (fX6_at 8 (p.2 4) (nI s)) := by
  have h8 : s < 8 := Nat.lt_of_lt_of_le hs hP.2.1.2.1
  obtain ⟨-, e, hr⟩ := hP.2.2.2.2.2.2.1 s hs
  have e1 : ((28 : Int32) + ((2 : Int32) * nI s)) + 1 = nI (29 + 2 * s) := by
    rw [show 29 + 2 * s = 28 + 2 * s + 1 by omega]
    exact hz_ia3 28 2 1 s
  rw [hz_at _ h8 (by decide)]
  refine ⟨?_, ⟨?_, trivial⟩, hr⟩
  · unfold fX7_shapeLength
    rw [e1, nI_clamp (by omega), e]
  · rw [e1]
    exact vp_in_nI (by omega) (by omega)
theorem hz_limit (hP : hz_PR p (m.2.1 m.2.2) ny ns nz np) {i : Nat} (hi : i < np) : fX7_limitOf m (nI i) = fX5_stretchOf p (nI i) ∧ sX7_limitOf m (nI i) := by
  have h14 : i < 14 := Nat.lt_of_lt_of_le hi (hz_np hP)
  obtain ⟨y, hy, hy6, ey⟩ := hz_yarn hP hi
  obtain ⟨k, hk, ek⟩ := hz_kind hP hi
  obtain ⟨-, e1, -⟩ := hP.2.2.2.2.2.1 y hy
  obtain ⟨f0, f1, -⟩ := hz_f hP hi
  have e2 : ((10 : Int32) + ((3 : Int32) * nI y)) + 1 = nI (11 + 3 * y) := by
    rw [show 11 + 3 * y = 10 + 3 * y + 1 by omega]
    exact hz_ia3 10 3 1 y
  have e3 : (m.2.1 (m.2.2)) (((10 : Int32) + ((3 : Int32) * (fX7_field m (nI i) 0))) + 1).toNatClampNeg = fX6_at 6 (p.2 1) (fX6_at 14 (p.2 8) (nI i)) := by
    rw [f0, ey, e2, nI_clamp (by omega), hz_at _ (by omega) (by decide), e1]
  refine ⟨?_, (hz_fs m h14).1, ?_, (hz_fs m h14).2.1, fun _ => trivial, fun _ => ⟨fun _ => trivial, fun _ => trivial⟩⟩
  · unfold fX7_limitOf fX5_stretchOf
    rw [e3, f1, ek]
    match k, hk with
    | 0, _ => rfl
    | 1, _ => rfl
    | 2, _ => rfl
  · rw [f0, ey, e2]
    exact vp_in_nI (by omega) (by omega)
theorem hz_longest (hP : hz_PR p (m.2.1 m.2.2) ny ns nz np) {i : Nat} (hi : i < np) : fX7_longestOf m (nI i) = fX5_reachOf p (nI i) ∧ sX7_longestOf m (nI i) := by
  have h14 : i < 14 := Nat.lt_of_lt_of_le hi (hz_np hP)
  refine ⟨?_, (hz_fs m h14).2.2.2.1, (hz_limit hP hi).2, trivial⟩
  unfold fX7_longestOf fX5_reachOf
  rw [(hz_f hP hi).2.2.2.1, (hz_limit hP hi).1]
/-- the length after boarding, where it does not tear -/
def hz_on (p : Pl) (x s : Int32) : Int32 := (fX6_at 14 (p.2 11) x) + ((((fX6_at 8 (p.2 4) s) - (fX6_at 14 (p.2 11) x)) * (p.1 5)) / 100)
theorem hz_onR {t l g : Int32} (ht : hz_rg 500 9999 t) (hl : hz_rg 500 9999 l) (hg : hz_rg 0 100 g) : hz_rg 500 9999 (l + ((t - l) * g) / 100) := by
  obtain ⟨t1, t2⟩ := ht
  obtain ⟨l1, l2⟩ := hl
  obtain ⟨g1, g2⟩ := hg
  have es : (t - l).toInt = t.toInt - l.toInt := hz_sub (by omega) (by omega)
  have hm1 : -949900 ≤ (t.toInt - l.toInt) * g.toInt ∧ (t.toInt - l.toInt) * g.toInt ≤ 949900 := by
    obtain ⟨gn, eg⟩ : ∃ gn : Nat, g.toInt = gn := ⟨g.toInt.toNat, by omega⟩
    rw [eg] at g2 ⊢
    have hg9 : gn ≤ 100 := by omega
    constructor
    · have := Int.mul_le_mul_of_nonneg_right (show (-9499 : Int) ≤ t.toInt - l.toInt by omega) (show (0 : Int) ≤ gn by omega)
      omega
    · have := Int.mul_le_mul_of_nonneg_right (show t.toInt - l.toInt ≤ (9499 : Int) by omega) (show (0 : Int) ≤ gn by omega)
      omega
  have em : ((t - l) * g).toInt = (t.toInt - l.toInt) * g.toInt := by rw [hz_mul (by rw [es]; omega) (by rw [es]; omega), es]
  have ed : (((t - l) * g) / 100).toInt = ((t.toInt - l.toInt) * g.toInt).tdiv 100 := by
    rw [Int32.toInt_div_of_ne_right _ _ (by decide), em]
    rfl
  have hb : (0 ≤ t.toInt - l.toInt → 0 ≤ ((t.toInt - l.toInt) * g.toInt).tdiv 100 ∧ ((t.toInt - l.toInt) * g.toInt).tdiv 100 ≤ t.toInt - l.toInt) ∧ (t.toInt - l.toInt ≤ 0 → t.toInt - l.toInt ≤ ((t.toInt - l.toInt) * g.toInt).tdiv 100 ∧ ((t.toInt - l.toInt) * g.toInt).tdiv 100 ≤ 0) := by
    generalize t.toInt - l.toInt = d at *
    generalize g.toInt = z at *
    refine ⟨fun h0 => ?_, fun h0 => ?_⟩
    · have q1 : 0 ≤ d * z := Int.mul_nonneg h0 g1
      have q2 : d * z ≤ d * 100 := Int.mul_le_mul_of_nonneg_left g2 h0
      rw [Int.tdiv_eq_ediv_of_nonneg q1]
      omega
    · have q1 : 0 ≤ (-d) * z := Int.mul_nonneg (by omega) g1
      have q2 : (-d) * z ≤ (-d) * 100 := Int.mul_le_mul_of_nonneg_left g2 (by omega)
      have q3 : d * z = -((-d) * z) := by rw [Int.neg_mul, Int.neg_neg]
      rw [q3, Int.neg_tdiv, Int.tdiv_eq_ediv_of_nonneg q1]
      omega
  unfold hz_rg
  rw [i32_add (by rw [ed]; omega) (by rw [ed]; omega), ed]
  omega
theorem hz_tear (hP : hz_PR p (m.2.1 m.2.2) ny ns nz np) {i s : Nat} (hi : i < np) (hs : s < ns) : fX7_wouldTear m (nI i) (nI s) = (if fX6_at 8 (p.2 4) (nI s) ≤ fX5_reachOf p (nI i) then 0 else 1) ∧ sX7_wouldTear m (nI i) (nI s) := by
  refine ⟨?_, (hz_shape hP hs).2.1, (hz_longest hP hi).2, fun _ => trivial, fun _ => trivial⟩
  unfold fX7_wouldTear
  rw [(hz_shape hP hs).1, (hz_longest hP hi).1]
theorem hz_lon (hP : hz_PR p (m.2.1 m.2.2) ny ns nz np) {i s : Nat} (hi : i < np) (hs : s < ns) : fX7_lengthOn m (nI i) (nI s) = hz_on p (nI i) (nI s) ∧ sX7_lengthOn m (nI i) (nI s) ∧ hz_rg 500 9999 (hz_on p (nI i) (nI s)) := by
  have h14 : i < 14 := Nat.lt_of_lt_of_le hi (hz_np hP)
  refine ⟨?_, ⟨(hz_fs m h14).2.2.2.1, (hz_shape hP hs).2.1, trivial⟩, hz_onR (hz_shape hP hs).2.2 (hz_len hP hi).2.1 hP.2.2.2.2.1.2.2.1⟩
  unfold fX7_lengthOn hz_on
  rw [(hz_f hP hi).2.2.2.1, (hz_shape hP hs).1, show (m.2.1 m.2.2) 2 = p.1 5 from hP.2.2.2.1.2.2.1]
theorem hz_lenOn (hP : hz_PR p (m.2.1 m.2.2) ny ns nz np) {i s : Nat} (hi : i < np) (hs : s < ns) : fX5_lengthOn p (nI i) (nI s) = (if fX7_wouldTear m (nI i) (nI s) = 0 then fX7_lengthOn m (nI i) (nI s) else (-1)) ∧ (fX5_lengthOn p (nI i) (nI s) = (-1) ↔ ¬ fX7_wouldTear m (nI i) (nI s) = 0) := by
  have e := (hz_tear hP hi hs).1
  have e2 := hz_lon hP hi hs
  have hne : ¬ hz_on p (nI i) (nI s) = -1 := by
    intro h
    have := e2.2.2
    rw [h] at this
    exact absurd this.1 (by decide)
  rw [e, e2.1]
  have ex : fX5_lengthOn p (nI i) (nI s) = (if fX6_at 8 (p.2 4) (nI s) ≤ fX5_reachOf p (nI i) then hz_on p (nI i) (nI s) else -1) := rfl
  rw [ex]
  by_cases h : fX6_at 8 (p.2 4) (nI s) ≤ fX5_reachOf p (nI i)
  · rw [if_pos h, if_pos h, if_pos rfl]
    exact ⟨rfl, fun h => absurd h hne, fun h => absurd rfl h⟩
  · rw [if_neg h, if_neg h, if_neg (by decide)]
    exact ⟨rfl, fun _ => by decide, fun _ => rfl⟩
theorem hz_gap (hP : hz_PR p (m.2.1 m.2.2) ny ns nz np) {i j : Nat} (hi : i < np) (hj : j < np) : fX7_gapOf m (nI i) (nI j) = fX5_gapOf p (nI i) (nI j) ∧ sX7_gapOf m (nI i) (nI j) := by
  have h14 : i < 14 := Nat.lt_of_lt_of_le hi (hz_np hP)
  have g14 : j < 14 := Nat.lt_of_lt_of_le hj (hz_np hP)
  refine ⟨?_, (hz_fs m h14).2.2.2.1, (hz_fs m g14).2.2.2.1, (hz_fs m h14).2.2.2.2.1, (hz_fs m g14).2.2.2.2.1, trivial⟩
  unfold fX7_gapOf fX5_gapOf
  rw [(hz_f hP hi).2.2.2.1, (hz_f hP hj).2.2.2.1, (hz_f hP hi).2.2.2.2.1, (hz_f hP hj).2.2.2.2.1]
theorem hz_iab {x : Int32} (h : ¬ x.toInt = -2147483648) : (iab x).toInt = if 0 ≤ x.toInt then x.toInt else -x.toInt := by
  have hx := i32_rng x
  unfold iab
  by_cases h0 : (0 : Int32) ≤ x
  · rw [if_pos h0]
    rw [hz_le, show (0 : Int32).toInt = 0 from rfl] at h0
    rw [if_pos h0]
  · rw [if_neg h0]
    have z : (0 : Int32).toInt = 0 := rfl
    rw [hz_le, z] at h0
    rw [if_neg h0, hz_sub (by rw [z]; omega) (by rw [z]; omega), z]
    omega
theorem hz_gapR (hP : hz_PR p (m.2.1 m.2.2) ny ns nz np) {i j : Nat} (hi : i < np) (hj : j < np) : hz_rg 0 12049 (fX5_gapOf p (nI i) (nI j)) := by
  obtain ⟨-, ⟨a1, a2⟩, ⟨a3, a4⟩⟩ := hz_len hP hi
  obtain ⟨-, ⟨b1, b2⟩, ⟨b3, b4⟩⟩ := hz_len hP hj
  unfold fX5_gapOf hz_rg
  generalize fX6_at 14 (p.2 11) (nI i) = x1 at *
  generalize fX6_at 14 (p.2 11) (nI j) = x2 at *
  generalize fX6_at 14 (p.2 12) (nI i) = y1 at *
  generalize fX6_at 14 (p.2 12) (nI j) = y2 at *
  have e1 : (x1 - x2).toInt = x1.toInt - x2.toInt := hz_sub (by omega) (by omega)
  have e2 : (y1 - y2).toInt = y1.toInt - y2.toInt := hz_sub (by omega) (by omega)
  have g1 := hz_iab (x := x1 - x2) (by omega)
  have g2 := hz_iab (x := y1 - y2) (by omega)
  rw [e1] at g1
  rw [e2] at g2
  have r1 : 0 ≤ (iab (x1 - x2)).toInt ∧ (iab (x1 - x2)).toInt ≤ 9499 := by rw [g1]; split <;> omega
  have r2 : 0 ≤ (iab (y1 - y2)).toInt ∧ (iab (y1 - y2)).toInt ≤ 255 := by rw [g2]; split <;> omega
  have z : (10 : Int32).toInt = 10 := rfl
  have e3 : (10 * iab (y1 - y2)).toInt = 10 * (iab (y1 - y2)).toInt := by rw [hz_mul (by rw [z]; omega) (by rw [z]; omega), z]
  rw [i32_add (by rw [e3]; omega) (by rw [e3]; omega), e3]
  omega
theorem hz_match (hP : hz_PR p (m.2.1 m.2.2) ny ns nz np) {i j : Nat} (hi : i < np) (hj : j < np) : fX7_areMatch m (nI i) (nI j) = fX5_fits p (nI i) (nI j) ∧ sX7_areMatch m (nI i) (nI j) := by
  have h14 : i < 14 := Nat.lt_of_lt_of_le hi (hz_np hP)
  have g14 : j < 14 := Nat.lt_of_lt_of_le hj (hz_np hP)
  obtain ⟨s0, s1, s2, s3, s4, s5⟩ := hz_fs m h14
  obtain ⟨r0, r1, r2, r3, r4, r5⟩ := hz_fs m g14
  refine ⟨?_, fun _ => trivial, fun _ => ⟨(hz_isIn hP hi 1).2, fun _ => trivial, fun _ => ⟨(hz_isIn hP hj 1).2, fun _ => trivial, fun _ => ⟨s0, r0, fun _ => ⟨s1, r1, fun _ => ⟨s3, r3, fun _ => trivial, fun _ => ⟨s4, r4, fun _ => trivial, fun _ => trivial⟩⟩, fun _ => trivial⟩, fun _ => trivial⟩⟩⟩⟩
  obtain ⟨f0, f1, f2, f3, f4, f5⟩ := hz_f hP hi
  obtain ⟨e0, e1, e2, e3, e4, e5⟩ := hz_f hP hj
  unfold fX7_areMatch fX5_fits
  rw [(hz_isIn hP hi 1).1, (hz_isIn hP hj 1).1, f0, f1, f3, f4, e0, e1, e3, e4, show (m.2.1 m.2.2) 0 = p.1 3 from hP.2.2.2.1.1, show (m.2.1 m.2.2) 1 = p.1 4 from hP.2.2.2.1.2.1]
  by_cases c0 : nI i = nI j
  · rw [if_pos c0, if_pos c0]
  · rw [if_neg c0, if_neg c0]
    by_cases c1 : fX6_at 14 (p.2 13) (nI i) = 1
    · rw [if_pos c1, if_pos c1, if_neg (by decide)]
      by_cases c2 : fX6_at 14 (p.2 13) (nI j) = 1
      · rw [if_pos c2, if_pos c2, if_neg (by decide)]
      · rw [if_neg c2, if_neg c2, if_pos rfl]
    · rw [if_neg c1, if_neg c1, if_pos rfl]
theorem hz_fits01 (p : Pl) (x y : Int32) : fX5_fits p x y = 0 ∨ fX5_fits p x y = 1 := by
  unfold fX5_fits
  repeat' split
  all_goals first | exact Or.inl rfl | exact Or.inr rfl
theorem hz_c {i n : Nat} (h : i ≤ n) (hn : n ≤ 1000000) (c : ¬ nI n ≤ nI i) : i < n :=
  Nat.lt_of_not_le fun hc => c (nI_le hc (by omega))
theorem hz_or0 (x : Int32) : x ||| 0 = x := by
  apply b_ext
  intro i hi
  rw [b_or, b_0, Bool.or_false]
theorem hz_matchesL (hP : hz_PR p (m.2.1 m.2.2) ny ns nz np) {a : Nat} (ha : a < np) : ∀ (fu i : Nat) (hi : i ≤ np) (s : Int32), fX7_matchesOf_4 (nI a) m fu (nI i) s = fX5_matchSet_4 p (nI a) fu (nI i) s ∧ sX7_matchesOf_4 (nI a) m fu (nI i) s := by
  intro fu
  induction fu with
  | zero => intro i hi s; exact ⟨rfl, trivial⟩
  | succ fu ih =>
    intro i hi s
    have hn := hz_np hP
    obtain ⟨c1, c2⟩ := hz_count hP
    simp only [fX7_matchesOf_4, fX5_matchSet_4, sX7_matchesOf_4, c1, c2]
    by_cases h : nI np ≤ nI i
    · rw [if_pos h, if_pos h]
      exact ⟨rfl, fun _ => trivial, fun h2 => absurd h h2⟩
    · have hi : i < np := hz_c hi (by omega) h
      rw [if_neg h, if_neg h, (hz_match hP ha hi).1, hz_or0, ← nI_succ]
      refine ⟨?_, fun h2 => absurd h2 h, fun _ => ⟨(hz_match hP ha hi).2, fun _ => (ih (i + 1) hi _).2, fun _ => (ih (i + 1) hi _).2⟩⟩
      by_cases h3 : fX5_fits p (nI a) (nI i) = 0
      · rw [if_pos h3, if_pos h3]; exact (ih (i + 1) hi _).1
      · rw [if_neg h3, if_neg h3]; exact (ih (i + 1) hi _).1
theorem hz_matches (hP : hz_PR p (m.2.1 m.2.2) ny ns nz np) {a : Nat} (ha : a < np) : fX7_matchesOf m (nI a) = fX5_matchSet p (nI a) ∧ sX7_matchesOf m (nI a) := by
  obtain ⟨c1, c2⟩ := hz_count hP
  have h := hz_matchesL hP ha (fuU (nI np) 0) 0 (Nat.zero_le _) 0
  rw [nI_0] at h
  refine ⟨?_, ?_, trivial⟩
  · unfold fX7_matchesOf fX5_matchSet bnd
    rw [c1, c2, h.1]
  · rw [c1]; exact h.2
theorem hz_sizeL (hP : hz_PR p (m.2.1 m.2.2) ny ns nz np) (a b : Int32) : ∀ (fu i : Nat) (hi : i ≤ nz), fX7_sizeFor_2 a b m fu (nI i) = fX0_sizeHolding_2 p a b fu (nI i) ∧ sX7_sizeFor_2 a b m fu (nI i) := by
  intro fu
  induction fu with
  | zero => intro i hi; exact ⟨rfl, trivial⟩
  | succ fu ih =>
    intro i hi
    have hn : nz ≤ 6 := hP.2.1.2.2.1
    have c1 : (m.2.1 m.2.2) 7 = nI nz := hP.2.2.1.2.2.1
    have c2 : p.1 2 = nI nz := hP.1.2.2.1
    simp only [fX7_sizeFor_2, fX0_sizeHolding_2, sX7_sizeFor_2, c1, c2]
    by_cases h : nI nz ≤ nI i
    · rw [if_pos h, if_pos h]
      exact ⟨rfl, fun _ => trivial, fun h2 => absurd h h2⟩
    · have hi : i < nz := hz_c hi (by omega) h
      obtain ⟨-, e1, e2, -⟩ := hP.2.2.2.2.2.2.2.1 i hi
      have g1 : ((44 : Int32) + ((3 : Int32) * nI i)) + 1 = nI (45 + 3 * i) := by
        rw [show 45 + 3 * i = 44 + 3 * i + 1 by omega]
        exact hz_ia3 44 3 1 i
      have g2 : ((44 : Int32) + ((3 : Int32) * nI i)) + 2 = nI (46 + 3 * i) := by
        rw [show 46 + 3 * i = 44 + 3 * i + 2 by omega]
        exact hz_ia3 44 3 2 i
      rw [if_neg h, if_neg h, g1, g2, nI_clamp (by omega), nI_clamp (by omega), e1, e2, hz_at _ (show i < 6 by omega) (by decide), hz_at _ (show i < 6 by omega) (by decide), ← nI_succ]
      refine ⟨?_, fun h2 => absurd h2 h, fun _ => ⟨vp_in_nI (by omega) (by omega), fun _ => (ih (i + 1) hi).2, fun _ => ⟨vp_in_nI (by omega) (by omega), fun _ => (ih (i + 1) hi).2, fun _ => trivial⟩⟩⟩
      by_cases h3 : a < p.2 6 i
      · rw [if_pos h3, if_pos h3]; exact (ih (i + 1) hi).1
      · rw [if_neg h3, if_neg h3]
        by_cases h4 : p.2 7 i < b
        · rw [if_pos h4, if_pos h4]; exact (ih (i + 1) hi).1
        · rw [if_neg h4, if_neg h4]
theorem hz_size (hP : hz_PR p (m.2.1 m.2.2) ny ns nz np) (a b : Int32) : fX7_sizeFor m a b = fX0_sizeHolding p a b ∧ sX7_sizeFor m a b := by
  have h := hz_sizeL hP a b (fuU (nI nz) 0) 0 (Nat.zero_le _)
  rw [nI_0] at h
  refine ⟨?_, ?_⟩
  · unfold fX7_sizeFor fX0_sizeHolding
    rw [show (m.2.1 m.2.2) 7 = nI nz from hP.2.2.1.2.2.1, show p.1 2 = nI nz from hP.1.2.2.1, h.1]
  · unfold sX7_sizeFor
    rw [show (m.2.1 m.2.2) 7 = nI nz from hP.2.2.1.2.2.1]; exact h.2
theorem hz_sizeP (hP : hz_PR p (m.2.1 m.2.2) ny ns nz np) {i : Nat} (hi : i < np) : fX7_sizeOfPiece m (nI i) = fX5_sizeOfPiece p (nI i) ∧ sX7_sizeOfPiece m (nI i) := by
  have h14 : i < 14 := Nat.lt_of_lt_of_le hi (hz_np hP)
  have f3 := (hz_f hP hi).2.2.2.1
  refine ⟨?_, (hz_fs m h14).2.2.2.1, (hz_fs m h14).2.2.2.1, ?_, trivial⟩
  · unfold fX7_sizeOfPiece fX5_sizeOfPiece
    rw [f3, (hz_size hP _ _).1]
  · exact (hz_size hP _ _).2
/-- a size, or none -/
theorem hz_sizeV (hP : hz_PR p (m.2.1 m.2.2) ny ns nz np) (a b : Int32) : fX0_sizeHolding p a b = -1 ∨ ∃ s, s < nz ∧ fX0_sizeHolding p a b = nI s := by
  have hn : nz ≤ 6 := hP.2.1.2.2.1
  have c2 : p.1 2 = nI nz := hP.1.2.2.1
  have key : ∀ (fu i : Nat) (hi : i ≤ nz) (hf : nz < fu + i), fX0_sizeHolding_2 p a b fu (nI i) = -1 ∨ ∃ s, s < nz ∧ fX0_sizeHolding_2 p a b fu (nI i) = nI s := by
    intro fu
    induction fu with
    | zero => intro i hi hf; omega
    | succ fu ih =>
      intro i hi hf
      simp only [fX0_sizeHolding_2, c2]
      by_cases h : nI nz ≤ nI i
      · rw [if_pos h]; exact Or.inl rfl
      · have hi : i < nz := hz_c hi (by omega) h
        rw [if_neg h, ← nI_succ]
        have r := ih (i + 1) hi (by omega)
        by_cases h3 : a < fX6_at 6 (p.2 6) (nI i)
        · rw [if_pos h3]; exact r
        · rw [if_neg h3]
          by_cases h4 : fX6_at 6 (p.2 7) (nI i) < b
          · rw [if_pos h4]; exact r
          · rw [if_neg h4]; exact Or.inr ⟨i, hi, rfl⟩
  unfold fX0_sizeHolding
  rw [c2]
  have e : fuU (nI nz) 0 = nz + 1 := by
    unfold fuU
    rw [nI_toInt (by omega), show (0 : Int32).toInt = 0 from rfl]
    omega
  rw [e]
  exact key (nz + 1) 0 (Nat.zero_le _) (by omega)
theorem hz_before (hP : hz_PR p (m.2.1 m.2.2) ny ns nz np) {i j : Nat} (hi : i < np) (hj : j < np) : sX7_isBefore m (nI i) (nI j) := by
  have h14 : i < 14 := Nat.lt_of_lt_of_le hi (hz_np hP)
  have g14 : j < 14 := Nat.lt_of_lt_of_le hj (hz_np hP)
  exact ⟨(hz_fs m h14).2.2.2.1, (hz_fs m g14).2.2.2.1, (hz_fs m h14).2.2.2.2.1, (hz_fs m g14).2.2.2.2.1, fun _ => ⟨fun _ => ⟨fun _ => trivial, fun _ => trivial⟩, fun _ => ⟨fun _ => trivial, fun _ => trivial⟩⟩, fun _ => ⟨fun _ => trivial, fun _ => trivial⟩⟩
theorem hz_rankL (hP : hz_PR p (m.2.1 m.2.2) ny ns nz np) {a : Nat} (ha : a < np) (q : Int32) : ∀ (fu i : Nat) (hi : i ≤ np) (s : Int32), fX7_sorted_22 q (nI a) m fu (nI i) s = fX5_rankOf_4 p (nI a) fu (nI i) s ∧ sX7_sorted_22 q (nI a) m fu (nI i) s := by
  intro fu
  induction fu with
  | zero => intro i hi s; exact ⟨rfl, trivial⟩
  | succ fu ih =>
    intro i hi s
    have hn := hz_np hP
    obtain ⟨c1, c2⟩ := hz_count hP
    simp only [fX7_sorted_22, fX5_rankOf_4, sX7_sorted_22, c1, c2]
    by_cases h : nI np ≤ nI i
    · rw [if_pos h, if_pos h]
      exact ⟨rfl, fun _ => trivial, fun h2 => absurd h h2⟩
    · have hi : i < np := hz_c hi (by omega) h
      have e0 : s + 0 = s := by rw [hz_inj, i32_add (by have := i32_rng s; have z : (0 : Int32).toInt = 0 := rfl; omega) (by have := i32_rng s; have z : (0 : Int32).toInt = 0 := rfl; omega), show (0 : Int32).toInt = 0 from rfl, Int.add_zero]
      have e1 : (0 : Int32) ≤ nI i - nI a ↔ nI a ≤ nI i := by
        rw [hz_le, hz_le, hz_sub (by rw [nI_toInt (by omega), nI_toInt (by omega)]; omega) (by rw [nI_toInt (by omega), nI_toInt (by omega)]; omega), show (0 : Int32).toInt = 0 from rfl]
        omega
      obtain ⟨-, -, -, f3, f4, -⟩ := hz_f hP hi
      obtain ⟨-, -, -, g3, g4, -⟩ := hz_f hP ha
      have r := ih (i + 1) hi
      rw [if_neg h, if_neg h, e0, ← nI_succ]
      refine ⟨?_, fun h2 => absurd h2 h, fun _ => ⟨hz_before hP hi ha, fun _ => (r _).2, fun _ => (r _).2⟩⟩
      unfold fX7_isBefore
      rw [f3, f4, g3, g4]
      by_cases h3 : fX6_at 14 (p.2 11) (nI i) - fX6_at 14 (p.2 11) (nI a) = 0
      · rw [if_pos h3, if_pos h3]
        by_cases h4 : fX6_at 14 (p.2 12) (nI i) - fX6_at 14 (p.2 12) (nI a) = 0
        · rw [if_pos h4, if_pos h4]
          by_cases h5 : nI a ≤ nI i
          · rw [if_pos h5, if_pos (e1.mpr h5), if_pos rfl]; exact (r _).1
          · rw [if_neg h5, if_neg (fun h => h5 (e1.mp h)), if_neg (by decide)]; exact (r _).1
        · rw [if_neg h4, if_neg h4]
          by_cases h5 : 0 ≤ fX6_at 14 (p.2 12) (nI i) - fX6_at 14 (p.2 12) (nI a)
          · rw [if_pos h5, if_pos h5, if_pos rfl]; exact (r _).1
          · rw [if_neg h5, if_neg h5, if_neg (by decide)]; exact (r _).1
      · rw [if_neg h3, if_neg h3]
        by_cases h5 : 0 ≤ fX6_at 14 (p.2 11) (nI i) - fX6_at 14 (p.2 11) (nI a)
        · rw [if_pos h5, if_pos h5, if_pos rfl]; exact (r _).1
        · rw [if_neg h5, if_neg h5, if_neg (by decide)]; exact (r _).1
theorem hz_sortL (hP : hz_PR p (m.2.1 m.2.2) ny ns nz np) {w : Wd} (hw : w.2.2.1 1 = p) (q : Int32) : ∀ (fu i : Nat) (hi : i ≤ np), fX7_sorted_9 q m fu (nI i) = fX6_sorted_9 q w fu (nI i) ∧ sX7_sorted_9 q m fu (nI i) := by
  intro fu
  induction fu with
  | zero => intro i hi; exact ⟨rfl, trivial⟩
  | succ fu ih =>
    intro i hi
    have hn := hz_np hP
    obtain ⟨c1, c2⟩ := hz_count hP
    simp only [fX7_sorted_9, fX6_sorted_9, sX7_sorted_9, c1, hw, c2]
    by_cases h : nI np ≤ nI i
    · rw [if_pos h, if_pos h]
      exact ⟨rfl, fun _ => trivial, fun h2 => absurd h h2⟩
    · have hi : i < np := hz_c hi (by omega) h
      have r := ih (i + 1) hi
      have e := hz_rankL hP hi q (fuU (nI np) 0) 0 (Nat.zero_le _) 0
      rw [nI_0] at e
      have e2 : fX5_rankOf p (nI i) = (fX5_rankOf_4 p (nI i) (fuU (nI np) 0) 0 0).2 := by unfold fX5_rankOf; rw [c2]
      rw [if_neg h, if_neg h, ← nI_succ, e2]
      simp only [bnd]
      rw [e.1]
      refine ⟨?_, fun h2 => absurd h2 h, fun _ => ⟨e.2, fun _ => trivial, fun _ => r.2⟩⟩
      by_cases h3 : (fX5_rankOf_4 p (nI i) (fuU (nI np) 0) 0 0).2 = q
      · rw [if_pos h3, if_pos h3]
      · rw [if_neg h3, if_neg h3]; exact r.1
end HZA
