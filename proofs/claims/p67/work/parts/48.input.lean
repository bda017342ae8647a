/-! Plain answers; the text that is given. -/
section HZZ
variable {w : Wd} {m : Md}
theorem hp_plain {n : Nat} (hR : hz_R n w m) : fX6_errorCode w = fX7_errorCode m ∧ fX6_errorPosition w = fX7_errorPosition m ∧ fX6_yarnCount w = fX7_yarnCount m ∧ fX6_shapeCount w = fX7_shapeCount m ∧ fX6_sizeCount w = fX7_sizeCount m ∧ fX6_pieceCount w = fX7_pieceCount m ∧ fX6_days w = fX7_days m ∧ fX6_lengthTolerance w = fX7_lengthTolerance m ∧ fX6_shadeTolerance w = fX7_shadeTolerance m ∧ fX6_steam w = fX7_steam m := by
  obtain ⟨ny, ns, nz, np, r, ⟨-, ⟨a1, a2, a3, a4⟩, -, ⟨b1, b2, b3, b4⟩, ⟨c1, c2, c3, c4, c5⟩, -⟩, -, -, -, -, ⟨e1, e2⟩, -⟩ := hR
  exact ⟨e1, e2, a1.trans b1.symm, a2.trans b2.symm, a3.trans b3.symm, a4.trans b4.symm, c5.symm, c1.symm, c2.symm, c3.symm⟩
theorem hz_by (z : Int32) {s : Nat} (hs : s ≤ 24) : ∃ b, b < 256 ∧ (iushr z (nI s)) &&& 255 = nI b ∧ ((z >>> (nI s &&& 31)).toInt8.toInt32).toInt8.toInt32 = (nI b).toInt8.toInt32 := by
  have hk : ∀ i, bt (iushr z (nI s) &&& 255) i = (bt z (s + i) && decide (i < 8)) := fun i => by
    unfold iushr
    rw [b_and, b_255, b_ushr s (by omega)]
  generalize iushr z (nI s) &&& 255 = y at hk
  have hb : y = nI y.toBitVec.toNat := by
    apply Int32.toBitVec_inj.1
    show y.toBitVec = BitVec.ofNat 32 y.toBitVec.toNat
    simp
  refine ⟨y.toBitVec.toNat, ?_, hb, ?_⟩
  · have h1 : y.toBitVec.toNat < 2 ^ 8 := Nat.lt_pow_two_of_testBit _ (fun j hj => by
      have := hk j
      rw [show decide (j < 8) = false from decide_eq_false (by omega), Bool.and_false] at this
      exact this)
    exact h1
  · rw [Int8.toInt8_toInt32, ← hb]
    congr 1
    apply Int8.toBitVec_inj.1
    show (z >>> (nI s &&& 31)).toBitVec.signExtend 8 = y.toBitVec.signExtend 8
    apply BitVec.eq_of_getLsbD_eq
    intro i hi
    rw [BitVec.getLsbD_signExtend, BitVec.getLsbD_signExtend, if_pos (show i < 32 by omega), if_pos (show i < 32 by omega)]
    have h1 := b_sshr s (by omega) z (show i < 32 by omega)
    rw [if_pos (show s + i < 32 by omega)] at h1
    have h2 := hk i
    rw [decide_eq_true hi, Bool.and_true, ← h1] at h2
    have h3 : (z >>> (nI s &&& 31)).toBitVec.getLsbD i = y.toBitVec.getLsbD i := h2.symm
    rw [h3]
def hz_wi (w w1 : Wd) : Prop := (∀ q, ¬ q = 0 → w1.1 q = w.1 q) ∧ (∀ q, ¬ q = 0 → w1.2.1 q = w.2.1 q) ∧ w1.2.2 = w.2.2
def hz_mi (m m1 : Md) : Prop := (∀ q, ¬ q = 3 → m1.1 q = m.1 q) ∧ (∀ q, ¬ q = 7 → m1.2.1 q = m.2.1 q) ∧ m1.2.2 = m.2.2
theorem hz_wiT {a b c : Wd} (h : hz_wi a b) (g : hz_wi b c) : hz_wi a c := ⟨fun q k => (g.1 q k).trans (h.1 q k), fun q k => (g.2.1 q k).trans (h.2.1 q k), g.2.2.trans h.2.2⟩
theorem hz_miT {a b c : Md} (h : hz_mi a b) (g : hz_mi b c) : hz_mi a c := ⟨fun q k => (g.1 q k).trans (h.1 q k), fun q k => (g.2.1 q k).trans (h.2.1 q k), g.2.2.trans h.2.2⟩
def hz_iL (L : Nat) (w : Wd) (m : Md) : Prop := L ≤ 1200 ∧ w.1 0 = nI L ∧ m.1 3 = nI L ∧ ∀ j, j < L → ∃ b, b < 256 ∧ w.2.1 0 j = nI b ∧ m.2.1 7 j = (nI b).toInt8.toInt32
theorem hz_Ri {n : Nat} {w1 : Wd} {m1 : Md} (hR : hz_R n w m) (hw : hz_wi w w1) (hm : hz_mi m m1) {L : Nat} (hL : hz_iL L w1 m1) : hz_R n w1 m1 := by
  obtain ⟨ny, ns, nz, np, r, ⟨h0, hP⟩, ⟨hr, hmo⟩, hK, ⟨cnt, old, o1, o2, o3, o4, o5, o6⟩, hI, ⟨e1, e2⟩, ⟨C, c1, c2, c3, c4, c5⟩⟩ := hR
  obtain ⟨w1a, w1b, w1c⟩ := hw
  obtain ⟨m1a, m1b, m1c⟩ := hm
  refine ⟨ny, ns, nz, np, r, ⟨by rw [m1c]; exact h0, by rw [w1c, m1b 0 (by decide)]; exact hP⟩, ⟨hr, ?_⟩, ?_, ⟨cnt, old, o1, o2, by rw [w1a 11 (by decide)]; exact o3, by rw [w1a 12 (by decide)]; exact o4, by rw [m1a 2 (by decide)]; exact o5, by rw [w1c, m1b 6 (by decide)]; exact o6⟩, ⟨L, hL⟩, ⟨by rw [w1a 1 (by decide), m1a 9 (by decide)]; exact e1, by rw [w1a 2 (by decide), m1a 10 (by decide)]; exact e2⟩, ⟨C, c1, by rw [w1c]; exact c2, by rw [w1a 16 (by decide)]; exact c3, by rw [m1a 12 (by decide)]; exact c4, by rw [w1c, m1b 8 (by decide)]; exact c5⟩⟩
  · unfold hz_mo
    rw [w1c]; exact hmo
  · unfold hz_RK hz_kn
    rw [w1a 13 (by decide), w1a 14 (by decide), w1a 15 (by decide), w1b 3 (by decide), w1c]
    exact hK
theorem hz_a4n (z : Int32) (fu : Nat) {x : Int32} (y : Md) (hx : x < 0) : fX7_appendFour_3 z (fu + 1) x y = (x, y) := if_pos hx
theorem hz_a6n (z : Int32) (fu : Nat) {x : Int32} (y : Wd) (hx : x < 0) : fX6_appendBytes_3 z (fu + 1) x y = (x, y) := if_pos hx
theorem hl_app (z : Int32) : ∀ (k fu L : Nat) (w : Wd) (m : Md), k ≤ 3 → k + 2 ≤ fu → L + k + 1 ≤ 1200 → hz_iL L w m → sX7_appendFour_3 z fu (nI (8 * k)) m ∧ hz_wi w (fX6_appendBytes_3 z fu (nI (8 * k)) w).2 ∧ hz_mi m (fX7_appendFour_3 z fu (nI (8 * k)) m).2 ∧ hz_iL (L + k + 1) (fX6_appendBytes_3 z fu (nI (8 * k)) w).2 (fX7_appendFour_3 z fu (nI (8 * k)) m).2 := by
  intro k
  induction k with
  | zero =>
    intro fu L w m h1 h2 h3 hL
    obtain ⟨fu, rfl⟩ : ∃ f, fu = f + 1 + 1 := ⟨fu - 2, by omega⟩
    obtain ⟨l1, l2, l3, l4⟩ := hL
    obtain ⟨b, b1, b2, b3⟩ := hz_by z (s := 8 * 0) (by omega)
    have eC : fX6_appendBytes_3 z (fu + 1 + 1) (nI (8 * 0)) w = (-8, wS (wA w 0 (upd (w.2.1 0) L (nI b))) 0 (nI (L + 1))) := by
      show (if nI (8 * 0) < 0 then (nI (8 * 0), w) else fX6_appendBytes_3 z (fu + 1) (nI (8 * 0) + (-8)) (wS (wA w 0 (fX6_put 1200 (w.2.1 0) (w.1 0) ((iushr z (nI (8 * 0))) &&& 255))) 0 ((w.1 0) + 1))) = _
      rw [if_neg (nI_pos (by omega)), hz_a6n _ _ _ (show nI (8 * 0) + (-8) < 0 by decide), l2, b2, hz_put _ _ (by omega) (by decide), ← nI_succ]
      rfl
    have eM : fX7_appendFour_3 z (fu + 1 + 1) (nI (8 * 0)) m = (-8, mS (mA m 7 (upd (m.2.1 7) L (nI b).toInt8.toInt32)) 3 (nI (L + 1))) := by
      show (if nI (8 * 0) < 0 then (nI (8 * 0), m) else fX7_appendFour_3 z (fu + 1) (nI (8 * 0) + (-8)) (mS (mA m 7 (upd (m.2.1 7) (m.1 3).toNatClampNeg ((z >>> (nI (8 * 0) &&& 31)).toInt8.toInt32).toInt8.toInt32)) 3 ((m.1 3) + 1))) = _
      rw [if_neg (nI_pos (by omega)), hz_a4n _ _ _ (show nI (8 * 0) + (-8) < 0 by decide), l3, b3, nI_clamp (by omega), ← nI_succ]
      rfl
    rw [eC, eM]
    refine ⟨⟨fun _ => trivial, fun _ => ⟨by rw [l3]; exact vp_in_nI (by omega) (by omega), fun _ => trivial, fun h => absurd (show nI (8 * 0) + (-8) < 0 by decide) h⟩⟩, ⟨fun q hq => if_neg hq, fun q hq => if_neg hq, rfl⟩, ⟨fun q hq => if_neg hq, fun q hq => if_neg hq, rfl⟩, ⟨by omega, rfl, rfl, fun j hj => ?_⟩⟩
    show ∃ b_1, b_1 < 256 ∧ upd (w.2.1 0) L (nI b) j = nI b_1 ∧ upd (m.2.1 7) L (nI b).toInt8.toInt32 j = (nI b_1).toInt8.toInt32
    by_cases e : j = L
    · rw [e, pk_us, pk_us]; exact ⟨b, b1, rfl, rfl⟩
    · rw [pk_un e, pk_un e]; exact l4 j (by omega)
  | succ k ih =>
    intro fu L w m h1 h2 h3 hL
    obtain ⟨fu, rfl⟩ : ∃ f, fu = f + 1 := ⟨fu - 1, by omega⟩
    obtain ⟨l1, l2, l3, l4⟩ := hL
    obtain ⟨b, b1, b2, b3⟩ := hz_by z (s := 8 * (k + 1)) (by omega)
    have e8 : nI (8 * (k + 1)) + (-8) = nI (8 * k) := by
      rw [hz_inj, i32_add (by rw [nI_toInt (by omega), show (-8 : Int32).toInt = -8 from rfl]; omega) (by rw [nI_toInt (by omega), show (-8 : Int32).toInt = -8 from rfl]; omega), nI_toInt (by omega), nI_toInt (by omega), show (-8 : Int32).toInt = -8 from rfl]
      omega
    have eC : fX6_appendBytes_3 z (fu + 1) (nI (8 * (k + 1))) w = fX6_appendBytes_3 z fu (nI (8 * k)) (wS (wA w 0 (upd (w.2.1 0) L (nI b))) 0 (nI (L + 1))) := by
      show (if nI (8 * (k + 1)) < 0 then (nI (8 * (k + 1)), w) else (fX6_appendBytes_3 z fu (nI (8 * (k + 1)) + (-8)) (wS (wA w 0 (fX6_put 1200 (w.2.1 0) (w.1 0) ((iushr z (nI (8 * (k + 1)))) &&& 255))) 0 ((w.1 0) + 1)))) = _
      rw [if_neg (nI_pos (by omega)), e8, l2, b2, hz_put _ _ (by omega) (by decide), ← nI_succ]
    have eM : fX7_appendFour_3 z (fu + 1) (nI (8 * (k + 1))) m = fX7_appendFour_3 z fu (nI (8 * k)) (mS (mA m 7 (upd (m.2.1 7) L (nI b).toInt8.toInt32)) 3 (nI (L + 1))) := by
      show (if nI (8 * (k + 1)) < 0 then (nI (8 * (k + 1)), m) else (fX7_appendFour_3 z fu (nI (8 * (k + 1)) + (-8)) (mS (mA m 7 (upd (m.2.1 7) (m.1 3).toNatClampNeg ((z >>> (nI (8 * (k + 1)) &&& 31)).toInt8.toInt32).toInt8.toInt32)) 3 ((m.1 3) + 1)))) = _
      rw [if_neg (nI_pos (by omega)), e8, l3, b3, nI_clamp (by omega), ← nI_succ]
    have eS : sX7_appendFour_3 z (fu + 1) (nI (8 * (k + 1))) m = ((nI (8 * (k + 1)) < 0 → True) ∧ (¬ nI (8 * (k + 1)) < 0 → (vp_in (m.1 3) 1200 ∧ sX7_appendFour_3 z fu (nI (8 * (k + 1)) + (-8)) (mS (mA m 7 (upd (m.2.1 7) (m.1 3).toNatClampNeg ((z >>> (nI (8 * (k + 1)) &&& 31)).toInt8.toInt32).toInt8.toInt32)) 3 ((m.1 3) + 1))))) := rfl
    rw [e8, l3, b3, nI_clamp (by omega), ← nI_succ] at eS
    have hL1 : hz_iL (L + 1) (wS (wA w 0 (upd (w.2.1 0) L (nI b))) 0 (nI (L + 1))) (mS (mA m 7 (upd (m.2.1 7) L (nI b).toInt8.toInt32)) 3 (nI (L + 1))) := by
      refine ⟨by omega, rfl, rfl, fun j hj => ?_⟩
      show ∃ b_1, b_1 < 256 ∧ upd (w.2.1 0) L (nI b) j = nI b_1 ∧ upd (m.2.1 7) L (nI b).toInt8.toInt32 j = (nI b_1).toInt8.toInt32
      by_cases e : j = L
      · rw [e, pk_us, pk_us]; exact ⟨b, b1, rfl, rfl⟩
      · rw [pk_un e, pk_un e]; exact l4 j (by omega)
    have hw1 : hz_wi w (wS (wA w 0 (upd (w.2.1 0) L (nI b))) 0 (nI (L + 1))) := ⟨fun q hq => if_neg hq, fun q hq => if_neg hq, rfl⟩
    have hm1 : hz_mi m (mS (mA m 7 (upd (m.2.1 7) L (nI b).toInt8.toInt32)) 3 (nI (L + 1))) := ⟨fun q hq => if_neg hq, fun q hq => if_neg hq, rfl⟩
    obtain ⟨s1, s2, s3, s4⟩ := ih fu (L + 1) _ _ (by omega) (by omega) (by omega) hL1
    rw [eC, eM, eS]
    refine ⟨⟨fun _ => trivial, fun _ => ⟨vp_in_nI (by omega) (by omega), s1⟩⟩, hz_wiT hw1 s2, hz_miT hm1 s3, ?_⟩
    rw [show L + (k + 1) + 1 = L + 1 + k + 1 by omega]
    exact s4
theorem hl_four (z : Int32) {L : Nat} {w : Wd} {m : Md} (h : L + 4 ≤ 1200) (hL : hz_iL L w m) : sX7_appendFour m z ∧ hz_wi w (fX6_appendBytes w z) ∧ hz_mi m (fX7_appendFour m z) ∧ hz_iL (L + 4) (fX6_appendBytes w z) (fX7_appendFour m z) := by
  have hf : 3 + 2 ≤ fuD 24 := by unfold fuD; rw [show (24 : Int32).toInt = 24 from rfl]; decide
  unfold sX7_appendFour fX6_appendBytes fX7_appendFour
  simp only [bnd]
  generalize fuD 24 = F at *
  obtain ⟨s1, s2, s3, s4⟩ := hl_app z 3 F L w m (by omega) hf (by omega) hL
  rw [show nI (8 * 3) = 24 from rfl] at s1 s2 s3 s4
  exact ⟨⟨s1, trivial⟩, s2, s3, s4⟩
theorem hp_append {n : Nat} (hR : hz_R n w m) (z1 z2 z3 z4 z5 : Int32) : sX7_append m z1 z2 z3 z4 z5 ∧ (fX6_append w z1 z2 z3 z4 z5).1 = (fX7_append m z1 z2 z3 z4 z5).1 ∧ hz_R n (fX6_append w z1 z2 z3 z4 z5).2 (fX7_append m z1 z2 z3 z4 z5).2 := by
  have hR0 := hR
  obtain ⟨-, -, -, -, -, -, -, -, -, ⟨L, hL⟩, -, -⟩ := hR
  have hL0 := hL
  obtain ⟨l1, l2, l3, -⟩ := hL0
  unfold sX7_append fX6_append fX7_append
  simp only [bnd]
  have e20 : nI L + 20 = nI (L + 20) := by rw [show (20 : Int32) = nI 20 from rfl, nI_add]
  have ec : (nI (L + 20) ≤ (1200 : Int32)) ↔ L + 20 ≤ 1200 := by
    show nI (L + 20) ≤ nI 1200 ↔ _
    rw [hz_le, nI_toInt (by omega), nI_toInt (by omega)]; omega
  rw [l2, l3, e20]
  by_cases c : L + 20 ≤ 1200
  · have c' := ec.2 c
    obtain ⟨a1, a2, a3, a4⟩ := hl_four z1 (by omega) hL
    obtain ⟨b1, b2, b3, b4⟩ := hl_four z2 (by omega) a4
    obtain ⟨c1, c2, c3, c4⟩ := hl_four z3 (by omega) b4
    obtain ⟨d1, d2, d3, d4⟩ := hl_four z4 (by omega) c4
    obtain ⟨e1, e2, e3, e4⟩ := hl_four z5 (by omega) d4
    rw [if_pos c', if_pos c']
    exact ⟨⟨fun _ => ⟨a1, b1, c1, d1, e1, trivial⟩, fun h => absurd c' h⟩, e4.2.1.trans e4.2.2.1.symm, hz_Ri hR0 (hz_wiT a2 (hz_wiT b2 (hz_wiT c2 (hz_wiT d2 e2)))) (hz_miT a3 (hz_miT b3 (hz_miT c3 (hz_miT d3 e3)))) e4⟩
  · have c' : ¬ nI (L + 20) ≤ (1200 : Int32) := fun h => c (ec.1 h)
    rw [if_neg c', if_neg c']
    exact ⟨⟨fun h => absurd h c', fun _ => trivial⟩, rfl, hR0⟩
theorem hp_truncate {n : Nat} (hR : hz_R n w m) (z : Int32) : (fX6_truncate w z).1 = (fX7_truncate m z).1 ∧ hz_R n (fX6_truncate w z).2 (fX7_truncate m z).2 := by
  have hR0 := hR
  obtain ⟨-, -, -, -, -, -, -, -, -, ⟨L, hL⟩, -, -⟩ := hR
  have hL0 := hL
  obtain ⟨l1, l2, l3, l4⟩ := hL0
  have ei : fX7_in z.toInt64 0 ((m.1 3).toInt64) = fX6_isBetween z 0 (m.1 3) := hz_in z 0 (m.1 3)
  unfold fX6_truncate fX7_truncate
  rw [ei, l2, l3]
  unfold fX6_isBetween
  by_cases c : z < 0
  · rw [if_pos c, if_pos c, if_pos rfl]
    exact ⟨rfl, hR0⟩
  · by_cases c2 : z ≤ nI L
    · have c3 : ¬ nI L < z := by rw [hz_lt]; rw [hz_le] at c2; omega
      rw [if_neg c, if_pos c2, if_neg c, if_neg c3, if_neg (by decide)]
      have hz1 : z.toInt ≤ L := by rw [hz_le, nI_toInt (by omega)] at c2; exact c2
      have hz0 : 0 ≤ z.toInt := by rw [hz_lt, show (0 : Int32).toInt = 0 from rfl] at c; omega
      obtain ⟨k, k1, k2, rfl⟩ := hz_rgN (a := 0) (b := L) (x := z) ⟨hz0, hz1⟩ (by omega)
      exact ⟨rfl, hz_Ri (L := k) hR0 ⟨fun q hq => if_neg hq, fun q hq => rfl, rfl⟩ ⟨fun q hq => if_neg hq, fun q hq => rfl, rfl⟩ ⟨by omega, rfl, rfl, fun j hj => l4 j (by omega)⟩⟩
    · have c3 : nI L < z := by rw [hz_lt]; rw [hz_le] at c2; omega
      rw [if_neg c, if_neg c2, if_neg c, if_pos c3, if_pos rfl]
      exact ⟨rfl, hR0⟩
end HZZ
