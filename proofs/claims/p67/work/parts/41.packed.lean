/-! What would be packed. -/
theorem hz_ctE {f : Nat → Bool} : ∀ n, hz_ct f n ≠ 0 → ∃ b, b < n ∧ f b = true
  | 0, h => absurd rfl h
  | n + 1, h => by
    by_cases hf : f n = true
    · exact ⟨n, by omega, hf⟩
    · have : hz_ct f n ≠ 0 := fun e => h (by simp only [hz_ct]; rw [e, if_neg hf])
      obtain ⟨b, hb, h2⟩ := hz_ctE n this
      exact ⟨b, by omega, h2⟩
theorem hz_pop0 {x : Int32} (hx : hz_sm x) (h : hz_pop 14 (bt x) = 0) : x = 0 := by
  refine Classical.byContradiction fun hne => ?_
  obtain ⟨i, hi, hb⟩ := hz_ne0 hx hne
  have := hz_popR 14 (bt x) i (Nat.le_refl _) (by omega) hi hb
  omega
section HZS
variable {w : Wd} {m : Md} {ny ns nz np r : Nat} {w1 : Wd} {m1 : Md}
/-- this piece is the lower one of a pair in a full box -/
def hz_pk (w1 : Wd) (np b a : Nat) : Bool := decide (¬ fX6_sizeOfPair w1 (nI a) = -1) && decide (hz_ct (hz_bx w1 a) a < hz_ct (hz_bx w1 a) np / b * b)
theorem hz_boxN (h : hz_two2 w1 m1 ny ns nz np) : ∃ b : Nat, 1 ≤ b ∧ b ≤ 6 ∧ (w1.2.2.1 1).1 6 = nI b ∧ (m1.2.1 m1.2.2) 3 = nI b := by
  obtain ⟨b, b1, b2, b3⟩ := hz_rgN (a := 1) (b := 6) h.1.2.2.2.2.1.2.2.2 (by omega)
  exact ⟨b, b1, b2, b3, by rw [h.1.2.2.2.1.2.2.2.1]; exact b3⟩
theorem hz_infull (h : hz_two2 w1 m1 ny ns nz np) {b : Nat} (b1 : 1 ≤ b) (b6 : b ≤ 6) (hb : (w1.2.2.1 1).1 6 = nI b) {a : Nat} (ha : a < np) : fX6_isInFullBox w1 (nI a) = 0 ↔ hz_pk w1 np b a = false := by
  have hn := hz_np h.1
  have hc := (hz_count h.1).2
  have L := hl_box hc hn ha (fuU (nI np) 0) 0 (Nat.zero_le _) (by rw [hz_fuU (by omega)]; omega)
  rw [Nat.zero_min, show hz_ct (hz_bx w1 a) 0 = 0 from rfl, nI_0] at L
  have l1 := hz_ctL (hz_bx w1 a) np
  have l2 := hz_ctL (hz_bx w1 a) a
  unfold fX6_isInFullBox hz_pk
  simp only [bnd, hc]
  rw [L, hb]
  by_cases c : fX6_sizeOfPair w1 (nI a) = -1
  · rw [if_pos c, decide_eq_false (fun hh => hh c), Bool.false_and]
    exact ⟨fun _ => rfl, fun _ => rfl⟩
  · have q : hz_ct (hz_bx w1 a) np / b * b ≤ hz_ct (hz_bx w1 a) np := Nat.div_mul_le_self _ _
    rw [if_neg c, decide_eq_true c, Bool.true_and, if_pos (show (0 : Int32) < nI b from nI_lt (a := 0) (by omega) (by omega)), pk_div (by omega) (by omega) (by omega), pk_mul]
    show (if nI _ ≤ nI _ then (0 : Int32) else 1) = 0 ↔ _
    by_cases d : hz_ct (hz_bx w1 a) a < hz_ct (hz_bx w1 a) np / b * b
    · rw [if_neg (nI_ge d (by omega)), decide_eq_true d]
      exact ⟨fun hh => absurd hh (by decide), fun hh => absurd hh (by decide)⟩
    · rw [if_pos (nI_le (by omega) (by omega)), decide_eq_false d]
      exact ⟨fun _ => rfl, fun _ => rfl⟩
theorem hl_packed (h : hz_two2 w1 m1 ny ns nz np) {b : Nat} (b1 : 1 ≤ b) (b6 : b ≤ 6) (hb : (w1.2.2.1 1).1 6 = nI b) (hb2 : (m1.2.1 m1.2.2) 3 = nI b) : ∀ (fu i : Nat) (X : Int32), i ≤ np → np < fu + i → (∀ j, j < 32 → bt X j = true → ∃ i' q', i' < i ∧ i' < q' ∧ q' < np ∧ w1.2.1 3 i' = nI q' ∧ (j = i' ∨ j = q')) → hz_pop 14 (bt X) = 2 * hz_ct (hz_pk w1 np b) i →
    sX7_packedSet_11 m1 fu (nI i) X (nI (hz_ct (hz_pk w1 np b) i)) ∧ (fX7_packedSet_11 m1 fu (nI i) X (nI (hz_ct (hz_pk w1 np b) i))).2.1 = (fX6_packableSet_4 w1 fu (nI i) X).2 ∧ (fX7_packedSet_11 m1 fu (nI i) X (nI (hz_ct (hz_pk w1 np b) i))).2.2 = nI (hz_ct (hz_pk w1 np b) np) ∧ hz_pop 14 (bt (fX6_packableSet_4 w1 fu (nI i) X).2) = 2 * hz_ct (hz_pk w1 np b) np ∧ (∀ j, j < 32 → bt (fX6_packableSet_4 w1 fu (nI i) X).2 j = true → j < np) := by
  intro fu
  induction fu with
  | zero => intro i X h1 h2; omega
  | succ fu ih =>
    intro i X hi hf hX hp
    have hn := hz_np h.1
    obtain ⟨c1, c2⟩ := hz_count h.1
    simp only [fX7_packedSet_11, sX7_packedSet_11, fX6_packableSet_4, c1, c2]
    by_cases hh : nI np ≤ nI i
    · rw [if_pos hh, if_pos hh]
      refine ⟨⟨fun _ => trivial, fun h2 => absurd hh h2⟩, rfl, ?_, ?_, fun j hj hbj => ?_⟩
      · rw [nI_leI (by omega) (by omega)] at hh
        rw [show i = np by omega]
      · rw [nI_leI (by omega) (by omega)] at hh
        rw [hp, show i = np by omega]
      · obtain ⟨i', q', a1, a2, a3, a4, a5⟩ := hX j hj hbj
        omega
    · have hi : i < np := hz_c hi (by omega) hh
      have e1 : hz_ct (hz_pk w1 np b) (i + 1) = hz_ct (hz_pk w1 np b) i + (if hz_pk w1 np b i = true then 1 else 0) := rfl
      obtain ⟨d1, d2, d3⟩ := hz_szd h hi
      have hif := hz_infull h b1 b6 hb hi
      have hX2 : ∀ j, j < 32 → bt X j = true → ∃ i' q', i' < i + 1 ∧ i' < q' ∧ q' < np ∧ w1.2.1 3 i' = nI q' ∧ (j = i' ∨ j = q') := fun j hj hbj => by
        obtain ⟨i', q', a1, a2⟩ := hX j hj hbj
        exact ⟨i', q', by omega, a2⟩
      rw [if_neg hh, if_neg hh, ← nI_succ, hb2]
      by_cases sz : fX6_sizeOfPair w1 (nI i) = -1
      · have hk : hz_pk w1 np b i = false := by unfold hz_pk; rw [decide_eq_false (fun hh => hh sz), Bool.false_and]
        rw [if_pos sz] at d2
        have r := ih (i + 1) X hi (by omega) hX2 (by rw [e1, hk, if_neg (by decide), Nat.add_zero]; exact hp)
        rw [e1, hk, if_neg (by decide), Nat.add_zero] at r
        rw [d2, if_pos rfl, if_pos (hif.mpr hk)]
        exact ⟨⟨fun h2 => absurd h2 hh, fun _ => ⟨d1, fun _ => r.1, fun h2 => absurd rfl h2⟩⟩, r.2.1, r.2.2.1, r.2.2.2⟩
      · rw [if_neg sz] at d2
        obtain ⟨z1, z2, q, s, q1, q2, q3, q4, q5⟩ := d3 sz
        have g0 := hl_grp h hi sz 0 (fuU (nI np) 0) 0 (Nat.zero_le _) (by rw [hz_fuU (by omega)]; omega) (fun _ => Nat.zero_le _)
        have g1 := hl_grp h hi sz 1 (fuU (nI np) 0) 0 (Nat.zero_le _) (by rw [hz_fuU (by omega)]; omega) (fun e => absurd e (by decide))
        rw [show hz_ct (hz_bx w1 i) 0 = 0 from rfl, nI_0] at g0 g1
        rw [if_pos rfl] at g0
        rw [if_neg (by decide)] at g1
        have G0 : sX7_inGroup m1 (nI i) 0 ∧ fX7_inGroup m1 (nI i) 0 = nI (hz_ct (hz_bx w1 i) (i + 1)) := by
          unfold sX7_inGroup fX7_inGroup
          rw [c1]
          exact ⟨⟨g0.1, trivial⟩, g0.2⟩
        have G1 : sX7_inGroup m1 (nI i) 1 ∧ fX7_inGroup m1 (nI i) 1 = nI (hz_ct (hz_bx w1 i) np) := by
          unfold sX7_inGroup fX7_inGroup
          rw [c1]
          exact ⟨⟨g1.1, trivial⟩, g1.2⟩
        have bii : hz_bx w1 i i = true := by
          rw [(hz_bxE w1 i i).1, decide_eq_true rfl, decide_eq_true rfl, decide_eq_true rfl]; rfl
        have ei : hz_ct (hz_bx w1 i) (i + 1) = hz_ct (hz_bx w1 i) i + 1 := by
          show hz_ct (hz_bx w1 i) i + (if hz_bx w1 i i = true then 1 else 0) = _
          rw [if_pos bii]
        have l1 := hz_ctL (hz_bx w1 i) np
        have l2 := hz_ctL (hz_bx w1 i) i
        have hdm : hz_ct (hz_bx w1 i) np / b * b ≤ hz_ct (hz_bx w1 i) np := Nat.div_mul_le_self _ _
        have ecmp : (fX7_inGroup m1 (nI i) 0 ≤ (fX7_inGroup m1 (nI i) 1) / (nI b) * (nI b)) ↔ hz_ct (hz_bx w1 i) i < hz_ct (hz_bx w1 i) np / b * b := by
          rw [G0.2, G1.2, pk_div (by omega) (by omega) (by omega), pk_mul, ei, nI_leI (by omega) (by omega)]
          omega
        have hbne : ¬ nI b = 0 := nI_ne0 (by omega) (by omega)
        rw [d2, if_neg (by decide), nI_clamp (by omega), h.2.2 i hi, q3, hz_at _ (show i < 14 by omega) (by decide), q3]
        by_cases d : hz_ct (hz_bx w1 i) i < hz_ct (hz_bx w1 i) np / b * b
        · have hk : hz_pk w1 np b i = true := by unfold hz_pk; rw [decide_eq_true sz, decide_eq_true d]; rfl
          have hnf : ¬ fX6_isInFullBox w1 (nI i) = 0 := fun e => by rw [hif.mp e] at hk; exact absurd hk (by decide)
          have hvi : w1.2.1 3 q = nI i := by
            rcases h.2.1 i (by omega) with e | ⟨q', a1, a2, a3, a4, a5⟩
            · rw [q3] at e; exact absurd e (hz_nIm1 (by omega))
            · rw [q3, nI_eq (by omega) (by omega)] at a4
              rw [a4]; exact a5
          have hbit : ∀ j, j < 32 → bt (X ||| (((1 : Int32) <<< (nI i &&& 31)) ||| ((1 : Int32) <<< (nI q &&& 31)))) j = (bt X j || (decide (i = j) || decide (q = j))) := fun j hj => by
            rw [b_or, b_or, hz_one (by omega) hj, hz_one (by omega) hj]
          have ni : bt X i = false := by
            cases hbi : bt X i
            · rfl
            · obtain ⟨i', q', a1, a2, a3, a4, a5⟩ := hX i (by omega) hbi
              have e : q' = i := by omega
              rcases h.2.1 i' (by omega) with e2 | ⟨q2', b1, b2, b3, b4, b5⟩
              · rw [a4] at e2; exact absurd e2 (hz_nIm1 (by omega))
              · rw [a4, nI_eq (by omega) (by omega)] at b4
                rw [← b4, e, q3, nI_eq (by omega) (by omega)] at b5
                omega
          have nq : bt X q = false := by
            cases hbi : bt X q
            · rfl
            · obtain ⟨i', q', a1, a2, a3, a4, a5⟩ := hX q (by omega) hbi
              have e : q' = q := by omega
              rcases h.2.1 i' (by omega) with e2 | ⟨q2', b1, b2, b3, b4, b5⟩
              · rw [a4] at e2; exact absurd e2 (hz_nIm1 (by omega))
              · rw [a4, nI_eq (by omega) (by omega)] at b4
                rw [← b4, e, hvi, nI_eq (by omega) (by omega)] at b5
                omega
          have p1 := hz_popR 14 (bt (X ||| (((1 : Int32) <<< (nI i &&& 31)) ||| ((1 : Int32) <<< (nI q &&& 31))))) q (Nat.le_refl _) (by omega) (by omega) (by rw [hbit q (by omega), decide_eq_true (show q = q from rfl)]; simp)
          have p2 := hz_popR 14 (hz_rm (bt (X ||| (((1 : Int32) <<< (nI i &&& 31)) ||| ((1 : Int32) <<< (nI q &&& 31))))) q) i (Nat.le_refl _) (by omega) (by omega) (by rw [hz_rmn _ (by omega), hbit i (by omega), decide_eq_true (show i = i from rfl)]; simp)
          have p3 : hz_pop 14 (hz_rm (hz_rm (bt (X ||| (((1 : Int32) <<< (nI i &&& 31)) ||| ((1 : Int32) <<< (nI q &&& 31))))) q) i) = hz_pop 14 (bt X) := hz_popC 14 _ _ (Nat.le_refl _) (fun j _ hj => by
            by_cases e : j = i
            · rw [e, hz_rms, ni]
            · rw [hz_rmn _ e]
              by_cases e2 : j = q
              · rw [e2, hz_rms, nq]
              · rw [hz_rmn _ e2, hbit j (by omega), decide_eq_false (Ne.symm e), decide_eq_false (Ne.symm e2)]
                simp)
          have r := ih (i + 1) (X ||| (((1 : Int32) <<< (nI i &&& 31)) ||| ((1 : Int32) <<< (nI q &&& 31)))) hi (by omega) (fun j hj hbj => by
            rw [hbit j hj] at hbj
            simp only [Bool.or_eq_true, decide_eq_true_eq] at hbj
            rcases hbj with hbj | hbj | hbj
            · exact hX2 j hj hbj
            · exact ⟨i, q, by omega, q1, q2, q3, Or.inl hbj.symm⟩
            · exact ⟨i, q, by omega, q1, q2, q3, Or.inr hbj.symm⟩) (by rw [e1, hk, if_pos rfl]; omega)
          rw [e1, hk, if_pos rfl] at r
          rw [if_pos (ecmp.mpr d), if_neg hnf, ← nI_succ]
          exact ⟨⟨fun h2 => absurd h2 hh, fun _ => ⟨d1, fun h2 => absurd h2 (by decide), fun _ => ⟨G0.1, G1.1, hbne, fun _ => ⟨vp_in_nI (by omega) (by omega), r.1⟩, fun h2 => absurd (ecmp.mpr d) h2⟩⟩⟩, r.2.1, r.2.2.1, r.2.2.2⟩
        · have hk : hz_pk w1 np b i = false := by unfold hz_pk; rw [decide_eq_false d, Bool.and_false]
          have r := ih (i + 1) X hi (by omega) hX2 (by rw [e1, hk, if_neg (by decide), Nat.add_zero]; exact hp)
          rw [e1, hk, if_neg (by decide), Nat.add_zero] at r
          rw [if_neg (fun e => d (ecmp.mp e)), if_pos (hif.mpr hk)]
          exact ⟨⟨fun h2 => absurd h2 hh, fun _ => ⟨d1, fun h2 => absurd h2 (by decide), fun _ => ⟨G0.1, G1.1, hbne, fun h2 => absurd (ecmp.mp h2) d, fun _ => r.1⟩⟩⟩, r.2.1, r.2.2.1, r.2.2.2⟩
/-- where anything is packed, at least a box is -/
theorem hz_fullb (h : hz_two2 w1 m1 ny ns nz np) {b : Nat} (b1 : 1 ≤ b) (hz : hz_ct (hz_pk w1 np b) np ≠ 0) : b ≤ hz_ct (hz_pk w1 np b) np := by
  obtain ⟨a, ha, hk⟩ := hz_ctE np hz
  unfold hz_pk at hk
  simp only [Bool.and_eq_true, decide_eq_true_eq] at hk
  obtain ⟨hs, hlt⟩ := hk
  have hK := hz_ctK (hz_bx w1 a) (hz_ct (hz_bx w1 a) np / b * b) np
  have hdm : hz_ct (hz_bx w1 a) np / b * b ≤ hz_ct (hz_bx w1 a) np := Nat.div_mul_le_self _ _
  rw [Nat.min_eq_right hdm] at hK
  have hM : hz_ct (fun x => hz_bx w1 a x && decide (hz_ct (hz_bx w1 a) x < hz_ct (hz_bx w1 a) np / b * b)) np ≤ hz_ct (hz_pk w1 np b) np := hz_ctM np (fun x hx hf => by
    simp only [Bool.and_eq_true, decide_eq_true_eq] at hf
    have ef : hz_bx w1 x = hz_bx w1 a := by funext y; exact hz_bxT hf.1 y
    have hsx : ¬ fX6_sizeOfPair w1 (nI x) = -1 := by
      have := hf.1
      rw [(hz_bxE w1 a x).1] at this
      simp only [Bool.and_eq_true, decide_eq_true_eq] at this
      rw [← this.2.2]; exact hs
    unfold hz_pk
    rw [ef, decide_eq_true hsx, decide_eq_true hf.2]; rfl)
  have hq : 1 ≤ hz_ct (hz_bx w1 a) np / b := by
    refine Nat.pos_of_ne_zero fun e => ?_
    rw [e, Nat.zero_mul] at hlt
    omega
  have : 1 * b ≤ hz_ct (hz_bx w1 a) np / b * b := Nat.mul_le_mul_right b hq
  omega
theorem hz_packed (h : hz_two2 w1 m1 ny ns nz np) : ∃ c b : Nat, 1 ≤ b ∧ b ≤ 6 ∧ c ≤ 7 ∧ (w1.2.2.1 1).1 6 = nI b ∧ sX7_packedSet_11 m1 (fuU (fX7_count m1) 0) 0 0 0 ∧ (fX7_packedSet_11 m1 (fuU (fX7_count m1) 0) 0 0 0).2.1 = fX6_packableSet w1 ∧ (fX7_packedSet_11 m1 (fuU (fX7_count m1) 0) 0 0 0).2.2 = nI c ∧ (m1.2.1 m1.2.2) 3 = nI b ∧ (∀ j, j < 32 → bt (fX6_packableSet w1) j = true → j < np) ∧ fJ6_bitCount_0f7a4 (fX6_packableSet w1) = nI (2 * c) ∧ (fX6_packableSet w1 = 0 ↔ c / b = 0) := by
  have hn := hz_np h.1
  obtain ⟨c1, c2⟩ := hz_count h.1
  obtain ⟨b, b1, b2, b3, b4⟩ := hz_boxN h
  have L := hl_packed h b1 b2 b3 b4 (fuU (nI np) 0) 0 0 (Nat.zero_le _) (by rw [hz_fuU (by omega)]; omega) (fun j hj hb => by rw [b_0] at hb; exact absurd hb (by decide)) (by
    have : ∀ k, hz_pop k (bt 0) = 0 := by
      intro k
      induction k with
      | zero => rfl
      | succ k ih => simp only [hz_pop]; rw [ih, b_0]; rfl
    rw [this 14]; rfl)
  rw [show hz_ct (hz_pk w1 np b) 0 = 0 from rfl, nI_0] at L
  obtain ⟨a1, a2, a3, a4, a5⟩ := L
  have eS : fX6_packableSet w1 = (fX6_packableSet_4 w1 (fuU (nI np) 0) 0 0).2 := by
    unfold fX6_packableSet
    simp only [bnd, c2]
  rw [c1, eS]
  have hsm := hz_smlt hn a5
  have hp14 := hz_pop14 14 (bt (fX6_packableSet_4 w1 (fuU (nI np) 0) 0 0).2)
  refine ⟨hz_ct (hz_pk w1 np b) np, b, b1, b2, by omega, b3, a1, a2, a3, b4, a5, ?_, fun e => ?_, fun e => ?_⟩
  · obtain ⟨S, s1, s2⟩ := hz_smN hsm
    rw [s2] at a4 ⊢
    rw [hz_bitc s1, a4]
  · have : hz_ct (hz_pk w1 np b) np = 0 := by
      rw [e] at a4
      have h0 : ∀ k, hz_pop k (bt 0) = 0 := by
        intro k
        induction k with
        | zero => rfl
        | succ k ih => simp only [hz_pop]; rw [ih, b_0]; rfl
      rw [h0 14] at a4
      omega
    rw [this, Nat.zero_div]
  · have hz0 : hz_ct (hz_pk w1 np b) np = 0 := Classical.byContradiction fun hz => by
      have := hz_fullb h b1 hz
      have := Nat.div_pos this (by omega)
      omega
    exact hz_pop0 hsm (by omega)
theorem hz_pset (h : hz_RP w m ny ns nz np) (hr : r + 1 < 2 ^ 40) (hmo : hz_mo w r) (hK : hz_RK w np) : ∃ w1 r1, fX6_findPairs w = w1 ∧ hz_RK w1 np ∧ r1 ≤ r + 1 ∧ hz_mo w1 r1 ∧ hz_sk w w1 ∧ w1.2.2.1 = w.2.2.1 ∧ sX7_packedSet m ∧ (fX7_packedSet m).1 = fX6_packableSet w1 ∧ (fX7_packedSet m).2.1 1 = fX6_boxesOf w1 (fX6_packableSet w1) ∧ (fX6_packableSet w1 = 0 ↔ fX6_boxesOf w1 (fX6_packableSet w1) = 0) ∧ (∀ j, j < 32 → bt (fX6_packableSet w1) j = true → j < np) ∧ hz_mq m (fX7_packedSet m).2 := by
  have hn14 : np ≤ 14 := h.2.2.1.2.2.2
  have hn2 : m.2.2 ≤ 2 := by rw [h.1]; omega
  obtain ⟨w1, r1, e, k, hK1, q1, q2, q3, q4⟩ := hz_fp h hr hmo hK
  obtain ⟨s, e2, c7, eW, kk, hp⟩ := hz_layP (hz_rp h) hn2
  have hP1 := hz_kP kk hn2 (by omega) (hz_rp h)
  obtain ⟨hv, -⟩ := hz_Bv h.2
  have t2 : hz_two2 w1 (fX7_layPartners m).2 ny ns nz np := by
    refine ⟨by rw [q4]; exact hP1, fun j hj => ?_, fun j hj => by rw [hp j hj, k.1 j (by omega)]⟩
    rw [k.1 j hj]
    rcases hv j hj with hv | ⟨q, a1, a2, a3, a4, a5⟩
    · exact Or.inl hv
    · exact Or.inr ⟨q, a1, a2, a3, a4, by rw [k.1 q (by omega)]; exact a5⟩
  obtain ⟨c, b, b1, b6, c7', b3, p1, p2, p3, p4, p5, p6, p7⟩ := hz_packed t2
  have eb : fX6_boxesOf w1 (fX6_packableSet w1) = nI (c / b) := by
    unfold fX6_boxesOf
    rw [b3, p6, if_neg (nI_nle (by omega) (by omega)), show (2 : Int32) = nI 2 from rfl, pk_div (by omega) (by omega) (by omega), pk_div (by omega) (by omega) (by omega), show 2 * c / 2 = c by omega]
  refine ⟨w1, r1, e, hK1, q1, q2, q3, q4, ?_, ?_, ?_, ?_, p5, ?_⟩
  · unfold sX7_packedSet
    simp only [bnd]
    refine ⟨s, p1, ?_, trivial⟩
    rw [p4]; exact nI_ne0 (by omega) (by omega)
  · unfold fX7_packedSet
    simp only [bnd]
    exact p2
  · rw [eb]
    unfold fX7_packedSet
    simp only [bnd]
    show (fX7_packedSet_11 _ _ _ _ _).2.2 / _ = _
    rw [p3, p4, pk_div (by omega) (by omega) (by omega)]
  · rw [eb, p7]
    have hcb : c / b ≤ c := Nat.div_le_self _ _
    constructor
    · intro e; rw [e]; rfl
    · intro e
      rw [← nI_0, nI_eq (by omega) (by omega)] at e
      exact e
  · unfold fX7_packedSet
    simp only [bnd]
    exact hz_mqT (hz_mqk kk (by omega)) ⟨fun q hq => if_neg hq, rfl, fun _ _ _ _ _ => rfl⟩
theorem hp_boxCount {n : Nat} (hn : n ≤ 1000) (hR : hz_R n w m) : sX7_boxCount m ∧ (fX6_boxCount w).1 = (fX7_boxCount m).1 ∧ hz_R (n + 1) (fX6_boxCount w).2 (fX7_boxCount m).2 := by
  obtain ⟨ny, ns, nz, np, r, h, ⟨hr, hmo⟩, hK, hH, hI, hE, hO⟩ := hR
  obtain ⟨w1, r1, e, hK1, q1, q2, q3, q4, s, p1, p2, p3, p4, p5⟩ := hz_pset h (by omega) hmo hK
  unfold sX7_boxCount fX6_boxCount fX7_boxCount
  simp only [bnd, e]
  exact ⟨⟨s, trivial⟩, p2.symm, hz_RR h hH hI hE hO q3 p5 (by omega) q2 hK1⟩
end HZS
