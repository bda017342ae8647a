/-! The whole likeness of the two worlds; the questions on pairs. -/
def hz_RK (w : Wd) (np : Nat) : Prop := w.1 13 = 0 ∨ (¬ w.1 13 = 0 ∧ hz_kn w (w.2.2.1 1) np)
def hz_hist (w : Wd) (m : Md) : Prop := ∃ cnt old : Nat, cnt ≤ 10 ∧ old < 10 ∧ w.1 11 = nI cnt ∧ w.1 12 = nI old ∧ m.1 2 = nI cnt ∧ ∀ i, i < cnt → ∃ ny ns nz np, hz_PR (w.2.2.1 (3 + (old + i) % 10)) (fun j => m.2.1 6 (146 * i + j)) ny ns nz np
def hz_inp (w : Wd) (m : Md) : Prop := ∃ L : Nat, L ≤ 1200 ∧ w.1 0 = nI L ∧ m.1 3 = nI L ∧ ∀ j, j < L → ∃ b, b < 256 ∧ w.2.1 0 j = nI b ∧ m.2.1 7 j = (nI b).toInt8.toInt32
def hz_err (w : Wd) (m : Md) : Prop := w.1 1 = m.1 9 ∧ w.1 2 = m.1 10
def hz_fit (f : Nat → Int32) : Prop := ∀ j, fits .byte (.int (f j)) = true
/-- the text's row: long enough, of bytes -/
def hz_bb (C : Nat) (b : Nat × Nat × (Nat → Int32)) : Prop := C ≤ b.2.1 ∧ hz_fit b.2.2
def hz_outp (w : Wd) (m : Md) : Prop := ∃ C : Nat, C ≤ 2000 ∧ hz_bb C w.2.2.2.2.2 ∧ w.1 16 = nI C ∧ m.1 12 = nI C ∧ ∀ j, j < C → ∃ b, b < 128 ∧ w.2.2.2.2.2.2.2 j = nI b ∧ m.2.1 8 j = nI b
def hz_R (n : Nat) (w : Wd) (m : Md) : Prop := ∃ ny ns nz np r, hz_RP w m ny ns nz np ∧ (r ≤ 1000 * n ∧ hz_mo w r) ∧ hz_RK w np ∧ hz_hist w m ∧ hz_inp w m ∧ hz_err w m ∧ hz_outp w m
/-- what a question on pairs, or a prediction, may change -/
def hz_sk (w w1 : Wd) : Prop := (∀ q, ¬ q = 13 → ¬ q = 14 → ¬ q = 15 → w1.1 q = w.1 q) ∧ (∀ q, ¬ q = 1 → ¬ q = 2 → ¬ q = 3 → w1.2.1 q = w.2.1 q) ∧ (∀ q, ¬ q = 2 → w1.2.2.1 q = w.2.2.1 q) ∧ w1.2.2.2.2.2 = w.2.2.2.2.2
def hz_mq (m m1 : Md) : Prop := (∀ q, ¬ q = 1 → m1.1 q = m.1 q) ∧ m1.2.2 = m.2.2 ∧ ∀ q, ¬ q = 2 → ¬ q = 3 → ¬ q = 4 → ¬ q = 5 → m1.2.1 q = m.2.1 q
theorem hz_sk0 (w : Wd) : hz_sk w w := ⟨fun _ _ _ _ => rfl, fun _ _ _ _ => rfl, fun _ _ => rfl, rfl⟩
theorem hz_skT {a b c : Wd} (h : hz_sk a b) (g : hz_sk b c) : hz_sk a c := ⟨fun q h1 h2 h3 => (g.1 q h1 h2 h3).trans (h.1 q h1 h2 h3), fun q h1 h2 h3 => (g.2.1 q h1 h2 h3).trans (h.2.1 q h1 h2 h3), fun q h1 => (g.2.2.1 q h1).trans (h.2.2.1 q h1), g.2.2.2.trans h.2.2.2⟩
theorem hz_mq0 (m : Md) : hz_mq m m := ⟨fun _ _ => rfl, rfl, fun _ _ _ _ _ => rfl⟩
theorem hz_mqT {a b c : Md} (h : hz_mq a b) (g : hz_mq b c) : hz_mq a c := ⟨fun q h1 => (g.1 q h1).trans (h.1 q h1), g.2.1.trans h.2.1, fun q h1 h2 h3 h4 => (g.2.2 q h1 h2 h3 h4).trans (h.2.2 q h1 h2 h3 h4)⟩
theorem hz_mqk {R : Nat → Prop} {a b : Md} (h : hz_k R a b) (hR : ∀ q, R q → q = 2 ∨ q = 3 ∨ q = 4 ∨ q = 5) : hz_mq a b := ⟨fun q _ => by rw [h.1], h.2.1, fun q h1 h2 h3 h4 => h.2.2 q (fun hq => by have := hR q hq; omega)⟩
theorem hz_RPk {w w1 : Wd} {m m1 : Md} {ny ns nz np : Nat} (h : hz_RP w m ny ns nz np) (hw : hz_sk w w1) (hm : hz_mq m m1) : hz_RP w1 m1 ny ns nz np := by
  refine ⟨hm.2.1.trans h.1, ?_⟩
  rw [hw.2.2.1 1 (by decide), hm.2.2 0 (by decide) (by decide) (by decide) (by decide)]
  exact h.2
theorem hz_RR {n : Nat} {w w1 : Wd} {m m1 : Md} {ny ns nz np r1 : Nat} (hP : hz_RP w m ny ns nz np) (hH : hz_hist w m) (hI : hz_inp w m) (hE : hz_err w m) (hO : hz_outp w m) (hw : hz_sk w w1) (hm : hz_mq m m1) (hr : r1 ≤ 1000 * n) (hmo : hz_mo w1 r1) (hK : hz_RK w1 np) : hz_R n w1 m1 := by
  refine ⟨ny, ns, nz, np, r1, hz_RPk hP hw hm, ⟨hr, hmo⟩, hK, ?_, ?_, ?_, ?_⟩
  · obtain ⟨cnt, old, a1, a2, a3, a4, a5, a6⟩ := hH
    refine ⟨cnt, old, a1, a2, ?_, ?_, ?_, fun i hi => ?_⟩
    · rw [hw.1 11 (by decide) (by decide) (by decide)]; exact a3
    · rw [hw.1 12 (by decide) (by decide) (by decide)]; exact a4
    · rw [hm.1 2 (by decide)]; exact a5
    · rw [hw.2.2.1 _ (by omega), hm.2.2 6 (by decide) (by decide) (by decide) (by decide)]
      exact a6 i hi
  · obtain ⟨L, a1, a2, a3, a4⟩ := hI
    refine ⟨L, a1, ?_, ?_, fun j hj => ?_⟩
    · rw [hw.1 0 (by decide) (by decide) (by decide)]; exact a2
    · rw [hm.1 3 (by decide)]; exact a3
    · rw [hw.2.1 0 (by decide) (by decide) (by decide), hm.2.2 7 (by decide) (by decide) (by decide) (by decide)]
      exact a4 j hj
  · unfold hz_err
    rw [hw.1 1 (by decide) (by decide) (by decide), hw.1 2 (by decide) (by decide) (by decide), hm.1 9 (by decide), hm.1 10 (by decide)]
    exact hE
  · obtain ⟨C, a1, a2, a3, a4, a5⟩ := hO
    refine ⟨C, a1, ?_, ?_, ?_, fun j hj => ?_⟩
    · rw [hw.2.2.2]; exact a2
    · rw [hw.1 16 (by decide) (by decide) (by decide)]; exact a3
    · rw [hm.1 12 (by decide)]; exact a4
    · rw [hw.2.2.2, hm.2.2 8 (by decide) (by decide) (by decide) (by decide)]
      exact a5 j hj
theorem hz_Rup {n k : Nat} {w : Wd} {m : Md} (h : hz_R n w m) (hk : n ≤ k) : hz_R k w m := by
  obtain ⟨ny, ns, nz, np, r, h1, ⟨h2, h3⟩, h4⟩ := h
  exact ⟨ny, ns, nz, np, r, h1, ⟨by omega, h3⟩, h4⟩
section HZQ
variable {w : Wd} {m : Md} {ny ns nz np r : Nat}
/-- the class finds pairs; the model lays them out -/
theorem hz_fp (h : hz_RP w m ny ns nz np) (hr : r + 1 < 2 ^ 40) (hmo : hz_mo w r) (hK : hz_RK w np) : ∃ w1 r1, fX6_findPairs w = w1 ∧ hz_kn w1 (w.2.2.1 1) np ∧ hz_RK w1 np ∧ r1 ≤ r + 1 ∧ hz_mo w1 r1 ∧ hz_sk w w1 ∧ w1.2.2.1 = w.2.2.1 := by
  unfold fX6_findPairs
  by_cases c : w.1 13 = 0
  · obtain ⟨w1, e, k, o, a1, a2, a3, a4⟩ := hz_pairUp h.2 (w := w) rfl hr hmo
    rw [if_pos c]
    simp only [bnd]
    rw [e]
    have k2 : hz_kn (wS w1 13 1) (w.2.2.1 1) np := ⟨k.1, k.2.1, k.2.2⟩
    refine ⟨wS w1 13 1, r + 1, rfl, k2, Or.inr ⟨by show ¬ (1 : Int32) = 0; decide, ?_⟩, Nat.le_refl _, o, ⟨fun q h1 h2 h3 => ?_, a2, fun q _ => ?_, a4⟩, a3⟩
    · show hz_kn (wS w1 13 1) (w1.2.2.1 1) np
      rw [a3]; exact k2
    · show (if q = 13 then 1 else w1.1 q) = _
      rw [if_neg h1]; exact a1 q h2 h3
    · show w1.2.2.1 q = _
      rw [a3]
  · rw [if_neg c]
    have hk := hK.resolve_left c
    exact ⟨w, r, rfl, hk.2, hK, by omega, hmo, hz_sk0 w, rfl⟩
theorem hz_KB {p : Pl} {f : Nat → Int32} (hP : hz_PR p f ny ns nz np) {K : Nat} (k7 : K ≤ 7) (k2 : hz_W (hz_A p np) (hz_g p np) (hz_aS np) ≤ 100000 * (K : Int)) (k3 : 87951 * (K : Int) ≤ hz_W (hz_A p np) (hz_g p np) (hz_aS np)) : K = (hz_B p np).2.1 := by
  obtain ⟨g0, g1⟩ := hz_gg hP
  obtain ⟨d, w, b1, b2, b3, b4⟩ := hz_GW (A := hz_A p np) g0 g1 14 (hz_aS np) (fun _ => -1, 0, 0) (Nat.le_refl _) (fun j hj => absurd hj (by omega))
  have eB1 : (hz_B p np).2.1 = d := by
    unfold hz_B
    rw [b1]; exact Nat.zero_add d
  have r := hz_Wr hP (hz_aS np)
  rw [eB1]
  omega
theorem hp_pairCount {n : Nat} (hn : n ≤ 1000) (hR : hz_R n w m) : sX7_pairCount m ∧ (fX6_pairCount w).1 = (fX7_pairCount m).1 ∧ hz_R (n + 1) (fX6_pairCount w).2 (fX7_pairCount m).2 := by
  obtain ⟨ny, ns, nz, np, r, h, ⟨hr, hmo⟩, hK, hH, hI, hE, hO⟩ := hR
  obtain ⟨w1, r1, e, k, hK1, q1, q2, q3, q4⟩ := hz_fp h (by omega) hmo hK
  obtain ⟨s, ⟨K, k7, e2, _, k2, k3⟩, kk, -⟩ := hz_cntP (hz_rp h) (by rw [h.1]; omega)
  unfold sX7_pairCount fX6_pairCount fX7_pairCount
  simp only [bnd, e]
  refine ⟨⟨s, trivial⟩, ?_, hz_RR h hH hI hE hO q3 (hz_mqk kk (by omega)) (by omega) q2 hK1⟩
  rw [e2, k.2.1, hz_KB h.2 k7 k2 k3]
theorem hp_pairGap {n : Nat} (hn : n ≤ 1000) (hR : hz_R n w m) : sX7_pairGap m ∧ (fX6_pairGap w).1 = (fX7_pairGap m).1 ∧ hz_R (n + 1) (fX6_pairGap w).2 (fX7_pairGap m).2 := by
  obtain ⟨ny, ns, nz, np, r, h, ⟨hr, hmo⟩, hK, hH, hI, hE, hO⟩ := hR
  obtain ⟨w1, r1, e, k, hK1, q1, q2, q3, q4⟩ := hz_fp h (by omega) hmo hK
  have hn2 : m.2.2 ≤ 2 := by rw [h.1]; omega
  obtain ⟨s, e2, c7, eW, kk, -⟩ := hz_layP (hz_rp h) hn2
  have hP1 := hz_kP kk hn2 (by omega) (hz_rp h)
  obtain ⟨s2, e3, kk2, -⟩ := hz_layW hP1 (by rw [kk.2.1]; exact hn2)
  unfold sX7_pairGap fX6_pairGap fX7_pairGap
  simp only [bnd, e]
  refine ⟨⟨s, s2, trivial⟩, ?_, hz_RR h hH hI hE hO q3 (hz_mqT (hz_mqk kk (by omega)) (hz_mqk kk2 (by omega))) (by omega) q2 hK1⟩
  obtain ⟨b1, b2, b3, b4⟩ := hz_Bn h.2
  have hW := hz_Wr h.2 (hz_aS np)
  have z : (100000 : Int32).toInt = 100000 := rfl
  have t1 : (nI (hz_B (w.2.2.1 1) np).2.1).toInt = ((hz_B (w.2.2.1 1) np).2.1 : Int) := nI_toInt (by omega)
  have t2 : ((100000 : Int32) * nI (hz_B (w.2.2.1 1) np).2.1).toInt = 100000 * ((hz_B (w.2.2.1 1) np).2.1 : Int) := by
    rw [hz_mul (by rw [z, t1]; omega) (by rw [z, t1]; omega), z, t1]
  rw [e2, hz_inj, k.2.2, hz_sub (by rw [t2, e3]; omega) (by rw [t2, e3]; omega), t2, e3]
  omega
theorem hp_partner {n : Nat} (hn : n ≤ 1000) (hR : hz_R n w m) (z : Int32) : sX7_partner m z ∧ (fX6_partner w z).1 = (fX7_partner m z).1 ∧ hz_R (n + 1) (fX6_partner w z).2 (fX7_partner m z).2 := by
  obtain ⟨ny, ns, nz, np, r, h, ⟨hr, hmo⟩, hK, hH, hI, hE, hO⟩ := hR
  have hn14 : np ≤ 14 := h.2.2.1.2.2.2
  obtain ⟨w1, r1, e, k, hK1, q1, q2, q3, q4⟩ := hz_fp h (by omega) hmo hK
  obtain ⟨s, e2, c7, eW, kk, hp⟩ := hz_layP (hz_rp h) (by rw [h.1]; omega)
  obtain ⟨sz, e3, e4⟩ := hz_pz h z
  unfold sX7_partner fX6_partner fX7_partner
  simp only [bnd, e, e3, e4]
  by_cases c : hz_is np z = 0
  · rw [if_pos c, if_pos c]
    exact ⟨⟨sz, fun _ => trivial, fun h => absurd c h⟩, rfl, hz_Rup ⟨ny, ns, nz, np, r, h, ⟨hr, hmo⟩, hK, hH, hI, hE, hO⟩ (by omega)⟩
  · obtain ⟨i, hi, rfl⟩ := hz_is_of (by omega) c
    rw [if_neg c, if_neg c]
    refine ⟨⟨sz, fun h => absurd h c, fun _ => ⟨s, vp_in_nI (by omega) (by omega), trivial⟩⟩, ?_, hz_RR h hH hI hE hO q3 (hz_mqk kk (by omega)) (by omega) q2 hK1⟩
    rw [hz_at _ (show i < 14 by omega) (by decide), nI_clamp (by omega), k.1 i (by omega), hp i hi]
/-- the lower piece of a pair -/
theorem hz_lowT {P : Nat → Int32} (hv : hz_vp np P) (hw : ∀ j, j < 14 → w.2.1 3 j = P j) (z : Int32) : ∀ (fu i : Nat) (x : Int32), np ≤ i → i ≤ 14 → 14 < fu + i → fX3_lowerOf_4 z w fu (nI i) x = -1 := by
  intro fu
  induction fu with
  | zero => intro i x h1 h2 h3; omega
  | succ fu ih =>
    intro i x h1 h2 h3
    simp only [fX3_lowerOf_4]
    by_cases c : (14 : Int32) ≤ nI i
    · rw [if_pos c]
    · have hi : i < 14 := hz_c (n := 14) h2 (by omega) c
      have e : P i = -1 := by
        rcases hv i hi with h | ⟨q, a1, a2, a3, a4, a5⟩
        · exact h
        · omega
      rw [if_neg c, hz_at _ hi (by decide), hw i hi, e, if_pos (hz_m1le (by omega)), ← nI_succ]
      exact ih (i + 1) x (by omega) hi (by omega)
theorem hz_lowL2 {m1 : Md} {P : Nat → Int32} (hn : np ≤ 14) (hc : fX7_count m1 = nI np) (hv : hz_vp np P) (hw : ∀ j, j < 14 → w.2.1 3 j = P j) (hm : ∀ j, j < np → m1.2.1 5 j = P j) (z : Int32) : ∀ (fu fv i : Nat) (x : Int32), i ≤ np → 14 < fu + i → np < fv + i → fX3_lowerOf_4 z w fu (nI i) x = fX7_pairAt_4 z m1 fv (nI i) x ∧ sX7_pairAt_4 z m1 fv (nI i) x ∧ (fX7_pairAt_4 z m1 fv (nI i) x = -1 ∨ ∃ j, j < np ∧ fX7_pairAt_4 z m1 fv (nI i) x = nI j ∧ ¬ P j ≤ nI j) := by
  intro fu
  induction fu with
  | zero => intro fv i x h1 h2 h3; omega
  | succ fu ih =>
    intro fv i x h1 h2 h3
    match fv, h3 with
    | 0, h3 => omega
    | fv + 1, h3 =>
      by_cases c : nI np ≤ nI i
      · have c' := c
        rw [nI_leI (by omega) (by omega)] at c'
        have e := hz_lowT hv hw z (fu + 1) i x (by omega) (by omega) (by omega)
        rw [e]
        simp only [fX7_pairAt_4, sX7_pairAt_4, hc]
        rw [if_pos c]
        exact ⟨rfl, ⟨fun _ => trivial, fun h => absurd c h⟩, Or.inl rfl⟩
      · have hi : i < np := hz_c h1 (by omega) c
        have c14 : ¬ (14 : Int32) ≤ nI i := nI_ge (a := i) (b := 14) (by omega) (by omega)
        simp only [fX3_lowerOf_4, fX7_pairAt_4, sX7_pairAt_4, hc]
        rw [if_neg c, if_neg c14, hz_at _ (show i < 14 by omega) (by decide), nI_clamp (by omega), hw i (by omega), hm i hi, ← nI_succ]
        by_cases c2 : P i ≤ nI i
        · obtain ⟨r1, r2, r3⟩ := ih fv (i + 1) x hi (by omega) (by omega)
          rw [if_pos c2, if_neg (Int32.not_lt.mpr c2)]
          exact ⟨r1, ⟨fun h => absurd h c, fun _ => ⟨vp_in_nI (by omega) (by omega), fun h => absurd h (Int32.not_lt.mpr c2), fun _ => r2⟩⟩, r3⟩
        · have c3 : nI i < P i := Int32.not_le.mp c2
          obtain ⟨r1, r2, r3⟩ := ih fv (i + 1) (x + 1) hi (by omega) (by omega)
          rw [if_neg c2, if_pos c3]
          by_cases c4 : x = z
          · rw [if_pos c4, if_pos c4]
            exact ⟨rfl, ⟨fun h => absurd h c, fun _ => ⟨vp_in_nI (by omega) (by omega), fun _ => ⟨fun _ => trivial, fun _ => r2⟩, fun h => absurd c3 h⟩⟩, Or.inr ⟨i, hi, rfl, c2⟩⟩
          · rw [if_neg c4, if_neg c4]
            exact ⟨r1, ⟨fun h => absurd h c, fun _ => ⟨vp_in_nI (by omega) (by omega), fun _ => ⟨fun h => absurd h c4, fun _ => r2⟩, fun h => absurd c3 h⟩⟩, r3⟩
theorem hz_lowC {P : Nat → Int32} (hw : ∀ j, j < 14 → w.2.1 3 j = P j) {z : Nat} (hz : z < 1000000) : ∀ (fu i x : Nat), i ≤ 14 → 14 < fu + i → x ≤ z → fX3_lowerOf_4 (nI z) w fu (nI i) (nI x) = -1 → hz_cnt P 14 + x ≤ z + hz_cnt P i := by
  intro fu
  induction fu with
  | zero => intro i x h1 h2; omega
  | succ fu ih =>
    intro i x h1 h2 h3 he
    simp only [fX3_lowerOf_4] at he
    by_cases c : (14 : Int32) ≤ nI i
    · have c' : nI 14 ≤ nI i := c
      rw [nI_leI (by omega) (by omega)] at c'
      have e : i = 14 := by omega
      rw [e]; omega
    · have hi : i < 14 := hz_c (n := 14) h1 (by omega) c
      have ec : hz_cnt P (i + 1) = hz_cnt P i + (if P i ≤ nI i then 0 else 1) := rfl
      rw [if_neg c, hz_at _ hi (by decide), hw i hi, ← nI_succ, ← nI_succ] at he
      by_cases c2 : P i ≤ nI i
      · rw [if_pos c2] at he ec
        have := ih (i + 1) x hi (by omega) h3 he
        omega
      · rw [if_neg c2] at he ec
        by_cases c4 : nI x = nI z
        · rw [if_pos c4] at he
          exact absurd he (hz_nIm1 (by omega))
        · rw [if_neg c4] at he
          have hne : x ≠ z := fun e => c4 (by rw [e])
          have := ih (i + 1) (x + 1) hi (by omega) (by omega) he
          omega
/-- of the laid out pairing -/
theorem hz_low3 {w1 : Wd} {m1 : Md} (h : hz_RP w m ny ns nz np) (hk : hz_kn w1 (w.2.2.1 1) np) (hc : fX7_count m1 = nI np) (hm : ∀ j, j < np → m1.2.1 5 j = (hz_B (w.2.2.1 1) np).1 j) (z : Int32) : fX3_lowerOf w1 z = fX7_pairAt m1 z ∧ sX7_pairAt m1 z ∧ (fX7_pairAt m1 z = -1 ∨ ∃ j q, j < np ∧ q < np ∧ fX7_pairAt m1 z = nI j ∧ (hz_B (w.2.2.1 1) np).1 j = nI q ∧ j < q) := by
  have hn14 : np ≤ 14 := h.2.2.1.2.2.2
  obtain ⟨hv, hcn⟩ := hz_Bv h.2
  have hfu : 14 < fuU 14 0 + 0 := by
    unfold fuU
    rw [show (14 : Int32).toInt = 14 from rfl, show (0 : Int32).toInt = 0 from rfl]
    omega
  have L := hz_lowL2 (w := w1) hn14 hc hv hk.1 hm z (fuU 14 0) (fuU (nI np) 0) 0 0 (Nat.zero_le _) hfu (by rw [hz_fuU (by omega)]; omega)
  rw [nI_0] at L
  obtain ⟨a1, a2, a3⟩ := L
  unfold fX3_lowerOf fX7_pairAt sX7_pairAt
  rw [hc]
  refine ⟨a1, a2, ?_⟩
  rcases a3 with a3 | ⟨j, j1, j2, j3⟩
  · exact Or.inl a3
  · right
    rcases hv j (by omega) with e | ⟨q, b1, b2, b3, b4, b5⟩
    · rw [e] at j3; exact absurd (hz_m1le (by omega)) j3
    · refine ⟨j, q, j1, b1, j2, b4, ?_⟩
      rw [b4, nI_leI (by omega) (by omega)] at j3
      omega
theorem hp_pair {n : Nat} (hn : n ≤ 1000) (hR : hz_R n w m) (z : Int32) : sX7_pair m z ∧ (fX6_pair w z).1 = (fX7_pair m z).1 ∧ hz_R (n + 1) (fX6_pair w z).2 (fX7_pair m z).2 := by
  obtain ⟨ny, ns, nz, np, r, h, ⟨hr, hmo⟩, hK, hH, hI, hE, hO⟩ := hR
  have hn14 : np ≤ 14 := h.2.2.1.2.2.2
  have hn2 : m.2.2 ≤ 2 := by rw [h.1]; omega
  obtain ⟨w1, r1, e, k, hK1, q1, q2, q3, q4⟩ := hz_fp h (by omega) hmo hK
  obtain ⟨s, e2, c7, eW, kk, hp⟩ := hz_layP (hz_rp h) hn2
  have hP1 := hz_kP kk hn2 (by omega) (hz_rp h)
  obtain ⟨l1, l2, l3⟩ := hz_low3 h k (hz_count hP1).1 hp z
  have R1 := hz_RR h hH hI hE hO q3 (hz_mqk kk (by omega)) (show r1 ≤ 1000 * (n + 1) by omega) q2 hK1
  unfold sX7_pair fX6_pair fX7_pair
  simp only [bnd, e]
  generalize fX7_layPartners m = X at *
  by_cases c : 0 ≤ z
  · rw [if_pos c, if_pos c, l1]
    rcases l3 with l3 | ⟨j, q, j1, j2, j3, j4, j5⟩
    · rw [if_pos l3, if_pos l3]
      exact ⟨⟨fun _ => ⟨s, l2, fun _ => trivial, fun h => absurd l3 h⟩, fun h => absurd c h⟩, rfl, R1⟩
    · have hne : ¬ fX7_pairAt X.2 z = -1 := by rw [j3]; exact hz_nIm1 (by omega)
      rw [if_neg hne, if_neg hne, j3]
      refine ⟨⟨fun _ => ⟨s, l2, fun _ => trivial, fun _ => ⟨vp_in_nI (by omega) (by omega), trivial⟩⟩, fun h => absurd c h⟩, ?_, R1⟩
      rw [hz_at _ (show j < 14 by omega) (by decide), nI_clamp (by omega), k.1 j (by omega), hp j j1]
  · rw [if_neg c, if_neg c]
    exact ⟨⟨fun h => absurd h c, fun _ => trivial⟩, rfl, hz_Rup ⟨ny, ns, nz, np, r, h, ⟨hr, hmo⟩, hK, hH, hI, hE, hO⟩ (by omega)⟩
/-- the size of a pair -/
theorem hz_szp {w1 : Wd} {m1 : Md} (hP1 : hz_PR (w1.2.2.1 1) (m1.2.1 m1.2.2) ny ns nz np) {j q : Nat} (hj : j < np) (hq : q < np) (hjq : j < q) (hw : w1.2.1 3 j = nI q) (hm : m1.2.1 5 j = nI q) : fX6_sizeOfPair w1 (nI j) = fX7_sizeOfPair m1 (nI j) ∧ sX7_sizeOfPair m1 (nI j) := by
  have hn := hz_np hP1
  unfold fX6_sizeOfPair fX7_sizeOfPair sX7_sizeOfPair
  rw [hz_at _ (show j < 14 by omega) (by decide), hw, nI_clamp (by omega), hm, if_pos (nI_lt hjq (by omega)), (hz_f hP1 hj).2.2.2.1, (hz_f hP1 hq).2.2.2.1, (hz_size hP1 _ _).1]
  exact ⟨rfl, (hz_fs m1 (show j < 14 by omega)).2.2.2.1, vp_in_nI (by omega) (by omega), (hz_fs m1 (show q < 14 by omega)).2.2.2.1, (hz_size hP1 _ _).2, trivial⟩
theorem hp_pairSize {n : Nat} (hn : n ≤ 1000) (hR : hz_R n w m) (z : Int32) : sX7_pairSize m z ∧ (fX6_pairSize w z).1 = (fX7_pairSize m z).1 ∧ hz_R (n + 1) (fX6_pairSize w z).2 (fX7_pairSize m z).2 := by
  obtain ⟨ny, ns, nz, np, r, h, ⟨hr, hmo⟩, hK, hH, hI, hE, hO⟩ := hR
  have hn14 : np ≤ 14 := h.2.2.1.2.2.2
  have hn2 : m.2.2 ≤ 2 := by rw [h.1]; omega
  obtain ⟨w1, r1, e, k, hK1, q1, q2, q3, q4⟩ := hz_fp h (by omega) hmo hK
  obtain ⟨s, e2, c7, eW, kk, hp⟩ := hz_layP (hz_rp h) hn2
  have hP1 := hz_kP kk hn2 (by omega) (hz_rp h)
  obtain ⟨l1, l2, l3⟩ := hz_low3 h k (hz_count hP1).1 hp z
  have R1 := hz_RR h hH hI hE hO q3 (hz_mqk kk (by omega)) (show r1 ≤ 1000 * (n + 1) by omega) q2 hK1
  unfold sX7_pairSize fX6_pairSize fX7_pairSize
  simp only [bnd, e]
  generalize fX7_layPartners m = X at *
  by_cases c : 0 ≤ z
  · rw [if_pos c, if_pos c, l1]
    rcases l3 with l3 | ⟨j, q, j1, j2, j3, j4, j5⟩
    · rw [if_pos l3, if_pos l3]
      exact ⟨⟨fun _ => ⟨s, l2, fun _ => trivial, fun h => absurd l3 h⟩, fun h => absurd c h⟩, rfl, R1⟩
    · have hne : ¬ fX7_pairAt X.2 z = -1 := by rw [j3]; exact hz_nIm1 (by omega)
      rw [if_neg hne, if_neg hne, j3]
      rw [← q4] at hP1
      obtain ⟨z1, z2⟩ := hz_szp (w1 := w1) hP1 j1 j2 j5 (by rw [k.1 j (by omega)]; exact j4) (by rw [hp j j1]; exact j4)
      exact ⟨⟨fun _ => ⟨s, l2, fun _ => trivial, fun _ => ⟨z2, trivial⟩⟩, fun h => absurd c h⟩, z1, R1⟩
  · rw [if_neg c, if_neg c]
    exact ⟨⟨fun h => absurd h c, fun _ => trivial⟩, rfl, hz_Rup ⟨ny, ns, nz, np, r, h, ⟨hr, hmo⟩, hK, hH, hI, hE, hO⟩ (by omega)⟩
theorem hl_worst {w1 : Wd} {m1 : Md} (h : hz_RP w m ny ns nz np) (hk : hz_kn w1 (w.2.2.1 1) np) (hw1 : w1.2.2.1 = w.2.2.1) (hP1 : hz_PR (w.2.2.1 1) (m1.2.1 m1.2.2) ny ns nz np) (hm : ∀ j, j < np → m1.2.1 5 j = (hz_B (w.2.2.1 1) np).1 j) : ∀ (fu i : Nat) (x b : Int32), i ≤ (hz_B (w.2.2.1 1) np).2.1 → fX6_worstPair_10 w1 fu (nI i) x b = fX7_worstPair_12 (nI (hz_B (w.2.2.1 1) np).2.1) m1 fu (nI i) x b ∧ sX7_worstPair_12 (nI (hz_B (w.2.2.1 1) np).2.1) m1 fu (nI i) x b := by
  have hn14 : np ≤ 14 := h.2.2.1.2.2.2
  obtain ⟨hv, hcn⟩ := hz_Bv h.2
  have hb7 := (hz_Bn h.2).1
  intro fu
  induction fu with
  | zero => intro i x b hi; exact ⟨rfl, trivial⟩
  | succ fu ih =>
    intro i x b hi
    simp only [fX6_worstPair_10, fX7_worstPair_12, sX7_worstPair_12, hk.2.1, hw1]
    by_cases c : nI (hz_B (w.2.2.1 1) np).2.1 ≤ nI i
    · rw [if_pos c, if_pos c]
      exact ⟨rfl, fun _ => trivial, fun h => absurd c h⟩
    · have hi : i < (hz_B (w.2.2.1 1) np).2.1 := hz_c hi (by omega) c
      obtain ⟨l1, l2, l3⟩ := hz_low3 h hk (hz_count hP1).1 hm (nI i)
      have hne : ¬ fX7_pairAt m1 (nI i) = -1 := fun e => by
        rw [← l1] at e
        unfold fX3_lowerOf at e
        have hfu : 14 < fuU 14 0 + 0 := by
          unfold fuU
          rw [show (14 : Int32).toInt = 14 from rfl, show (0 : Int32).toInt = 0 from rfl]
          omega
        have := hz_lowC (w := w1) hk.1 (z := i) (by omega) (fuU 14 0) 0 0 (Nat.zero_le _) hfu (Nat.zero_le _) e
        have e0 : hz_cnt (hz_B (w.2.2.1 1) np).1 0 = 0 := rfl
        omega
      obtain ⟨j, q, j1, j2, j3, j4, j5⟩ := l3.resolve_left hne
      obtain ⟨g1, g2⟩ := hz_gap hP1 j1 j2
      rw [if_neg c, if_neg c, l1, j3, hz_at _ (show j < 14 by omega) (by decide), nI_clamp (by omega), hk.1 j (by omega), hm j j1, j4, g1, ← nI_succ]
      have r1 := ih (i + 1) x b hi
      have r2 := ih (i + 1) (fX5_gapOf (w.2.2.1 1) (nI j) (nI q)) (nI i) hi
      refine ⟨?_, fun h => absurd h c, fun _ => ⟨l2, vp_in_nI (by omega) (by omega), g2, fun _ => r2.2, fun _ => r1.2⟩⟩
      by_cases c2 : fX5_gapOf (w.2.2.1 1) (nI j) (nI q) ≤ x
      · rw [if_pos c2, if_neg (Int32.not_lt.mpr c2)]; exact r1.1
      · rw [if_neg c2, if_pos (Int32.not_le.mp c2)]; exact r2.1
theorem hp_worstPair {n : Nat} (hn : n ≤ 1000) (hR : hz_R n w m) : sX7_worstPair m ∧ (fX6_worstPair w).1 = (fX7_worstPair m).1 ∧ hz_R (n + 1) (fX6_worstPair w).2 (fX7_worstPair m).2 := by
  obtain ⟨ny, ns, nz, np, r, h, ⟨hr, hmo⟩, hK, hH, hI, hE, hO⟩ := hR
  have hn2 : m.2.2 ≤ 2 := by rw [h.1]; omega
  obtain ⟨w1, r1, e, k, hK1, q1, q2, q3, q4⟩ := hz_fp h (by omega) hmo hK
  obtain ⟨s, e2, c7, eW, kk, hp⟩ := hz_layP (hz_rp h) hn2
  have hP1 := hz_kP kk hn2 (by omega) (hz_rp h)
  have R1 := hz_RR h hH hI hE hO q3 (hz_mqk kk (by omega)) (show r1 ≤ 1000 * (n + 1) by omega) q2 hK1
  have L := hl_worst h k q4 hP1 hp (fuU (nI (hz_B (w.2.2.1 1) np).2.1) 0) 0 (-1) (-1) (Nat.zero_le _)
  rw [nI_0] at L
  unfold sX7_worstPair fX6_worstPair fX7_worstPair
  simp only [bnd, e, e2, k.2.1]
  rw [L.1]
  exact ⟨⟨s, L.2, trivial⟩, rfl, R1⟩
end HZQ
