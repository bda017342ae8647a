/-! The model's worth of all pieces, its number of pairs. -/
section HZE
variable {p : Pl} {ny ns nz np : Nat}
theorem hz_clrF (x : Int32) {i : Nat} (hi : i < 32) : bt (x &&& (((1 : Int32) <<< (nI i &&& 31)) ^^^ (-1))) = hz_rm (bt x) i := by
  funext j
  by_cases hj : j < 32
  · exact hz_clr x hi hj
  · unfold hz_rm
    rw [b_big (by omega), b_big (by omega)]
    rfl
theorem hz_btlt {s n i : Nat} (h : s < 2 ^ n) (hi : i < 32) (hb : bt (nI s) i = true) : i < n := by
  rw [hz_btN s i hi] at hb
  refine Nat.lt_of_not_le fun hc => ?_
  rw [Nat.testBit_lt_two_pow (Nat.lt_of_lt_of_le h (Nat.pow_le_pow_right (by decide) hc))] at hb
  exact absurd hb (by decide)
theorem hz_pw {n : Nat} (h : n ≤ 14) : 2 ^ n ≤ 16384 := Nat.le_trans (Nat.pow_le_pow_right (by decide) h) (Nat.le_of_eq (by decide : 2 ^ 14 = 16384))
theorem hz_lw45 : ∀ (fu s : Nat) (y : Md), 1 ≤ s → s ≤ 2 ^ np → 2 ^ np < fu + s → hz_PR p (y.2.1 y.2.2) ny ns nz np → y.2.2 ≤ 2 → (∀ i, i < np → y.2.1 4 i = fX5_matchSet p (nI i)) → hz_wl p np s (y.2.1 3) →
    sX7_layWorth_45 (nI (2 ^ np - 1)) fu (nI s) y ∧ hz_k (fun k => k = 3) y (fX7_layWorth_45 (nI (2 ^ np - 1)) fu (nI s) y).2 ∧ hz_wl p np (2 ^ np) ((fX7_layWorth_45 (nI (2 ^ np - 1)) fu (nI s) y).2.2.1 3) := by
  intro fu
  induction fu with
  | zero => intro s y h1 h2 h3; omega
  | succ fu ih =>
    intro s y h1 h2 hf hP hn2 hm hw
    have hn := hz_np hP
    have hpw := hz_pw hn
    simp only [fX7_layWorth_45, sX7_layWorth_45, bnd]
    by_cases h : nI (2 ^ np - 1) < nI s
    · rw [if_pos h]
      rw [nI_ltI (by omega) (by omega)] at h
      have e : s = 2 ^ np := by omega
      refine ⟨⟨fun _ => trivial, fun h2 => absurd ((nI_ltI (by omega) (by omega)).mpr h) h2⟩, hz_k0 y, ?_⟩
      rw [← e]; exact hw
    · have hs : s < 2 ^ np := by
        rw [nI_ltI (by omega) (by omega)] at h
        omega
      have hsm : hz_sm (nI s) := hz_Nsm (by omega)
      have hne : ¬ nI s = 0 := nI_ne0 (by omega) (by omega)
      obtain ⟨i, i14, eL, hbi, hlo, sL⟩ := hz_lowest hsm hne
      have hi : i < np := hz_btlt hs (by omega) hbi
      obtain ⟨N1, g1, e3⟩ := hz_andN (S := s) (((1 : Int32) <<< (nI i &&& 31)) ^^^ (-1))
      have eF := hz_clrF (nI s) (show i < 32 by omega)
      have hN1 : N1 ≠ s := by
        intro e
        rw [e3, e] at eF
        have z : bt (nI s) i = hz_rm (bt (nI s)) i i := by rw [← eF]
        rw [hbi, hz_rms] at z
        exact absurd z (by decide)
      rw [if_neg h, eL, ← nI_succ, e3, nI_clamp (by omega), nI_clamp (by omega), ← nI_succ]
      generalize hy1 : mA y 3 (upd (y.2.1 3) s (y.2.1 3 N1)) = y1
      have hk1 : hz_k (fun k => k = 3) y y1 := by rw [← hy1]; exact hz_kA (R := fun k => k = 3) y (k := 3) rfl _
      have r1 : ∀ N, ¬ N = s → y1.2.1 3 N = y.2.1 3 N := fun N hN => by rw [← hy1, hz_mAs, pk_un hN]
      have r2 : y1.2.1 3 s = y.2.1 3 N1 := by rw [← hy1, hz_mAs, pk_us]
      have hP1 : hz_PR p (y1.2.1 y1.2.2) ny ns nz np := hz_kP hk1 hn2 (by omega) hP
      have hn21 : y1.2.2 ≤ 2 := by rw [hk1.2.1]; exact hn2
      have hm1 : ∀ i, i < np → y1.2.1 4 i = fX5_matchSet p (nI i) := fun i hi => by rw [hk1.2.2 4 (by decide)]; exact hm i hi
      have hw1 : hz_wl p np s (y1.2.1 3) := fun N hN => by rw [r1 N (by omega)]; exact hw N hN
      have hfm := hz_fuM (i := i + 1) (by omega)
      have L := hz_lw82 (by omega) hi hbi (nI (2 ^ np - 1)) (fuU 2147483647 (nI (i + 1))) (i + 1) y1 (by omega) hi (by omega) hP1 hn21 (hm1 i hi) hw1
      rw [e3] at L
      obtain ⟨a1, a2, a3, a4⟩ := L
      generalize fX7_layWorth_82 (nI N1) (nI i) (nI s) (nI (2 ^ np - 1)) (fuU 2147483647 (nI (i + 1))) (nI (i + 1)) y1 = R at *
      have hP2 : hz_PR p (R.2.2.1 R.2.2.2) ny ns nz np := hz_kP a2 hn21 (by omega) hP1
      have hw2 : hz_wl p np (s + 1) (R.2.2.1 3) := by
        intro N hN
        by_cases hNs : N = s
        · rw [hNs, a4, r2, hw N1 (by omega), ← e3, eF, hz_Wu i14 hbi hlo]
          refine hz_bestC rfl 14 (fun q hq => ?_) (fun q hq hc => rfl)
          by_cases hq2 : i < q
          · rw [decide_eq_true (show i + 1 ≤ q by omega), Bool.true_and]
          · rw [decide_eq_false hq2]; simp
        · rw [a3 N hNs]
          exact hw1 N (by omega)
      obtain ⟨b1, b2, b3⟩ := ih (s + 1) R.2 (by omega) (by omega) (by omega) hP2 (by rw [a2.2.1]; exact hn21) (fun j hj => by rw [a2.2.2 4 (by decide)]; exact hm1 j hj) hw2
      exact ⟨⟨fun h2 => absurd h2 h, fun _ => ⟨sL, vp_in_nI (by omega) (by omega), vp_in_nI (by omega) (by omega), a1, b1⟩⟩, hz_kT hk1 (hz_kT a2 b2), b3⟩
/-- all pieces -/
def hz_aS (n : Nat) : Nat → Bool := fun j => decide (j < n)
theorem hz_aB {n : Nat} (h : n ≤ 14) {j : Nat} (hj : j < 32) : bt (nI (2 ^ n - 1)) j = hz_aS n j := by
  rw [hz_btN _ _ hj, Nat.testBit_two_pow_sub_one]
  rfl
theorem hz_layR {m : Md} (hP : hz_PR p (m.2.1 m.2.2) ny ns nz np) (hn2 : m.2.2 ≤ 2) (F1 F2 : Nat) (hF1 : np < F1) (hF2 : 2 ^ np < F2) :
    ∃ y : Md, (fX7_layWorth_2 F1 0 m).2 = y ∧ sX7_layWorth_2 F1 0 m ∧ (∃ z : Md, (fX7_layWorth_45 (((1 : Int32) <<< ((fX7_count y) &&& 31)) - 1) F2 1 (mA y 3 (upd (y.2.1 3) 0 0))).2 = z ∧ sX7_layWorth_45 (((1 : Int32) <<< ((fX7_count y) &&& 31)) - 1) F2 1 (mA y 3 (upd (y.2.1 3) 0 0)) ∧ hz_k (fun k => k = 3 ∨ k = 4) m z ∧ (∀ i, i < np → z.2.1 4 i = fX5_matchSet p (nI i)) ∧ hz_wl p np (2 ^ np) (z.2.1 3)) ∧ ((1 : Int32) <<< ((fX7_count y) &&& 31)) - 1 = nI (2 ^ np - 1) := by
  have hn := hz_np hP
  have L := hz_lw2 F1 0 m (Nat.zero_le np) (by omega) hP hn2
  rw [nI_0] at L
  obtain ⟨a1, a2, a3, a4⟩ := L
  refine ⟨_, rfl, a1, ?_⟩
  generalize (fX7_layWorth_2 F1 0 m).2 = y at *
  have hPy := hz_kP a2 hn2 (by omega) hP
  have hny : y.2.2 ≤ 2 := by rw [a2.2.1]; exact hn2
  have ec : ((1 : Int32) <<< ((fX7_count y) &&& 31)) - 1 = nI (2 ^ np - 1) := by
    rw [(hz_count hPy).1]; exact hz_all np (by omega)
  rw [ec]
  refine ⟨⟨_, rfl, ?_⟩, rfl⟩
  have hk1 : hz_k (fun k => k = 3) y (mA y 3 (upd (y.2.1 3) 0 0)) := hz_kA (R := fun k => k = 3) y (k := 3) rfl _
  have L := hz_lw45 (p := p) (ny := ny) (ns := ns) (nz := nz) F2 1 (mA y 3 (upd (y.2.1 3) 0 0)) (Nat.le_refl 1) (Nat.one_le_two_pow) (by omega) (hz_kP hk1 hny (by omega) hPy) hny (fun i hi => by rw [hk1.2.2 4 (by decide)]; exact a4 i (Nat.zero_le i) hi) (fun N hN => by
    have : N = 0 := by omega
    rw [this, hz_mAs, pk_us, hz_W0 (fun j hj => by rw [nI_0]; exact b_0 j)]
    rfl)
  have e1 : nI 1 = 1 := rfl
  rw [e1] at L
  obtain ⟨b1, b2, b3⟩ := L
  refine ⟨b1, hz_kT (hz_kW a2 (by omega)) (hz_kT (hz_kW hk1 (by omega)) (hz_kW b2 (by omega))), fun i hi => ?_, b3⟩
  rw [b2.2.2 4 (by decide), hk1.2.2 4 (by decide)]
  exact a4 i (Nat.zero_le i) hi
theorem hz_layW {m : Md} (hP : hz_PR p (m.2.1 m.2.2) ny ns nz np) (hn2 : m.2.2 ≤ 2) : sX7_layWorth m ∧ (fX7_layWorth m).1.toInt = hz_W (hz_A p np) (hz_g p np) (hz_aS np) ∧ hz_k (fun k => k = 3 ∨ k = 4) m (fX7_layWorth m).2 ∧ (∀ i, i < np → (fX7_layWorth m).2.2.1 4 i = fX5_matchSet p (nI i)) ∧ hz_wl p np (2 ^ np) ((fX7_layWorth m).2.2.1 3) := by
  have hn := hz_np hP
  have hpw := hz_pw hn
  have h1 : 1 ≤ 2 ^ np := Nat.one_le_two_pow
  have hF1 : np < fuU 2147483647 0 := by have := hz_fuM (i := 0) (by omega); rw [nI_0] at this; omega
  obtain ⟨y, e1, s1, ⟨z, e2, s2, k, hm, hw⟩, ec⟩ := hz_layR hP hn2 (fuU 2147483647 0) 16400 hF1 (by omega)
  unfold sX7_layWorth fX7_layWorth
  simp only [bnd, e1, e2]
  rw [ec, nI_clamp (by omega)]
  rw [ec] at s2
  refine ⟨⟨s1, s2, vp_in_nI (by omega) (by omega), trivial⟩, ?_, k, hm, hw⟩
  rw [hw (2 ^ np - 1) (by omega)]
  exact hz_Wc (fun j hj => hz_aB hn (by omega))
/-- the number of pairs of the best pairing -/
theorem hz_K {f : Nat → Int32} (hP : hz_PR p f ny ns nz np) (S : Nat → Bool) : ∃ K : Nat, K ≤ 7 ∧ hz_W (hz_A p np) (fun _ _ => 0) S = 100000 * (K : Int) ∧ hz_W (hz_A p np) (hz_g p np) S ≤ 100000 * (K : Int) ∧ 87951 * (K : Int) ≤ hz_W (hz_A p np) (hz_g p np) S := by
  obtain ⟨g0, g1⟩ := hz_gg hP
  obtain ⟨K, h1, h2, h3⟩ := hz_Vk (A := hz_A p np) g0 g1 14 S
  refine ⟨K, ?_, h1, h2, h3⟩
  have h := hz_Wr hP S
  unfold hz_W at h
  omega
theorem hz_cntP {m : Md} (hP : hz_PR p (m.2.1 m.2.2) ny ns nz np) (hn2 : m.2.2 ≤ 2) : sX7_countPairs m ∧ (∃ K : Nat, K ≤ 7 ∧ (fX7_countPairs m).1 = nI K ∧ hz_W (hz_A p np) (fun _ _ => 0) (hz_aS np) = 100000 * (K : Int) ∧ hz_W (hz_A p np) (hz_g p np) (hz_aS np) ≤ 100000 * (K : Int) ∧ 87951 * (K : Int) ≤ hz_W (hz_A p np) (hz_g p np) (hz_aS np)) ∧ hz_k (fun k => k = 3 ∨ k = 4) m (fX7_countPairs m).2 ∧ (∀ i, i < np → (fX7_countPairs m).2.2.1 4 i = fX5_matchSet p (nI i)) ∧ hz_wl p np (2 ^ np) ((fX7_countPairs m).2.2.1 3) := by
  obtain ⟨s, e, k, hm, hw⟩ := hz_layW hP hn2
  obtain ⟨K, k7, k1, k2, k3⟩ := hz_K hP (hz_aS np)
  have r := hz_Wr hP (hz_aS np)
  unfold sX7_countPairs fX7_countPairs
  simp only [bnd]
  refine ⟨⟨s, trivial⟩, ⟨K, k7, ?_, k1, k2, k3⟩, k, hm, hw⟩
  generalize (fX7_layWorth m).1 = x at *
  have z1 : (100000 : Int32).toInt = 100000 := rfl
  have z2 : (1 : Int32).toInt = 1 := rfl
  have e1 : (x + 100000).toInt = x.toInt + 100000 := by rw [i32_add (by rw [z1]; omega) (by rw [z1]; omega), z1]
  have e2 : (x + 100000 - 1).toInt = x.toInt + 100000 - 1 := by rw [hz_sub (by rw [e1, z2]; omega) (by rw [e1, z2]; omega), e1, z2]
  rw [hz_inj, Int32.toInt_div_of_ne_right _ _ (by decide), e2, nI_toInt (by omega), z1, Int.tdiv_eq_ediv_of_nonneg (by omega)]
  omega
end HZE
