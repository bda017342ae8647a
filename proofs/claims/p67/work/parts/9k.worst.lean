/-! The worst pair. -/
/-- the gap of pair i -/
def gpI (w : Wd) (i : Nat) : Int32 := fX5_gapOf (w.2.2.1 1) (fX3_lowerOf w (nI i)) (fX6_at 14 (w.2.1 3) (fX3_lowerOf w (nI i)))
def wpI (w : Wd) (K : Nat) (x : Int32) : Prop := (K = 0 ∧ x = -1) ∨ ∃ b, b < K ∧ x = nI b ∧ ∀ u, u < K → gpI w u ≤ gpI w b ∧ (gpI w u = gpI w b → b ≤ u)
/-- the pairs are known: K of them -/
def KN (w : Wd) (f : Nat → Int32) (ny ns nz np K : Nat) : Prop := hz_PR (w.2.2.1 1) f ny ns nz np ∧ hz_kn w (w.2.2.1 1) np ∧ ¬ w.1 13 = 0 ∧ (hz_B (w.2.2.1 1) np).2.1 = K
theorem m_16 : ∀ j, j < 14 → (16 : Int32) * nI j = nI (16 * j) := by decide +kernel
section WRS
variable {w w1 : Wd} {f g : Nat → Int32} {ny ns nz np n k K : Nat} {p : Pl}
theorem pr_at (h : KN w f ny ns nz np K) {i : Nat} (hi : i < K) : ∃ j q, fX3_lowerOf w (nI i) = nI j ∧ j < np ∧ q < np ∧ j < q ∧ w.2.1 3 j = nI q := by
  obtain ⟨hP, hk, -, hK⟩ := h
  have hn14 : np ≤ 14 := hP.2.1.2.2.2
  obtain ⟨hv, hcn⟩ := hz_Bv hP
  have hb7 := (hz_Bn hP).1
  have hRP : hz_RP w (gm f) ny ns nz np := ⟨rfl, hP⟩
  obtain ⟨l1, l2, l3⟩ := hz_low3 (m1 := (fun _ => 0, fun q => if q = 5 then (hz_B (w.2.2.1 1) np).1 else f, 0)) hRP hk (show f 8 = nI np from hP.2.2.1.2.2.2) (fun j _ => rfl) (nI i)
  have hne : ¬ fX3_lowerOf w (nI i) = -1 := fun e => by
    unfold fX3_lowerOf at e
    have hfu : 14 < fuU 14 0 + 0 := by
      unfold fuU
      rw [show (14 : Int32).toInt = 14 from rfl, show (0 : Int32).toInt = 0 from rfl]
      omega
    have := hz_lowC (w := w) hk.1 (z := i) (by omega) (fuU 14 0) 0 0 (Nat.zero_le _) hfu (Nat.zero_le _) e
    have e0 : hz_cnt (hz_B (w.2.2.1 1) np).1 0 = 0 := rfl
    omega
  rw [← l1] at l3
  obtain ⟨j, q, j1, j2, j3, j4, j5⟩ := l3.resolve_left hne
  exact ⟨j, q, j3, j1, j2, j5, by rw [hk.1 j (by omega)]; exact j4⟩
theorem gp_at (h : KN w f ny ns nz np K) {i j q : Nat} (hj : fX3_lowerOf w (nI i) = nI j) (j1 : j < np) (e : w.2.1 3 j = nI q) : gpI w i = fX5_gapOf (w.2.2.1 1) (nI j) (nI q) := by
  have hn14 : np ≤ 14 := h.1.2.1.2.2.2
  unfold gpI
  rw [hj, hz_at _ (show j < 14 by omega) (by decide), e]
theorem gp_0 (h : KN w f ny ns nz np K) {i : Nat} (hi : i < K) : ¬ gpI w i ≤ -1 := by
  obtain ⟨j, q, j1, j2, j3, -, j5⟩ := pr_at h hi
  rw [gp_at h j1 j2 j5]
  have L := hz_gapR (m := gm f) h.1 j2 j3
  unfold hz_rg at L
  rw [hz_le]
  have : ((-1 : Int32)).toInt = -1 := rfl
  omega
theorem l_wp (h : KN w f ny ns nz np K) : ∀ (fu i : Nat) (x b : Int32), i ≤ K → K < fu + i → ((i = 0 ∧ x = -1 ∧ b = -1) ∨ ∃ c, c < i ∧ x = gpI w c ∧ b = nI c ∧ ∀ u, u < i → gpI w u ≤ gpI w c ∧ (gpI w u = gpI w c → c ≤ u)) → wpI w K (fX6_worstPair_10 w fu (nI i) x b).2.2 := by
  have hb7 : K ≤ 7 := by rw [← h.2.2.2]; exact (hz_Bn h.1).1
  intro fu
  induction fu with
  | zero => intro i x b h1 h2; omega
  | succ fu ih =>
    intro i x b hi hf I
    simp only [fX6_worstPair_10, h.2.1.2.1, h.2.2.2]
    by_cases c : nI K ≤ nI i
    · rw [if_pos c]
      rw [nI_leI (by omega) (by omega)] at c
      have e : i = K := by omega
      subst e
      rcases I with ⟨a1, -, a3⟩ | ⟨d, d1, -, d3, d4⟩
      · exact Or.inl ⟨a1, a3⟩
      · exact Or.inr ⟨d, d1, d3, d4⟩
    · have hi : i < K := hz_c hi (by omega) c
      rw [if_neg c, ← nI_succ]
      show wpI w K (if gpI w i ≤ x then fX6_worstPair_10 w fu (nI (i + 1)) x b else fX6_worstPair_10 w fu (nI (i + 1)) (gpI w i) (nI i)).2.2
      by_cases c2 : gpI w i ≤ x
      · rw [if_pos c2]
        refine ih (i + 1) x b hi (by omega) ?_
        rcases I with ⟨-, a2, -⟩ | ⟨d, d1, d2, d3, d4⟩
        · rw [a2] at c2; exact absurd c2 (gp_0 h hi)
        · refine Or.inr ⟨d, by omega, d2, d3, fun u hu => ?_⟩
          by_cases eu : u = i
          · rw [eu]; rw [d2] at c2; exact ⟨c2, fun _ => by omega⟩
          · exact d4 u (by omega)
      · rw [if_neg c2]
        refine ih (i + 1) (gpI w i) (nI i) hi (by omega) (Or.inr ⟨i, by omega, rfl, rfl, fun u hu => ?_⟩)
        by_cases eu : u = i
        · rw [eu]; exact ⟨Int32.le_refl _, fun _ => Nat.le_refl _⟩
        · rcases I with ⟨a1, -, -⟩ | ⟨d, d1, d2, d3, d4⟩
          · omega
          · rw [d2] at c2
            have l1 := (d4 u (by omega)).1
            rw [hz_le] at c2 l1 ⊢
            exact ⟨by omega, fun e => by rw [e] at l1; omega⟩
theorem kn_fp (h : ¬ w.1 13 = 0) : fX6_findPairs w = w := by
  unfold fX6_findPairs
  rw [if_neg h]
/-- worstPair -/
theorem o_wp (h : CI n w f ny ns nz np) (hn : n ≤ 1000000) (hK : KF f np K) : ∃ x w1, fX6_worstPair w = (x, w1) ∧ wpI w1 K x ∧ CI (n + 1) w1 f ny ns nz np ∧ KN w1 f ny ns nz np K := by
  obtain ⟨w1, e1, e2, e3, e4, e5, e6, e7⟩ := o_pc h hn hK
  have ew : fX6_findPairs w = w1 := by
    unfold fX6_pairCount at e1
    simp only [bnd] at e1
    exact congrArg Prod.snd e1
  have hkn : KN w1 f ny ns nz np K := ⟨e3.1, by rw [e7]; exact e6, e5, hK _ _ _ _ e3.1⟩
  have L := l_wp hkn (fuU (nI K) 0) 0 (-1) (-1) (Nat.zero_le _) (by rw [hz_fuU (by omega)]; omega) (Or.inl ⟨rfl, rfl, rfl⟩)
  rw [nI_0] at L
  refine ⟨_, w1, ?_, L, e3, hkn⟩
  unfold fX6_worstPair
  simp only [bnd, ew]
  rw [hkn.2.1.2.1, hkn.2.2.2]
/-- pairCount, pair, gap: the pairs being known -/
theorem o_kc (h : KN w f ny ns nz np K) : fX6_pairCount w = (nI K, w) := by
  unfold fX6_pairCount
  simp only [bnd]
  rw [kn_fp h.2.2.1, h.2.1.2.1, h.2.2.2]
theorem o_kp (h : KN w f ny ns nz np K) {i : Nat} (hi : i < K) : ∃ j q, fX6_pair w (nI i) = (nI (16 * j + q), w) ∧ j < 14 ∧ q < 14 ∧ fX6_gap w (nI j) (nI q) = gpI w i := by
  have hb7 : K ≤ 7 := by rw [← h.2.2.2]; exact (hz_Bn h.1).1
  have hn14 : np ≤ 14 := h.1.2.1.2.2.2
  obtain ⟨j, q, j1, j2, j3, j4, j5⟩ := pr_at h hi
  have hRP : hz_RP w (gm f) ny ns nz np := ⟨rfl, h.1⟩
  have ip : ∀ a, a < np → ¬ fX6_isPiece w (nI a) = 0 := fun a ha => by
    rw [(hz_pz hRP (nI a)).2.2]
    unfold hz_is
    rw [if_neg (nI_pos (by omega)), if_neg (by rw [nI_leI (by omega) (by omega)]; omega)]
    decide
  refine ⟨j, q, ?_, by omega, by omega, ?_⟩
  · unfold fX6_pair
    simp only [bnd]
    rw [if_pos (show (0 : Int32) ≤ nI i from nI_pos' (by omega)), kn_fp h.2.2.1, j1, if_neg (show ¬ nI j = -1 from fun e => absurd (show nI j < 0 by rw [e]; decide) (nI_pos (by omega))), hz_at _ (show j < 14 by omega) (by decide), j5]
    rw [m_16 j (by omega), nI_add]
  · unfold fX6_gap fX6_areTwoPieces
    rw [if_neg (ip j j2), if_neg (ip q j3), if_neg (show ¬ nI j = nI q from fun e => by rw [nI_eq (by omega) (by omega)] at e; omega), if_neg (by decide)]
    exact (gp_at h j1 j2 j5).symm
end WRS
