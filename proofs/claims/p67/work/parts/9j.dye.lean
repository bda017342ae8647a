/-! Dyeing, the best shade. -/
section DYE
variable {w w1 : Wd} {f g : Nat → Int32} {ny ns nz np n k : Nat} {p : Pl}
/-- the row when piece k has the shade t -/
def gTn (f : Nat → Int32) (k t : Nat) : Nat → Int32 := upd f (66 + 6 * k) (nI t)
theorem sh_pr (hP : hz_PR p f ny ns nz np) (hk : k < np) {t : Nat} (ht : t ≤ 255) : hz_PR (hz_q p k t) (gTn f k t) ny ns nz np := hz_u12 hP hk (by unfold hz_rg; rw [nI_toInt (by omega)]; omega)
theorem ks_kp (hP : hz_PR p f ny ns nz np) (hk : k < np) {t : Nat} (ht : t ≤ 255) : kp (hz_q p k t) np = hz_Ks p np k t := by
  have a := (hz_KsV hP hk ht).2
  have b := (kp_K (sh_pr hP hk ht)).2
  rw [a] at b
  omega
theorem ks_kf (hP : hz_PR p f ny ns nz np) (hk : k < np) {t : Nat} (ht : t ≤ 255) : KF (gTn f k t) np (hz_Ks p np k t) := by
  rw [← ks_kp hP hk ht]
  exact kf_i (sh_pr hP hk ht)
theorem ks_7 (hP : hz_PR p f ny ns nz np) (hk : k < np) {t : Nat} (ht : t ≤ 255) : hz_Ks p np k t ≤ 7 := (hz_KsV hP hk ht).1
theorem kf_u {K J : Nat} (hP : hz_PR p f ny ns nz np) (a : KF f np K) (b : KF f np J) : K = J := by rw [← a _ _ _ _ hP, b _ _ _ _ hP]
theorem pr_sh (hP : hz_PR p f ny ns nz np) (hk : k < np) : f (66 + 6 * k) = p.2 12 k ∧ ∃ s, s ≤ 255 ∧ p.2 12 k = nI s := by
  obtain ⟨⟨-, -, -, -, a, -⟩, -, -, -, -, b, -⟩ := hP.2.2.2.2.2.2.2.2 k hk
  obtain ⟨s, -, s1, s2⟩ := hz_rgN b (by decide)
  exact ⟨a, s, s1, s2⟩
theorem is_pc (h : CI n w f ny ns nz np) (hk : k < np) : ¬ fX6_isPiece w (nI k) = 0 := by
  have hn : np ≤ 14 := h.1.2.1.2.2.2
  have hRP : hz_RP w (gm f) ny ns nz np := ⟨rfl, h.1⟩
  rw [(hz_pz hRP (nI k)).2.2]
  unfold hz_is
  rw [if_neg (nI_pos (by omega)), if_neg (by rw [nI_leI (by omega) (by omega)]; omega)]
  decide
/-- shade, state -/
theorem o_sd (h : CI n w f ny ns nz np) (hk : k < np) : fX6_shade w (nI k) = f (66 + 6 * k) := by
  have hn : np ≤ 14 := h.1.2.1.2.2.2
  unfold fX6_shade
  rw [if_neg (is_pc h hk), hz_at _ (show k < 14 by omega) (by decide)]
  exact (pr_sh h.1 hk).1.symm
theorem o_sa (h : CI n w f ny ns nz np) (hk : k < np) : fX6_state w (nI k) = f (67 + 6 * k) := by
  have hn : np ≤ 14 := h.1.2.1.2.2.2
  unfold fX6_state
  rw [if_neg (is_pc h hk), hz_at _ (show k < 14 by omega) (by decide)]
  exact (pr_st h.1 hk).symm
/-- dye -/
theorem o_de (h : CI n w f ny ns nz np) (hk : k < np) (h3 : ¬ f (67 + 6 * k) = 3) {t : Nat} (ht : t ≤ 255) : ∃ w1, fX6_dye w (nI k) (nI t) = (f (66 + 6 * k), w1) ∧ CI n w1 (gTn f k t) ny ns nz np := by
  have hn : np ≤ 14 := h.1.2.1.2.2.2
  have e12 : fX6_at 14 ((w.2.2.1 1).2 12) (nI k) = f (66 + 6 * k) := by rw [hz_at _ (show k < 14 by omega) (by decide)]; exact (pr_sh h.1 hk).1.symm
  have e13 : fX6_at 14 ((w.2.2.1 1).2 13) (nI k) = f (67 + 6 * k) := by rw [hz_at _ (show k < 14 by omega) (by decide)]; exact (pr_st h.1 hk).symm
  unfold fX6_dye
  simp only [bnd]
  rw [if_neg (is_pc h hk), if_neg (show ¬ fX6_isBetween (nI t) 0 255 = 0 from btw_0c ht (by decide)), e13, e12, if_neg h3, bc_1 h]
  by_cases c : f (66 + 6 * k) = nI t
  · rw [if_pos c]
    exact ⟨w, rfl, by unfold gTn; rw [upd_id f _ c]; exact h⟩
  · rw [if_neg c]
    exact ⟨_, rfl, (ci_ch h (sh_pr h.1 hk ht)).1⟩
theorem ib_1 (h : CI n w f ny ns nz np) (hk : k < np) : (fX5_isBoarded (w.2.2.1 1) (nI k) = 0 ↔ ¬ f (67 + 6 * k) = 1) := by
  have hn : np ≤ 14 := h.1.2.1.2.2.2
  unfold fX5_isBoarded
  rw [hz_at _ (show k < 14 by omega) (by decide), ← pr_st h.1 hk]
  by_cases c : f (67 + 6 * k) = 1
  · rw [if_pos c]
    exact ⟨fun e => absurd e (by decide), fun e => absurd c e⟩
  · rw [if_neg c]
    exact ⟨fun _ => c, fun _ => rfl⟩
/-- bestDye -/
theorem o_bx (h : CI n w f ny ns nz np) (hk : k < np) (h1 : ¬ f (67 + 6 * k) = 1) : fX6_bestDye w (nI k) = (-6, w) := by
  rw [hz_bD6 w (nI k) _ rfl, if_neg (is_pc h hk), if_pos ((ib_1 h hk).mpr h1)]
theorem o_by (h : CI n w f ny ns nz np) (hn : n ≤ 900) (hk : k < np) (h1 : f (67 + 6 * k) = 1) {now : Nat} (hw : now ≤ 255) (hf : f (66 + 6 * k) = nI now) : ∃ b w1 K, fX6_bestDye w (nI k) = (nI b, w1) ∧ hz_bs K now (fun t => t < 256) b ∧ (∀ t, t ≤ 255 → KF (gTn f k t) np (K t) ∧ K t ≤ 7) ∧ CI (n + 1) w1 f ny ns nz np := by
  have hn14 : np ≤ 14 := h.1.2.1.2.2.2
  have e12 : fX6_at 14 ((w.2.2.1 1).2 12) (nI k) = nI now := by rw [hz_at _ (show k < 14 by omega) (by decide), ← hf]; exact (pr_sh h.1 hk).1.symm
  obtain ⟨r, r1, r2⟩ := h.2.1
  have hRP : hz_RP w (gm f) ny ns nz np := ⟨rfl, h.1⟩
  have hfuC : 256 < fuL 255 0 + 0 := by
    unfold fuL
    rw [show (255 : Int32).toInt = 255 from rfl, show (0 : Int32).toInt = 0 from rfl]
    omega
  obtain ⟨X, hX, b, b1, b2, b3, r3, b4, b5⟩ := hz_bD9 hRP hk hw hfuC (show r ≤ 1000000 by omega) r2
  refine ⟨b, X.2.2.2.2.2, hz_Ks (w.2.2.1 1) np k, ?_, b1, fun t ht => ⟨ks_kf h.1 hk ht, ks_7 h.1 hk ht⟩, ci_skp h b3 (r1 := r3) (by omega) b5⟩
  rw [hz_bD6 w (nI k) _ rfl, if_neg (is_pc h hk), if_neg (fun e => absurd h1 ((ib_1 h hk).mp e)), e12, ← hX, b2]
end DYE
