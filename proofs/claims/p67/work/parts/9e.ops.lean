/-! What the class answers, in terms of its plant: f is the plant's row of numbers. -/
def gm (f : Nat → Int32) : Md := (fun _ => 0, fun _ => f, 0)
/-- the plant's row behind boarding all on s, behind a day -/
def gBx (f : Nat → Int32) (s : Nat) : Nat → Int32 := (fX7_putAll (gm f) (nI s)).2.2.1 0
def gDy (f : Nat → Int32) : Nat → Int32 := (fX7_pass (gm f)).2.2.1 0
def kp (p : Pl) (np : Nat) : Nat := (hz_B p np).2.1
/-- plants with this row have K pairs -/
def KF (f : Nat → Int32) (np K : Nat) : Prop := ∀ p ny ns nz, hz_PR p f ny ns nz np → kp p np = K
section OPS
variable {p q : Pl} {f : Nat → Int32} {ny ns nz np : Nat}
theorem b_pr (hP : hz_PR p f ny ns nz np) {s : Nat} (hs : s < ns) : hz_PR (fX5_boardRaw p (nI s)).2 (gBx f s) ny ns nz np := (hz_putA (m := gm f) hP hs).2.2.1
theorem b_an (hP : hz_PR p f ny ns nz np) {s : Nat} (hs : s < ns) : (fX5_boardRaw p (nI s)).1 = (fX7_putAll (gm f) (nI s)).1 := (hz_putA (m := gm f) hP hs).2.1.symm
theorem d_pr (hP : hz_PR p f ny ns nz np) : hz_PR (fX5_passDay p).2 (gDy f) ny ns nz np := (hz_day (m := gm f) hP).2.2.1
theorem kp_K (hP : hz_PR p f ny ns nz np) : kp p np ≤ 7 ∧ hz_W (hz_A p np) (fun _ _ => 0) (hz_aS np) = 100000 * (kp p np : Int) := by
  obtain ⟨K, k7, k1, k2, k3⟩ := hz_K hP (hz_aS np)
  have e := hz_KB hP k7 k2 k3
  unfold kp
  rw [← e]
  exact ⟨k7, k1⟩
theorem kp_f {ny1 ns1 nz1 : Nat} (hP : hz_PR p f ny ns nz np) (hQ : hz_PR q f ny1 ns1 nz1 np) : kp p np = kp q np := by
  have a := (kp_K hP).2
  have b := (kp_K hQ).2
  rw [(hz_Af hP hQ).1] at a
  rw [a] at b
  omega
theorem kf_i (hP : hz_PR p f ny ns nz np) : KF f np (kp p np) := fun q ny1 ns1 nz1 hQ => kp_f hQ hP
/-- the plants that are kept -/
def HI (w : Wd) : Prop := ∃ cnt old : Nat, cnt ≤ 10 ∧ old < 10 ∧ w.1 11 = nI cnt ∧ w.1 12 = nI old ∧ ∀ i, i < cnt → ∃ g a b c d, hz_PR (w.2.2.1 (3 + (old + i) % 10)) g a b c d
/-- an object whose plant's row is f, after at most n questions -/
def CI (n : Nat) (w : Wd) (f : Nat → Int32) (ny ns nz np : Nat) : Prop := hz_PR (w.2.2.1 1) f ny ns nz np ∧ (∃ r, r ≤ 1000 * n ∧ hz_mo w r) ∧ hz_RK w np ∧ HI w ∧ ∃ L, L ≤ 1200 ∧ w.1 0 = nI L
variable {w w1 : Wd} {n : Nat}
theorem ci_up {m : Nat} (h : CI n w f ny ns nz np) (hm : n ≤ m) : CI m w f ny ns nz np := by
  obtain ⟨a, ⟨r, b, c⟩, d⟩ := h
  exact ⟨a, ⟨r, by omega, c⟩, d⟩
theorem hi_sk (h : HI w) (hk : hz_sk w w1) : HI w1 := by
  obtain ⟨cnt, old, a1, a2, a3, a4, a5⟩ := h
  refine ⟨cnt, old, a1, a2, (hk.1 11 (by decide) (by decide) (by decide)).trans a3, (hk.1 12 (by decide) (by decide) (by decide)).trans a4, fun i hi => ?_⟩
  rw [hk.2.2.1 _ (by omega)]
  exact a5 i hi
theorem ci_sk (h : CI n w f ny ns nz np) (hk : hz_sk w w1) {r1 : Nat} (hr : r1 ≤ 1000 * (n + 1)) (hm : hz_mo w1 r1) (hK : hz_RK w1 np) : CI (n + 1) w1 f ny ns nz np := by
  obtain ⟨a, -, -, c, L, d1, d2⟩ := h
  refine ⟨by rw [hk.2.2.1 1 (by decide)]; exact a, ⟨r1, hr, hm⟩, hK, hi_sk c hk, L, d1, (hk.1 0 (by decide) (by decide) (by decide)).trans d2⟩
theorem skp_sk (h : hz_skp w w1) : hz_sk w w1 := ⟨fun q _ _ _ => by rw [h.1], fun q h1 h2 h3 => h.2.1 q h1 h2, h.2.2.1, h.2.2.2⟩
theorem rk_skp (h : hz_RK w np) (hk : hz_skp w w1) : hz_RK w1 np := by
  rcases h with h | ⟨h1, h2, h3, h4⟩
  · exact Or.inl (by rw [hk.1]; exact h)
  · refine Or.inr ⟨by rw [hk.1]; exact h1, ?_⟩
    rw [hk.2.2.1 1 (by decide)]
    exact ⟨fun j hj => by rw [hk.2.1 3 (by decide) (by decide)]; exact h2 j hj, by rw [hk.1]; exact h3, by rw [hk.1]; exact h4⟩
theorem ci_skp (h : CI n w f ny ns nz np) (hk : hz_skp w w1) {r1 : Nat} (hr : r1 ≤ 1000 * (n + 1)) (hm : hz_mo w1 r1) : CI (n + 1) w1 f ny ns nz np := ci_sk h (skp_sk hk) hr hm (rk_skp h.2.2.1 hk)
theorem fp_13 (e : fX6_findPairs w = w1) : ¬ w1.1 13 = 0 := by
  unfold fX6_findPairs at e
  by_cases c : w.1 13 = 0
  · rw [if_pos c] at e
    rw [← e]
    show ¬ (1 : Int32) = 0
    decide
  · rw [if_neg c] at e
    rw [← e]
    exact c
/-- pairCount -/
theorem o_pc (h : CI n w f ny ns nz np) (hn : n ≤ 1000000) {K : Nat} (hK : KF f np K) : ∃ w1, fX6_pairCount w = (nI K, w1) ∧ K ≤ 7 ∧ CI (n + 1) w1 f ny ns nz np ∧ hz_sk w w1 ∧ ¬ w1.1 13 = 0 ∧ hz_kn w1 (w.2.2.1 1) np ∧ w1.2.2.1 = w.2.2.1 := by
  obtain ⟨r, r1, r2⟩ := h.2.1
  have hRP : hz_RP w (gm f) ny ns nz np := ⟨rfl, h.1⟩
  obtain ⟨w1, rr, e, k, rk, b1, b2, b3, b4⟩ := hz_fp hRP (by omega) r2 h.2.2.1
  have eK := hK _ _ _ _ h.1
  refine ⟨w1, ?_, by rw [← eK]; exact (kp_K h.1).1, ci_sk h b3 (by omega) b2 rk, b3, ?_, k, b4⟩
  · unfold fX6_pairCount
    simp only [bnd]
    rw [e, k.2.1, ← eK]
    rfl
  · exact fp_13 e
/-- pairs on the trial plant -/
theorem o_mp (hP : hz_PR (w.2.2.1 2) f ny ns nz np) {r : Nat} (hr : r + 1 < 2 ^ 40) (hmo : hz_mo w r) {K : Nat} (hK : KF f np K) : ∃ w1, fX2_mostPairs_37 w = (nI K, w1) ∧ K ≤ 7 ∧ hz_mt (fun k => k = 1 ∨ k = 2) w w1 ∧ hz_mo w1 (r + 1) := by
  obtain ⟨k7, k1⟩ := kp_K hP
  rw [hK _ _ _ _ hP] at k7 k1
  obtain ⟨w1, e1, e2, e3⟩ := hz_most hP (w := w) rfl hr hmo k1 k7
  exact ⟨w1, e1, k7, e2, e3⟩
theorem skp_mt {w0 : Wd} (h : hz_skp w0 w) (hm : hz_mt (fun k => k = 1 ∨ k = 2) w w1) : hz_skp w0 w1 := ⟨hm.1.trans h.1, fun q h1 h2 => (hm.2.1 q (by omega)).trans (h.2.1 q h1 h2), fun q hq => by rw [hm.2.2.1]; exact h.2.2.1 q hq, hm.2.2.2.trans h.2.2.2⟩
theorem mo_P {r : Nat} (h : hz_mo w r) (k : Nat) (p : Pl) : hz_mo (wP w k p) r := h
/-- settings -/
theorem st_pr (hP : hz_PR p f ny ns nz np) {g : Nat} (hg : g ≤ 100) : hz_PR (upS p 5 (nI g)) (upd f 2 (nI g)) ny ns nz np := by
  have hr : hz_rg 0 100 (nI g) := by unfold hz_rg; rw [nI_toInt (by omega)]; omega
  refine hz_uset hP (fun k hk hn => if_neg (by omega)) rfl (fun j hj => pk_un (by omega)) ⟨?_, ?_, ?_, ?_, ?_⟩ ⟨hP.2.2.2.2.1.1, hP.2.2.2.2.1.2.1, hr, hP.2.2.2.2.1.2.2.2⟩
  · rw [pk_un (by decide)]; exact hP.2.2.2.1.1
  · rw [pk_un (by decide)]; exact hP.2.2.2.1.2.1
  · rw [pk_us]; rfl
  · rw [pk_un (by decide)]; exact hP.2.2.2.1.2.2.2.1
  · rw [pk_un (by decide)]; exact hP.2.2.2.1.2.2.2.2
theorem cp_pr (hP : hz_PR p f ny ns nz np) (q : Pl) : hz_PR (fX5_copyFrom q p) f ny ns nz np := hz_cp hP (fun _ _ => rfl)
/-- pairs if all raw pieces are boarded, with strength g -/
theorem o_on (h : CI n w f ny ns nz np) {r : Nat} (hr : r + 1 < 2 ^ 40) {y : Wd} (hk : hz_skp w y) (hmo : hz_mo y r) {s g : Nat} (hs : s < ns) (hg : g ≤ 100) {K : Nat} (hK : KF (gBx (upd f 2 (nI g)) s) np K) : ∃ y1, fX6_pairsIfBoarded y (nI s) (nI g) = (nI K, y1) ∧ K ≤ 7 ∧ hz_skp w y1 ∧ hz_mo y1 (r + 1) := by
  have hP1 : hz_PR (y.2.2.1 1) f ny ns nz np := by rw [hk.2.2.1 1 (by decide)]; exact h.1
  have hP2 := st_pr (cp_pr hP1 (y.2.2.1 2)) hg
  have hP3 := b_pr hP2 hs
  obtain ⟨y1, e1, e3, e4, e5⟩ := o_mp (w := wP (wP (wP y 2 (fX5_copyFrom (y.2.2.1 2) (y.2.2.1 1))) 2 (upS (fX5_copyFrom (y.2.2.1 2) (y.2.2.1 1)) 5 (nI g))) 2 (fX5_boardRaw (upS (fX5_copyFrom (y.2.2.1 2) (y.2.2.1 1)) 5 (nI g)) (nI s)).2) hP3 hr hmo hK
  refine ⟨y1, ?_, e3, skp_mt (hz_skpT (hz_skpT (hz_skpT hk (hz_skpP _ _)) (hz_skpP _ _)) (hz_skpP _ _)) e4, e5⟩
  have e0 : fX6_pairsIfBoarded y (nI s) (nI g) = ((fX2_mostPairs_37 (wP (wP (wP y 2 (fX5_copyFrom (y.2.2.1 2) (y.2.2.1 1))) 2 (upS (fX5_copyFrom (y.2.2.1 2) (y.2.2.1 1)) 5 (nI g))) 2 (fX5_boardRaw (upS (fX5_copyFrom (y.2.2.1 2) (y.2.2.1 1)) 5 (nI g)) (nI s)).2)).1, (fX2_mostPairs_37 (wP (wP (wP y 2 (fX5_copyFrom (y.2.2.1 2) (y.2.2.1 1))) 2 (upS (fX5_copyFrom (y.2.2.1 2) (y.2.2.1 1)) 5 (nI g))) 2 (fX5_boardRaw (upS (fX5_copyFrom (y.2.2.1 2) (y.2.2.1 1)) 5 (nI g)) (nI s)).2)).2) := rfl
  rw [e0, e1]
/-- pairs within these tolerances -/
theorem tl_pr (hP : hz_PR p f ny ns nz np) {a b : Nat} (ha : a ≤ 500) (hb : b ≤ 255) : hz_PR (upS (upS p 3 (nI a)) 4 (nI b)) (upd (upd f 0 (nI a)) 1 (nI b)) ny ns nz np := hz_tolP hP (by unfold hz_rg; rw [nI_toInt (by omega)]; omega) (by unfold hz_rg; rw [nI_toInt (by omega)]; omega)
theorem o_wi (h : CI n w f ny ns nz np) {r : Nat} (hr : r + 1 < 2 ^ 40) {y : Wd} (hk : hz_skp w y) (hmo : hz_mo y r) {a b : Nat} (ha : a ≤ 500) (hb : b ≤ 255) {K : Nat} (hK : KF (upd (upd f 0 (nI a)) 1 (nI b)) np K) : ∃ y1, fX6_pairsWithin y (nI a) (nI b) = (nI K, y1) ∧ K ≤ 7 ∧ hz_skp w y1 ∧ hz_mo y1 (r + 1) := by
  have hP1 : hz_PR (y.2.2.1 1) f ny ns nz np := by rw [hk.2.2.1 1 (by decide)]; exact h.1
  have hP2 := tl_pr (cp_pr hP1 (y.2.2.1 2)) ha hb
  obtain ⟨Z, hZ⟩ : ∃ Z, wP (wP (wP y 2 (fX5_copyFrom (y.2.2.1 2) (y.2.2.1 1))) 2 (upS (fX5_copyFrom (y.2.2.1 2) (y.2.2.1 1)) 3 (nI a))) 2 (upS (upS (fX5_copyFrom (y.2.2.1 2) (y.2.2.1 1)) 3 (nI a)) 4 (nI b)) = Z := ⟨_, rfl⟩
  have hZP : hz_PR (Z.2.2.1 2) (upd (upd f 0 (nI a)) 1 (nI b)) ny ns nz np := by rw [← hZ]; exact hP2
  have hZm : hz_mo Z r := by rw [← hZ]; exact hmo
  have hZk : hz_skp w Z := by rw [← hZ]; exact hz_skpT (hz_skpT (hz_skpT hk (hz_skpP _ _)) (hz_skpP _ _)) (hz_skpP _ _)
  obtain ⟨y1, e1, e3, e4, e5⟩ := o_mp hZP hr hZm hK
  refine ⟨y1, ?_, e3, skp_mt hZk e4, e5⟩
  have e0 : fX6_pairsWithin y (nI a) (nI b) = ((fX2_mostPairs_37 Z).1, (fX2_mostPairs_37 Z).2) := by rw [← hZ]; rfl
  rw [e0, e1]
end OPS
