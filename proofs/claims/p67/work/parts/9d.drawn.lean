/-! The drawn plant may be written and read again. -/
theorem vn_I {a lo hi : Nat} (h1 : lo ≤ a) (h2 : a ≤ hi) (h3 : hi < 100000) : vN (nI a) lo hi := by
  unfold vN
  rw [nI_clamp (by omega)]
  exact ⟨h1, h2, rfl⟩
theorem nl_y : ∀ i, i < 2 → nmB (nI (801 + i)) = nmW [25, 1 + i] ∧ nI (801 + i) = nI (hz_e5 [25, 1 + i]) ∧ ∀ k, k ∈ kwL → ¬ nmW [25, 1 + i] = k := by decide +kernel
theorem nl_s : ∀ i, i < 3 → nmB (nI (609 + i)) = nmW [19, 1 + i] ∧ nI (609 + i) = nI (hz_e5 [19, 1 + i]) ∧ ∀ k, k ∈ kwL → ¬ nmW [19, 1 + i] = k := by decide +kernel
theorem nl_z0 : nmB (nI 20350348) = nmW [19, 13, 1, 12, 12] ∧ nI 20350348 = nI (hz_e5 [19, 13, 1, 12, 12]) ∧ ∀ k, k ∈ kwL → ¬ nmW [19, 13, 1, 12, 12] = k := by decide +kernel
theorem nl_z1 : nmB (nI 12634341) = nmW [12, 1, 18, 7, 5] ∧ nI 12634341 = nI (hz_e5 [12, 1, 18, 7, 5]) ∧ ∀ k, k ∈ kwL → ¬ nmW [12, 1, 18, 7, 5] = k := by decide +kernel
theorem nmL2 {a b : Nat} (ha : 1 ≤ a ∧ a ≤ 26) (hb : 1 ≤ b ∧ b ≤ 26) : hz_nmL [a, b] := by
  refine ⟨by show 1 ≤ 2; decide, by show 2 ≤ 6; decide, fun c hc => ?_⟩
  rcases List.mem_cons.mp hc with rfl | hc
  · exact ha
  · rw [List.mem_singleton.mp hc]; exact hb
theorem vt_ps (G : GM) : VT (Ps G) (1 + dw G 2 2) (1 + dw G 1 3) 2 (dw G 0 9) := by
  have n2 := dw_lt G 2 (n := 2) (by decide)
  have n1 := dw_lt G 1 (n := 3) (by decide)
  have n0 := dw_lt G 0 (n := 9) (by decide)
  have e4 := dw_lt G 4 (n := 60) (by decide)
  have e5 := dw_lt G 5 (n := 9) (by decide)
  have e6 := dw_lt G 6 (n := 3) (by decide)
  have e7 := dw_lt G 7 (n := 100) (by decide)
  have e8 := dw_lt G 8 (n := 100) (by decide)
  have e3 := stD_le G
  refine ⟨⟨by omega, by omega, by decide, by omega⟩, ⟨vn_I (by omega) (by omega) (by decide), vn_I (by omega) (by omega) (by decide), vn_I (by omega) (by omega) (by decide), vn_I (by omega) (by omega) (by decide), rfl⟩, fun i hi => ?_, fun i hi => ?_, fun i hi => ?_, fun i hi => ?_⟩
  · obtain ⟨a, b, c⟩ := nl_y i (by omega)
    have d1 := dw_lt G (14 + i) (n := 60) (by decide)
    have d2 := dw_lt G (17 + i) (n := 51) (by decide)
    refine ⟨⟨[25, 1 + i], nmL2 (by decide) (by omega), b, a, c⟩, fun j hj e => ?_, vn_I (a := 1 + dw G (14 + i) 60) (by omega) (by omega) (by decide), vn_I (a := dw G (17 + i) 51) (by omega) (by omega) (by decide)⟩
    have := hz_nIi (by omega) (by omega) (show nI (801 + j) = nI (801 + i) from e)
    omega
  · obtain ⟨a, b, c⟩ := nl_s i (by omega)
    have d1 := dw_lt G (10 + i) (n := 300) (by decide)
    refine ⟨⟨[19, 1 + i], nmL2 (by decide) (by omega), b, a, c⟩, fun j hj e => ?_, vn_I (a := 700 + dw G (10 + i) 300) (by omega) (by omega) (by decide)⟩
    have := hz_nIi (by omega) (by omega) (show nI (609 + j) = nI (609 + i) from e)
    omega
  · rcases (show i = 0 ∨ i = 1 by omega) with rfl | rfl
    · obtain ⟨a, b, c⟩ := nl_z0
      refine ⟨⟨[19, 13, 1, 12, 12], ⟨by decide, by decide, by decide⟩, b, a, c⟩, fun j hj => absurd hj (Nat.not_lt_zero j), vn_I (a := 500) (by decide) (by decide) (by decide), ?_⟩
      rw [show ((Ps G).2 6 0).toNatClampNeg = 500 from nI_clamp (by decide)]
      exact vn_I (a := 700 + dw G 7 100) (by omega) (by omega) (by decide)
    · obtain ⟨a, b, c⟩ := nl_z1
      refine ⟨⟨[12, 1, 18, 7, 5], ⟨by decide, by decide, by decide⟩, b, a, c⟩, fun j hj e => ?_, vn_I (a := 700 + dw G 8 100) (by omega) (by omega) (by decide), ?_⟩
      · rw [show j = 0 by omega] at e
        exact absurd e (by decide : ¬ nI 20350348 = nI 12634341)
      · rw [show ((Ps G).2 6 1).toNatClampNeg = 700 + dw G 8 100 from nI_clamp (by omega)]
        exact vn_I (a := 9999) (by omega) (by decide) (by decide)
  · have d0 := dw_lt G (30 + 4 * i) (n := 1 + dw G 2 2) (by omega)
    have d2 := dw_lt G (32 + 4 * i) (n := 60) (by decide)
    have d3 := dw_lt G (33 + 4 * i) (n := 12) (by decide)
    exact ⟨⟨dw G (30 + 4 * i) (1 + dw G 2 2), d0, rfl⟩, ⟨dw G (31 + 4 * i) 4 % 3, Nat.mod_lt _ (by decide), rfl⟩, vn_I (a := 650 + dw G (32 + 4 * i) 60) (by omega) (by omega) (by decide), rfl, vn_I (a := 100 + dw G (33 + 4 * i) 12) (by omega) (by omega) (by decide), rfl⟩
/-! what a plant's text needs of it -/
theorem wt_c {p D : Pl} {ny ns nz np : Nat} (hV : VT p ny ns nz np) (h : AG p D ny ns nz np) : wtB D ny ns nz np = wtB p ny ns nz np := by
  obtain ⟨-, ⟨s3, s4, s5, s6, s7⟩, gy, gs, gz, gp⟩ := h
  obtain ⟨⟨vn, -, -, -⟩, -, -, -, -, vp⟩ := hV
  unfold wtB ctB
  rw [show hdB D = hdB p by unfold hdB; rw [s3, s4, s5, s6], fm_c ny 0 (fun i h1 h2 => show yB D i = yB p i by obtain ⟨a, b, c⟩ := gy i (by omega); unfold yB; rw [a, b, c]), fm_c ns 0 (fun i h1 h2 => show sB D i = sB p i by obtain ⟨a, b⟩ := gs i (by omega); unfold sB; rw [a, b]), fm_c nz 0 (fun i h1 h2 => show zB D i = zB p i by obtain ⟨a, b, c⟩ := gz i (by omega); unfold zB; rw [a, b, c]), fm_c np 0 (fun i h1 h2 => show pcB D i = pcB p i by
    obtain ⟨a, b, c, -, d, -⟩ := gp i (by omega)
    obtain ⟨⟨y, y1, y2⟩, -⟩ := vp i (by omega)
    unfold pcB
    rw [a, b, c, d, y2, nI_clamp (by omega), (gy y y1).1])]
