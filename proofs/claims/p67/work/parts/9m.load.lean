/-! Loading a plant's text: the plant's row is known from the text's plant. -/
noncomputable def nmI (x : Int32) : Int32 := @dite Int32 (∃ y, hz_nm x y) (Classical.propDecidable _) (fun h => Classical.choose h) (fun _ => 0)
theorem nmI_ok {x : Int32} (h : nmo x) : hz_nm x (nmI x) := by
  obtain ⟨L, h1, h2, -, -⟩ := h
  have e : ∃ y, hz_nm x y := ⟨_, L, h1, h2, rfl⟩
  unfold nmI
  rw [dif_pos e]
  exact Classical.choose_spec e
noncomputable def rowP (p : Pl) (ny ns nz np : Nat) : Nat → Int32 := fun j =>
  if j < 5 then p.1 (3 + j) else if j = 5 then nI ny else if j = 6 then nI ns else if j = 7 then nI nz else if j = 8 then nI np else if j < 10 then 0
  else if j < 28 then (if (j - 10) % 3 = 0 then nmI (p.2 0 ((j - 10) / 3)) else p.2 ((j - 10) % 3) ((j - 10) / 3))
  else if j < 44 then (if (j - 28) % 2 = 0 then nmI (p.2 3 ((j - 28) / 2)) else p.2 4 ((j - 28) / 2))
  else if j < 62 then (if (j - 44) % 3 = 0 then nmI (p.2 5 ((j - 44) / 3)) else p.2 (5 + (j - 44) % 3) ((j - 44) / 3))
  else p.2 (8 + (j - 62) % 6) ((j - 62) / 6)
section ROW
variable {p D : Pl} {ny ns nz np i r : Nat}
theorem rw_s {j : Nat} (h : j < 5) : rowP p ny ns nz np j = p.1 (3 + j) := if_pos h
theorem rw_y0 (hi : i < 6) : rowP p ny ns nz np (10 + 3 * i) = nmI (p.2 0 i) := by
  unfold rowP
  rw [if_neg (by omega), if_neg (by omega), if_neg (by omega), if_neg (by omega), if_neg (by omega), if_neg (by omega), if_pos (by omega), if_pos (by omega), show (10 + 3 * i - 10) / 3 = i by omega]
theorem rw_y (hi : i < 6) (h1 : 1 ≤ r) (h2 : r ≤ 2) : rowP p ny ns nz np (10 + r + 3 * i) = p.2 r i := by
  unfold rowP
  rw [if_neg (by omega), if_neg (by omega), if_neg (by omega), if_neg (by omega), if_neg (by omega), if_neg (by omega), if_pos (by omega), if_neg (by omega), show (10 + r + 3 * i - 10) / 3 = i by omega, show (10 + r + 3 * i - 10) % 3 = r by omega]
theorem rw_h0 (hi : i < 8) : rowP p ny ns nz np (28 + 2 * i) = nmI (p.2 3 i) := by
  unfold rowP
  rw [if_neg (by omega), if_neg (by omega), if_neg (by omega), if_neg (by omega), if_neg (by omega), if_neg (by omega), if_neg (by omega), if_pos (by omega), if_pos (by omega), show (28 + 2 * i - 28) / 2 = i by omega]
theorem rw_h1 (hi : i < 8) : rowP p ny ns nz np (29 + 2 * i) = p.2 4 i := by
  unfold rowP
  rw [if_neg (by omega), if_neg (by omega), if_neg (by omega), if_neg (by omega), if_neg (by omega), if_neg (by omega), if_neg (by omega), if_pos (by omega), if_neg (by omega), show (29 + 2 * i - 28) / 2 = i by omega]
theorem rw_z0 (hi : i < 6) : rowP p ny ns nz np (44 + 3 * i) = nmI (p.2 5 i) := by
  unfold rowP
  rw [if_neg (by omega), if_neg (by omega), if_neg (by omega), if_neg (by omega), if_neg (by omega), if_neg (by omega), if_neg (by omega), if_neg (by omega), if_pos (by omega), if_pos (by omega), show (44 + 3 * i - 44) / 3 = i by omega]
theorem rw_z (hi : i < 6) (h1 : 1 ≤ r) (h2 : r ≤ 2) : rowP p ny ns nz np (44 + r + 3 * i) = p.2 (5 + r) i := by
  unfold rowP
  rw [if_neg (by omega), if_neg (by omega), if_neg (by omega), if_neg (by omega), if_neg (by omega), if_neg (by omega), if_neg (by omega), if_neg (by omega), if_pos (by omega), if_neg (by omega), show (44 + r + 3 * i - 44) / 3 = i by omega, show (44 + r + 3 * i - 44) % 3 = r by omega]
theorem rw_p (h2 : r ≤ 5) : rowP p ny ns nz np (62 + r + 6 * i) = p.2 (8 + r) i := by
  unfold rowP
  rw [if_neg (by omega), if_neg (by omega), if_neg (by omega), if_neg (by omega), if_neg (by omega), if_neg (by omega), if_neg (by omega), if_neg (by omega), if_neg (by omega), show (62 + r + 6 * i - 62) / 6 = i by omega, show (62 + r + 6 * i - 62) % 6 = r by omega]
theorem vn_rg {x : Int32} {a b : Nat} (h : vN x a b) (hb : b < 100000) : hz_rg a b x := by
  obtain ⟨h1, h2, h3⟩ := h
  unfold hz_rg
  rw [h3, nI_toInt (by omega)]
  omega
theorem rg_up {x : Int32} {a b a1 b1 : Nat} (h : hz_rg a b x) (h1 : a1 ≤ a) (h2 : b ≤ b1) : hz_rg a1 b1 x := by
  unfold hz_rg at h ⊢
  omega
theorem ag_pr (hV : VT p ny ns nz np) (hA : AG p D ny ns nz np) : hz_PR D (rowP p ny ns nz np) ny ns nz np := by
  obtain ⟨hb, ⟨s3, s4, s5, s6, s7⟩, vy, vs, vz, vp⟩ := hV
  obtain ⟨c, ⟨g3, g4, g5, g6, g7⟩, gy, gs, gz, gp⟩ := hA
  obtain ⟨n1, n2, n3, n4⟩ := hb
  refine ⟨c, ⟨n1, n2, n3, n4⟩, ⟨rfl, rfl, rfl, rfl⟩, ⟨g3.symm, g4.symm, g5.symm, g6.symm, g7.symm⟩, ⟨?_, ?_, ?_, ?_⟩, fun i hi => ?_, fun i hi => ?_, fun i hi => ?_, fun i hi => ?_⟩
  · rw [g3]; exact vn_rg s3 (by decide)
  · rw [g4]; exact vn_rg s4 (by decide)
  · rw [g5]; exact vn_rg s5 (by decide)
  · rw [g6]; exact vn_rg s6 (by decide)
  · obtain ⟨a, b, c⟩ := gy i hi
    obtain ⟨x, -, y, z⟩ := vy i hi
    rw [a, b, c]
    exact ⟨by rw [rw_y0 (by omega)]; exact nmI_ok x, rw_y (r := 1) (by omega) (by decide) (by decide), rw_y (r := 2) (by omega) (by decide) (by decide), vn_rg y (by decide), vn_rg z (by decide)⟩
  · obtain ⟨a, b⟩ := gs i hi
    obtain ⟨x, -, y⟩ := vs i hi
    rw [a, b]
    exact ⟨by rw [rw_h0 (by omega)]; exact nmI_ok x, rw_h1 (by omega), vn_rg y (by decide)⟩
  · obtain ⟨a, b, c⟩ := gz i hi
    obtain ⟨x, -, y, z⟩ := vz i hi
    rw [a, b, c]
    exact ⟨by rw [rw_z0 (by omega)]; exact nmI_ok x, rw_z (r := 1) (by omega) (by decide) (by decide), rw_z (r := 2) (by omega) (by decide) (by decide), vn_rg y (by decide), rg_up (vn_rg z (by decide)) y.1 (Nat.le_refl _)⟩
  · obtain ⟨a8, a9, a10, a11, a12, a13⟩ := gp i hi
    obtain ⟨y, z, u, v, s, t⟩ := vp i hi
    rw [a8, a9, a10, a11, a12, a13]
    refine ⟨⟨rw_p (r := 0) (by decide), rw_p (r := 1) (by decide), rw_p (r := 2) (by decide), rw_p (r := 3) (by decide), rw_p (r := 4) (by decide), rw_p (r := 5) (by decide)⟩, y, z, vn_rg u (by decide), by rw [v]; exact vn_rg u (by decide), vn_rg s (by decide), 0, by decide, t⟩
theorem rw_raw (hV : VT p ny ns nz np) : RW (rowP p ny ns nz np) np := fun i hi => by
  rw [show 67 + 6 * i = 62 + 5 + 6 * i by omega, rw_p (r := 5) (by decide)]
  exact (hV.2.2.2.2.2 i hi).2.2.2.2.2
theorem ag_cp (hb : ny ≤ 6 ∧ ns ≤ 8 ∧ nz ≤ 6 ∧ np ≤ 14) (q : Pl) (h : AG p D ny ns nz np) : AG p (fX5_copyFrom q D) ny ns nz np := by
  obtain ⟨c1, c2⟩ := hz_copy q D
  obtain ⟨⟨e0, e1, e2, e8⟩, ⟨g3, g4, g5, g6, g7⟩, gy, gs, gz, gp⟩ := h
  have pl : ∀ r i, r < 14 → (r ≤ 2 → i < 6) → (3 ≤ r → r ≤ 4 → i < 8) → (5 ≤ r → r ≤ 7 → i < 6) → (8 ≤ r → i < 14) → (fX5_copyFrom q D).2 r i = D.2 r i := fun r i hr h1 h2 h3 h4 => c2 r i hr (by unfold plLen; split <;> (try split) <;> (try split) <;> omega)
  refine ⟨⟨(c1 0 (by decide)).trans e0, (c1 1 (by decide)).trans e1, (c1 2 (by decide)).trans e2, (c1 8 (by decide)).trans e8⟩, ⟨(c1 3 (by decide)).trans g3, (c1 4 (by decide)).trans g4, (c1 5 (by decide)).trans g5, (c1 6 (by decide)).trans g6, (c1 7 (by decide)).trans g7⟩, fun i hi => ?_, fun i hi => ?_, fun i hi => ?_, fun i hi => ?_⟩
  · rw [pl 0 i (by decide) (by omega) (by omega) (by omega) (by omega), pl 1 i (by decide) (by omega) (by omega) (by omega) (by omega), pl 2 i (by decide) (by omega) (by omega) (by omega) (by omega)]
    exact gy i hi
  · rw [pl 3 i (by decide) (by omega) (by omega) (by omega) (by omega), pl 4 i (by decide) (by omega) (by omega) (by omega) (by omega)]
    exact gs i hi
  · rw [pl 5 i (by decide) (by omega) (by omega) (by omega) (by omega), pl 6 i (by decide) (by omega) (by omega) (by omega) (by omega), pl 7 i (by decide) (by omega) (by omega) (by omega) (by omega)]
    exact gz i hi
  · rw [pl 8 i (by decide) (by omega) (by omega) (by omega) (by omega), pl 9 i (by decide) (by omega) (by omega) (by omega) (by omega), pl 10 i (by decide) (by omega) (by omega) (by omega) (by omega), pl 11 i (by decide) (by omega) (by omega) (by omega) (by omega), pl 12 i (by decide) (by omega) (by omega) (by omega) (by omega), pl 13 i (by decide) (by omega) (by omega) (by omega) (by omega)]
    exact gp i hi
/-- load -/
theorem o_ld {n a b c d : Nat} {w : Wd} {f : Nat → Int32} (h : CI n w f a b c d) (hV : VT p ny ns nz np) (hL : (wtB p ny ns nz np).length ≤ 1200) (hF : Fg (wtB p ny ns nz np).length (fun j => (wtB p ny ns nz np).getD j 0) w) : ∃ w1, fX6_load w = (nI np, w1) ∧ CI n w1 (rowP p ny ns nz np) ny ns nz np ∧ w1.1 0 = 0 ∧ w1.1 1 = 0 ∧ w1.1 2 = -1 ∧ AG p (w1.2.2.1 1) ny ns nz np ∧ w1.1 16 = w.1 16 ∧ w1.2.2.2.2.2 = w.2.2.2.2.2 := by
  obtain ⟨F, hf⟩ : ∃ F, fuU 2147483647 0 = F := ⟨_, rfl⟩
  obtain ⟨r, er, r1, r2, r3⟩ := rd_all hV (w := w) rfl hL hF.1 hF.2 hf
  have hD := ag_pr hV r2
  have hc : CI n (wS r 0 0) f a b c d := by
    obtain ⟨f1, f2, f3, f4⟩ := r3
    obtain ⟨c1, ⟨k, k1, k2⟩, c3, ⟨cnt, old, d1, d2, d3, d4, d5⟩, -⟩ := h
    have e : ∀ q, 11 ≤ q → (wS r 0 0).1 q = w.1 q := fun q hq => by
      show (if q = 0 then (0 : Int32) else r.1 q) = _
      rw [if_neg (by omega), f1 q (Or.inr hq)]
      show (if q = 6 then _ else if q = 3 then _ else if q = 10 then _ else if q = 9 then _ else if q = 8 then _ else if q = 2 then _ else if q = 1 then _ else w.1 q) = _
      rw [if_neg (by omega), if_neg (by omega), if_neg (by omega), if_neg (by omega), if_neg (by omega), if_neg (by omega), if_neg (by omega)]
    have e2 : ∀ q, ¬ q = 0 → (wS r 0 0).2.2.1 q = w.2.2.1 q := fun q hq => by
      show r.2.2.1 q = _
      rw [f3 q hq]
      exact if_neg hq
    have e3 : (wS r 0 0).2.2.2 = w.2.2.2 := f4
    have e4 : (wS r 0 0).2.1 = w.2.1 := f2
    refine ⟨by rw [e2 1 (by decide)]; exact c1, ⟨k, k1, by unfold hz_mo at k2 ⊢; rw [e3]; exact k2⟩, ?_, ⟨cnt, old, d1, d2, (e 11 (by decide)).trans d3, (e 12 (by decide)).trans d4, fun i hi => by rw [e2 _ (by omega)]; exact d5 i hi⟩, 0, by decide, rfl⟩
    rcases c3 with c3 | ⟨x1, x2, x3, x4⟩
    · exact Or.inl ((e 13 (by decide)).trans c3)
    · refine Or.inr ⟨by rw [e 13 (by decide)]; exact x1, ?_⟩
      rw [e2 1 (by decide)]
      exact ⟨fun j hj => by rw [e4]; exact x2 j hj, by rw [e 14 (by decide)]; exact x3, by rw [e 15 (by decide)]; exact x4⟩
  have b0 : (fX6_beforeChange (wS r 0 0)).2.2.1 0 = r.2.2.1 0 := (bc_t hc.1 hc.2.2.2.1).1.2.2.2.1 0 (by decide)
  have b1 := (bc_t hc.1 hc.2.2.2.1).1.2.1
  have hp : hz_PR (fX5_copyFrom ((fX6_beforeChange (wS r 0 0)).2.2.1 1) ((fX6_beforeChange (wS r 0 0)).2.2.1 0)) (rowP p ny ns nz np) ny ns nz np := by
    rw [b0]; exact cp_pr hD _
  obtain ⟨x, -, y⟩ := ci_ch hc hp
  refine ⟨_, ?_, x, y, ?_, ?_, ?_, ?_, ?_⟩
  · rw [hz_ldC w _ r rfl F hf er, if_pos r1, hp.1.2.2.2]
  · show (fX6_beforeChange (wS r 0 0)).1 1 = 0
    rw [b1 1 (by decide) (by decide) (by decide)]
    exact r1
  · show (fX6_beforeChange (wS r 0 0)).1 2 = -1
    rw [b1 2 (by decide) (by decide) (by decide)]
    show r.1 2 = -1
    rw [r3.1 2 (Or.inl (by decide))]
    rfl
  · show AG p (fX5_copyFrom ((fX6_beforeChange (wS r 0 0)).2.2.1 1) ((fX6_beforeChange (wS r 0 0)).2.2.1 0)) ny ns nz np
    rw [b0]
    exact ag_cp hV.1 _ r2
  · show (fX6_beforeChange (wS r 0 0)).1 16 = w.1 16
    rw [b1 16 (by decide) (by decide) (by decide)]
    show r.1 16 = w.1 16
    rw [r3.1 16 (Or.inr (by decide))]
    rfl
  · have e1 : (fX6_beforeChange (wS r 0 0)).2.2.2 = r.2.2.2 := (bc_t hc.1 hc.2.2.2.1).1.2.2.2.2
    have e2 : r.2.2.2 = w.2.2.2 := r3.2.2.2
    show (fX6_beforeChange (wS r 0 0)).2.2.2.2.2 = w.2.2.2.2.2
    rw [e1, e2]
end ROW
