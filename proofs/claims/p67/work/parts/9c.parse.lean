/-! A plant's text read as a whole. -/
section PAR
variable {T R : List Int32} {p : Pl} {y0 : Wd} {ny ns nz np : Nat}
theorem lq_y (hV : VT p ny ns nz np) {b c d : Nat} : ∀ (r a x : Nat) (y : Wd), a + r = ny → IV T p y0 y x a b c d ((List.range' a r).flatMap (yB p) ++ R) → ∃ y1, (∀ z fu, fX4_read_48 z (fu + r) (nI x) y = fX4_read_48 z fu (nI (x + r)) y1) ∧ IV T p y0 y1 (x + r) ny b c d R := by
  intro r
  induction r with
  | zero =>
    intro a x y ha h
    have hb : a = ny := by omega
    subst hb
    exact ⟨y, fun _ _ => rfl, h⟩
  | succ r ih =>
    intro a x y ha h
    rw [List.range'_succ, List.flatMap_cons, List.append_assoc] at h
    obtain ⟨y1, e1, h1⟩ := sp_yarn hV (by omega) h
    obtain ⟨y2, e2, h2⟩ := ih (a + 1) (x + 1) y1 (by omega) h1
    refine ⟨y2, fun z fu => ?_, by rw [show x + (r + 1) = x + 1 + r by omega]; exact h2⟩
    rw [show fu + (r + 1) = fu + r + 1 by omega, e1, e2, show x + (r + 1) = x + 1 + r by omega]
theorem lq_s (hV : VT p ny ns nz np) {a c d : Nat} : ∀ (r b x : Nat) (y : Wd), b + r = ns → IV T p y0 y x a b c d ((List.range' b r).flatMap (sB p) ++ R) → ∃ y1, (∀ z fu, fX4_read_48 z (fu + r) (nI x) y = fX4_read_48 z fu (nI (x + r)) y1) ∧ IV T p y0 y1 (x + r) a ns c d R := by
  intro r
  induction r with
  | zero =>
    intro b x y ha h
    have hb : b = ns := by omega
    subst hb
    exact ⟨y, fun _ _ => rfl, h⟩
  | succ r ih =>
    intro b x y ha h
    rw [List.range'_succ, List.flatMap_cons, List.append_assoc] at h
    obtain ⟨y1, e1, h1⟩ := sp_shape hV (by omega) h
    obtain ⟨y2, e2, h2⟩ := ih (b + 1) (x + 1) y1 (by omega) h1
    refine ⟨y2, fun z fu => ?_, by rw [show x + (r + 1) = x + 1 + r by omega]; exact h2⟩
    rw [show fu + (r + 1) = fu + r + 1 by omega, e1, e2, show x + (r + 1) = x + 1 + r by omega]
theorem lq_z (hV : VT p ny ns nz np) {a b d : Nat} : ∀ (r c x : Nat) (y : Wd), c + r = nz → IV T p y0 y x a b c d ((List.range' c r).flatMap (zB p) ++ R) → ∃ y1, (∀ z fu, fX4_read_48 z (fu + r) (nI x) y = fX4_read_48 z fu (nI (x + r)) y1) ∧ IV T p y0 y1 (x + r) a b nz d R := by
  intro r
  induction r with
  | zero =>
    intro c x y ha h
    have hb : c = nz := by omega
    subst hb
    exact ⟨y, fun _ _ => rfl, h⟩
  | succ r ih =>
    intro c x y ha h
    rw [List.range'_succ, List.flatMap_cons, List.append_assoc] at h
    obtain ⟨y1, e1, h1⟩ := sp_size hV (by omega) h
    obtain ⟨y2, e2, h2⟩ := ih (c + 1) (x + 1) y1 (by omega) h1
    refine ⟨y2, fun z fu => ?_, by rw [show x + (r + 1) = x + 1 + r by omega]; exact h2⟩
    rw [show fu + (r + 1) = fu + r + 1 by omega, e1, e2, show x + (r + 1) = x + 1 + r by omega]
theorem lq_p (hV : VT p ny ns nz np) {b c : Nat} : ∀ (r d x : Nat) (y : Wd), d + r = np → IV T p y0 y x ny b c d ((List.range' d r).flatMap (pcB p) ++ R) → ∃ y1, (∀ z fu, fX4_read_48 z (fu + r) (nI x) y = fX4_read_48 z fu (nI (x + r)) y1) ∧ IV T p y0 y1 (x + r) ny b c np R := by
  intro r
  induction r with
  | zero =>
    intro d x y ha h
    have hb : d = np := by omega
    subst hb
    exact ⟨y, fun _ _ => rfl, h⟩
  | succ r ih =>
    intro d x y ha h
    rw [List.range'_succ, List.flatMap_cons, List.append_assoc] at h
    obtain ⟨y1, e1, h1⟩ := sp_piece hV (by omega) h
    obtain ⟨y2, e2, h2⟩ := ih (d + 1) (x + 1) y1 (by omega) h1
    refine ⟨y2, fun z fu => ?_, by rw [show x + (r + 1) = x + 1 + r by omega]; exact h2⟩
    rw [show fu + (r + 1) = fu + r + 1 by omega, e1, e2, show x + (r + 1) = x + 1 + r by omega]
/-- the settings -/
theorem lq_h (hV : VT p ny ns nz np) {y : Wd} (h : NT T y (hdB p ++ R)) (hc : y.1 1 = 0) (h8 : y.1 8 = 0) (h9 : y.1 9 = 0) (h10 : y.1 10 = 0) (hl : (hdB p ++ R).length ≤ T.length) (hr : RF y0 y) (hD : (y.2.2.1 0).1 0 = 0 ∧ (y.2.2.1 0).1 1 = 0 ∧ (y.2.2.1 0).1 2 = 0 ∧ (y.2.2.1 0).1 8 = 0 ∧ (y.2.2.1 0).1 7 = 0) : ∃ y1, (∀ z fu, fX4_read_48 z (fu + 3) (nI 0) y = fX4_read_48 z fu (nI 3) y1) ∧ IV T p y0 y1 3 0 0 0 0 R := by
  obtain ⟨-, ⟨⟨a1, a2, a3⟩, ⟨b1, b2, b3⟩, ⟨c1, c2, c3⟩, ⟨d1, d2, d3⟩, v7⟩, -⟩ := hV
  generalize hA : (p.1 3).toNatClampNeg = A at *
  generalize hB : (p.1 4).toNatClampNeg = B at *
  generalize hC : (p.1 5).toNatClampNeg = C at *
  generalize hE : (p.1 6).toNatClampNeg = E at *
  have eT : hdB p ++ R = tS11 ++ (nI 32 :: (numB A ++ (nI 32 :: (numB B ++ (nI 59 :: (tS12 ++ (nI 32 :: (numB C ++ (nI 59 :: (tS13 ++ (nI 32 :: (numB E ++ (nI 59 :: R))))))))))))) := by
    unfold hdB
    rw [hA, hB, hC, hE]
    simp only [List.append_assoc]
    rfl
  rw [eT] at h hl
  have L1 : ∀ c, c ∈ tS11 → isL c := L_all (by decide +kernel)
  have L2 : ∀ c, c ∈ tS12 → isL c := L_all (by decide +kernel)
  have L3 : ∀ c, c ∈ tS13 → isL c := L_all (by decide +kernel)
  have n1 : tS11 ≠ [] := by decide +kernel
  have n2 : tS12 ≠ [] := by decide +kernel
  have n3 : tS13 ≠ [] := by decide +kernel
  have t1 := nt_w h L1 n1 (nlt_32 _)
  obtain ⟨w1, r1, r2, r3, ⟨r4, r5, r6⟩, r7⟩ := rs_tol t1 h8 a2 b2
  have e1 : ∀ z fu, fX4_read_48 z (fu + 1) (nI 0) y = fX4_read_48 z fu (nI 1) w1 := fun z fu => by rw [st_1 h L1 n1 (nlt_32 _) hc (by omega), cs_0 t1 rfl, r1]
  have c1' : w1.1 1 = 0 := (r3.1 1 (by omega)).trans hc
  have t2 := nt_w r2 L2 n2 (nlt_32 _)
  obtain ⟨w2, s1, s2, s3, ⟨s4, s5, s6⟩, s7⟩ := rs_steam t2 (r5.trans h9) c2
  have l1 : 1 + (tS12 ++ (nI 32 :: (numB C ++ (nI 59 :: (tS13 ++ (nI 32 :: (numB E ++ (nI 59 :: R)))))))).length ≤ T.length := by
    simp only [List.length_append, List.length_cons] at hl ⊢
    omega
  have e2 : ∀ z fu, fX4_read_48 z (fu + 1) (nI 1) w1 = fX4_read_48 z fu (nI 2) w2 := fun z fu => by rw [st_1 r2 L2 n2 (nlt_32 _) c1' l1, cs_1 t2 rfl, s1]
  have c2' : w2.1 1 = 0 := (s3.1 1 (by omega)).trans c1'
  have t3 := nt_w s2 L3 n3 (nlt_32 _)
  obtain ⟨w3, u1, u2, u3, -, u7⟩ := rs_box t3 (s6.trans (r6.trans h10)) d1 d2
  have l2 : 2 + (tS13 ++ (nI 32 :: (numB E ++ (nI 59 :: R)))).length ≤ T.length := by
    simp only [List.length_append, List.length_cons] at hl ⊢
    omega
  have e3 : ∀ z fu, fX4_read_48 z (fu + 1) (nI 2) w2 = fX4_read_48 z fu (nI 3) w3 := fun z fu => by rw [st_1 s2 L3 n3 (nlt_32 _) c2' l2, cs_2 t3 rfl, u1]
  refine ⟨w3, fun z fu => ?_, u2, (u3.1 1 (by omega)).trans c2', ?_, rf_T (rf_T (rf_T hr r3) s3) u3, ?_⟩
  · rw [show fu + 3 = fu + 2 + 1 from rfl, e1, show fu + 2 = fu + 1 + 1 from rfl, e2, e3]
  · simp only [List.length_append, List.length_cons] at hl
    omega
  · rw [u7, s7, r7]
    refine ⟨⟨hD.1, hD.2.1, hD.2.2.1, hD.2.2.2.1⟩, ⟨a3.symm, b3.symm, c3.symm, d3.symm, hD.2.2.2.2.trans v7.symm⟩, fun j hj => absurd hj (Nat.not_lt_zero j), fun j hj => absurd hj (Nat.not_lt_zero j), fun j hj => absurd hj (Nat.not_lt_zero j), fun j hj => absurd hj (Nat.not_lt_zero j)⟩
/-- reading a plant's text gives a draft that agrees with it -/
theorem rd_all (hV : VT p ny ns nz np) {w : Wd} (hT : T = wtB p ny ns nz np) (hL : T.length ≤ 1200) (h0 : w.1 0 = nI T.length) (hR : ∀ j, j < T.length → w.2.1 0 j = T.getD j 0) {F : Nat} (hF : fuU 2147483647 0 = F) : ∃ r, (fX4_read_48 (w.1 0) F 0 (fX4_advance (hz_w0 w))).2 = r ∧ r.1 1 = 0 ∧ AG p (r.2.2.1 0) ny ns nz np ∧ RF (hz_w0 w) r := by
  have hf := hz_fuB (q := 0) (by decide)
  rw [show nI 0 = 0 from rfl, hF] at hf
  have hcu : Cu T (hz_w0 w) T := ⟨⟨hL, h0, fun j hj => hR j hj⟩, [], rfl, rfl⟩
  have hn : NT T (fX4_advance (hz_w0 w)) (hdB p ++ (ctB p ny ns nz ++ (List.range' 0 np).flatMap (pcB p))) := by
    refine ⟨hz_w0 w, ?_, fun _ _ _ => rfl, rfl⟩
    rw [← List.append_assoc]
    rw [hT] at hcu ⊢
    exact hcu
  have fa := adv_fw (hz_w0 w)
  have k : ∀ k, (k = 1 ∨ k = 8 ∨ k = 9 ∨ k = 10) → (fX4_advance (hz_w0 w)).1 k = (hz_w0 w).1 k := fun k hk => fa.1 k (by omega) (by omega) (by omega) (by omega)
  have hlen : (hdB p ++ (ctB p ny ns nz ++ (List.range' 0 np).flatMap (pcB p))).length ≤ T.length := by
    rw [hT]
    unfold wtB
    simp only [List.length_append]
    omega
  obtain ⟨y1, e1, i1⟩ := lq_h (y0 := hz_w0 w) hV hn ((k 1 (by omega)).trans rfl) ((k 8 (by omega)).trans rfl) ((k 9 (by omega)).trans rfl) ((k 10 (by omega)).trans rfl) hlen (rf_fw fa) (by rw [fa.2]; exact ⟨rfl, rfl, rfl, rfl, rfl⟩)
  have i1' : IV T p (hz_w0 w) y1 3 0 0 0 0 ((List.range' 0 ny).flatMap (yB p) ++ ((List.range' 0 ns).flatMap (sB p) ++ ((List.range' 0 nz).flatMap (zB p) ++ ((List.range' 0 np).flatMap (pcB p) ++ [])))) := by
    rw [List.append_nil]
    unfold ctB at i1
    simp only [List.append_assoc] at i1
    exact i1
  obtain ⟨y2, e2, i2⟩ := lq_y hV ny 0 3 y1 (Nat.zero_add _) i1'
  obtain ⟨y3, e3, i3⟩ := lq_s hV ns 0 _ y2 (Nat.zero_add _) i2
  obtain ⟨y4, e4, i4⟩ := lq_z hV nz 0 _ y3 (Nat.zero_add _) i3
  obtain ⟨y5, e5, i5⟩ := lq_p hV np 0 _ y4 (Nat.zero_add _) i4
  obtain ⟨j1, j2, j3, j4, j5⟩ := i5
  have te := nt_e j1
  obtain ⟨⟨q1, q2, q3, q4⟩, -⟩ := hV
  obtain ⟨f, hf2⟩ : ∃ f, F = f + 1 + np + nz + ns + ny + 3 := ⟨F - (1 + np + nz + ns + ny + 3), by omega⟩
  refine ⟨y5, ?_, j2, j5, j4⟩
  rw [hf2, show (0 : Int32) = nI 0 from rfl, e1, e2, e3, e4, e5, hz_r48]
  split
  · rfl
  · rw [if_pos te.2]
end PAR
