/-! One row more in a plant, on both sides. -/
section HZZ
variable {p p1 : Pl} {f f1 : Nat → Int32} {ny ns nz np : Nat}
theorem hz_addY (hP : hz_PR p f ny ns nz np) (h : ny < 6) {x y a b : Int32} (hn : hz_nm x y) (ha : hz_rg 1 100 a) (hb : hz_rg 0 50 b) (q0 : p1.1 0 = nI (ny + 1)) (q1 : ∀ k, ¬ k = 0 → p1.1 k = p.1 k) (q2 : p1.2 0 = upd (p.2 0) ny x) (q3 : p1.2 1 = upd (p.2 1) ny a) (q4 : p1.2 2 = upd (p.2 2) ny b) (q5 : ∀ r, 3 ≤ r → p1.2 r = p.2 r) (f0 : f1 5 = nI (ny + 1)) (f2 : f1 (10 + 3 * ny) = y) (f3 : f1 (11 + 3 * ny) = a) (f4 : f1 (12 + 3 * ny) = b) (f5 : ∀ j, ¬ j = 5 → ¬ (10 + 3 * ny ≤ j ∧ j < 13 + 3 * ny) → f1 j = f j) : hz_PR p1 f1 (ny + 1) ns nz np := by
  obtain ⟨⟨a0, a1, a2, a3⟩, ⟨b0, b1, b2, b3⟩, ⟨c0, c1, c2, c3⟩, ⟨d0, d1, d2, d3, d4⟩, ⟨e0, e1, e2, e3⟩, g1, g2, g3, g4⟩ := hP
  refine ⟨⟨q0, (q1 1 (by decide)).trans a1, (q1 2 (by decide)).trans a2, (q1 8 (by decide)).trans a3⟩, ⟨by omega, b1, b2, b3⟩, ⟨f0, (f5 6 (by omega) (by omega)).trans c1, (f5 7 (by omega) (by omega)).trans c2, (f5 8 (by omega) (by omega)).trans c3⟩, ⟨?_, ?_, ?_, ?_, ?_⟩, ⟨?_, ?_, ?_, ?_⟩, fun i hi => ?_, fun i hi => ?_, fun i hi => ?_, fun i hi => ?_⟩
  · rw [f5 0 (by omega) (by omega), q1 3 (by decide)]; exact d0
  · rw [f5 1 (by omega) (by omega), q1 4 (by decide)]; exact d1
  · rw [f5 2 (by omega) (by omega), q1 5 (by decide)]; exact d2
  · rw [f5 3 (by omega) (by omega), q1 6 (by decide)]; exact d3
  · rw [f5 4 (by omega) (by omega), q1 7 (by decide)]; exact d4
  · rw [q1 3 (by decide)]; exact e0
  · rw [q1 4 (by decide)]; exact e1
  · rw [q1 5 (by decide)]; exact e2
  · rw [q1 6 (by decide)]; exact e3
  · rw [q2, q3, q4]
    by_cases k : i = ny
    · rw [k, pk_us, pk_us, pk_us, f2, f3, f4]
      exact ⟨hn, rfl, rfl, ha, hb⟩
    · rw [pk_un k, pk_un k, pk_un k, f5 _ (by omega) (by omega), f5 _ (by omega) (by omega), f5 _ (by omega) (by omega)]
      exact g1 i (by omega)
  · rw [q5 3 (by decide), q5 4 (by decide), f5 _ (by omega) (by omega), f5 _ (by omega) (by omega)]
    exact g2 i hi
  · rw [q5 5 (by decide), q5 6 (by decide), q5 7 (by decide), f5 _ (by omega) (by omega), f5 _ (by omega) (by omega), f5 _ (by omega) (by omega)]
    exact g3 i hi
  · rw [q5 8 (by decide), q5 9 (by decide), q5 10 (by decide), q5 11 (by decide), q5 12 (by decide), q5 13 (by decide), f5 _ (by omega) (by omega), f5 _ (by omega) (by omega), f5 _ (by omega) (by omega), f5 _ (by omega) (by omega), f5 _ (by omega) (by omega), f5 _ (by omega) (by omega)]
    obtain ⟨z1, ⟨y, y1, y2⟩, z3⟩ := g4 i hi
    exact ⟨z1, ⟨y, by omega, y2⟩, z3⟩
theorem hz_addS (hP : hz_PR p f ny ns nz np) (h : ns < 8) {x y a : Int32} (hn : hz_nm x y) (ha : hz_rg 500 9999 a) (q0 : p1.1 1 = nI (ns + 1)) (q1 : ∀ k, ¬ k = 1 → p1.1 k = p.1 k) (q2 : p1.2 3 = upd (p.2 3) ns x) (q3 : p1.2 4 = upd (p.2 4) ns a) (q5 : ∀ r, ¬ r = 3 → ¬ r = 4 → p1.2 r = p.2 r) (f0 : f1 6 = nI (ns + 1)) (f2 : f1 (28 + 2 * ns) = y) (f3 : f1 (29 + 2 * ns) = a) (f5 : ∀ j, ¬ j = 6 → ¬ (28 + 2 * ns ≤ j ∧ j < 30 + 2 * ns) → f1 j = f j) : hz_PR p1 f1 ny (ns + 1) nz np := by
  obtain ⟨⟨a0, a1, a2, a3⟩, ⟨b0, b1, b2, b3⟩, ⟨c0, c1, c2, c3⟩, ⟨d0, d1, d2, d3, d4⟩, ⟨e0, e1, e2, e3⟩, g1, g2, g3, g4⟩ := hP
  refine ⟨⟨(q1 0 (by decide)).trans a0, q0, (q1 2 (by decide)).trans a2, (q1 8 (by decide)).trans a3⟩, ⟨b0, by omega, b2, b3⟩, ⟨(f5 5 (by omega) (by omega)).trans c0, f0, (f5 7 (by omega) (by omega)).trans c2, (f5 8 (by omega) (by omega)).trans c3⟩, ⟨?_, ?_, ?_, ?_, ?_⟩, ⟨?_, ?_, ?_, ?_⟩, fun i hi => ?_, fun i hi => ?_, fun i hi => ?_, fun i hi => ?_⟩
  · rw [f5 0 (by omega) (by omega), q1 3 (by decide)]; exact d0
  · rw [f5 1 (by omega) (by omega), q1 4 (by decide)]; exact d1
  · rw [f5 2 (by omega) (by omega), q1 5 (by decide)]; exact d2
  · rw [f5 3 (by omega) (by omega), q1 6 (by decide)]; exact d3
  · rw [f5 4 (by omega) (by omega), q1 7 (by decide)]; exact d4
  · rw [q1 3 (by decide)]; exact e0
  · rw [q1 4 (by decide)]; exact e1
  · rw [q1 5 (by decide)]; exact e2
  · rw [q1 6 (by decide)]; exact e3
  · rw [q5 0 (by decide) (by decide), q5 1 (by decide) (by decide), q5 2 (by decide) (by decide), f5 _ (by omega) (by omega), f5 _ (by omega) (by omega), f5 _ (by omega) (by omega)]
    exact g1 i hi
  · rw [q2, q3]
    by_cases k : i = ns
    · rw [k, pk_us, pk_us, f2, f3]
      exact ⟨hn, rfl, ha⟩
    · rw [pk_un k, pk_un k, f5 _ (by omega) (by omega), f5 _ (by omega) (by omega)]
      exact g2 i (by omega)
  · rw [q5 5 (by decide) (by decide), q5 6 (by decide) (by decide), q5 7 (by decide) (by decide), f5 _ (by omega) (by omega), f5 _ (by omega) (by omega), f5 _ (by omega) (by omega)]
    exact g3 i hi
  · rw [q5 8 (by decide) (by decide), q5 9 (by decide) (by decide), q5 10 (by decide) (by decide), q5 11 (by decide) (by decide), q5 12 (by decide) (by decide), q5 13 (by decide) (by decide), f5 _ (by omega) (by omega), f5 _ (by omega) (by omega), f5 _ (by omega) (by omega), f5 _ (by omega) (by omega), f5 _ (by omega) (by omega), f5 _ (by omega) (by omega)]
    exact g4 i hi
theorem hz_addZ (hP : hz_PR p f ny ns nz np) (h : nz < 6) {x y a b : Int32} (hn : hz_nm x y) (ha : hz_rg 500 9999 a) (hb : hz_rg 500 9999 b) (q0 : p1.1 2 = nI (nz + 1)) (q1 : ∀ k, ¬ k = 2 → p1.1 k = p.1 k) (q2 : p1.2 5 = upd (p.2 5) nz x) (q3 : p1.2 6 = upd (p.2 6) nz a) (q4 : p1.2 7 = upd (p.2 7) nz b) (q5 : ∀ r, ¬ r = 5 → ¬ r = 6 → ¬ r = 7 → p1.2 r = p.2 r) (f0 : f1 7 = nI (nz + 1)) (f2 : f1 (44 + 3 * nz) = y) (f3 : f1 (45 + 3 * nz) = a) (f4 : f1 (46 + 3 * nz) = b) (f5 : ∀ j, ¬ j = 7 → ¬ (44 + 3 * nz ≤ j ∧ j < 47 + 3 * nz) → f1 j = f j) : hz_PR p1 f1 ny ns (nz + 1) np := by
  obtain ⟨⟨a0, a1, a2, a3⟩, ⟨b0, b1, b2, b3⟩, ⟨c0, c1, c2, c3⟩, ⟨d0, d1, d2, d3, d4⟩, ⟨e0, e1, e2, e3⟩, g1, g2, g3, g4⟩ := hP
  refine ⟨⟨(q1 0 (by decide)).trans a0, (q1 1 (by decide)).trans a1, q0, (q1 8 (by decide)).trans a3⟩, ⟨b0, b1, by omega, b3⟩, ⟨(f5 5 (by omega) (by omega)).trans c0, (f5 6 (by omega) (by omega)).trans c1, f0, (f5 8 (by omega) (by omega)).trans c3⟩, ⟨?_, ?_, ?_, ?_, ?_⟩, ⟨?_, ?_, ?_, ?_⟩, fun i hi => ?_, fun i hi => ?_, fun i hi => ?_, fun i hi => ?_⟩
  · rw [f5 0 (by omega) (by omega), q1 3 (by decide)]; exact d0
  · rw [f5 1 (by omega) (by omega), q1 4 (by decide)]; exact d1
  · rw [f5 2 (by omega) (by omega), q1 5 (by decide)]; exact d2
  · rw [f5 3 (by omega) (by omega), q1 6 (by decide)]; exact d3
  · rw [f5 4 (by omega) (by omega), q1 7 (by decide)]; exact d4
  · rw [q1 3 (by decide)]; exact e0
  · rw [q1 4 (by decide)]; exact e1
  · rw [q1 5 (by decide)]; exact e2
  · rw [q1 6 (by decide)]; exact e3
  · rw [q5 0 (by decide) (by decide) (by decide), q5 1 (by decide) (by decide) (by decide), q5 2 (by decide) (by decide) (by decide), f5 _ (by omega) (by omega), f5 _ (by omega) (by omega), f5 _ (by omega) (by omega)]
    exact g1 i hi
  · rw [q5 3 (by decide) (by decide) (by decide), q5 4 (by decide) (by decide) (by decide), f5 _ (by omega) (by omega), f5 _ (by omega) (by omega)]
    exact g2 i hi
  · rw [q2, q3, q4]
    by_cases k : i = nz
    · rw [k, pk_us, pk_us, pk_us, f2, f3, f4]
      exact ⟨hn, rfl, rfl, ha, hb⟩
    · rw [pk_un k, pk_un k, pk_un k, f5 _ (by omega) (by omega), f5 _ (by omega) (by omega), f5 _ (by omega) (by omega)]
      exact g3 i (by omega)
  · rw [q5 8 (by decide) (by decide) (by decide), q5 9 (by decide) (by decide) (by decide), q5 10 (by decide) (by decide) (by decide), q5 11 (by decide) (by decide) (by decide), q5 12 (by decide) (by decide) (by decide), q5 13 (by decide) (by decide) (by decide), f5 _ (by omega) (by omega), f5 _ (by omega) (by omega), f5 _ (by omega) (by omega), f5 _ (by omega) (by omega), f5 _ (by omega) (by omega), f5 _ (by omega) (by omega)]
    exact g4 i hi
theorem hz_addP (hP : hz_PR p f ny ns nz np) (h : np < 14) {y k : Nat} {a b : Int32} (hy : y < ny) (hk : k < 3) (ha : hz_rg 500 9999 a) (hb : hz_rg 0 255 b) (q0 : p1.1 8 = nI (np + 1)) (q1 : ∀ k, ¬ k = 8 → p1.1 k = p.1 k) (q2 : p1.2 8 = upd (p.2 8) np (nI y)) (q3 : p1.2 9 = upd (p.2 9) np (nI k)) (q4 : p1.2 10 = upd (p.2 10) np a) (q6 : p1.2 11 = upd (p.2 11) np a) (q7 : p1.2 12 = upd (p.2 12) np b) (q8 : p1.2 13 = upd (p.2 13) np 0) (q5 : ∀ r, r < 8 → p1.2 r = p.2 r) (f0 : f1 8 = nI (np + 1)) (f2 : f1 (62 + 6 * np) = nI y) (f3 : f1 (63 + 6 * np) = nI k) (f4 : f1 (64 + 6 * np) = a) (f6 : f1 (65 + 6 * np) = a) (f7 : f1 (66 + 6 * np) = b) (f8 : f1 (67 + 6 * np) = 0) (f5 : ∀ j, ¬ j = 8 → ¬ (62 + 6 * np ≤ j) → f1 j = f j) : hz_PR p1 f1 ny ns nz (np + 1) := by
  obtain ⟨⟨a0, a1, a2, a3⟩, ⟨b0, b1, b2, b3⟩, ⟨c0, c1, c2, c3⟩, ⟨d0, d1, d2, d3, d4⟩, ⟨e0, e1, e2, e3⟩, g1, g2, g3, g4⟩ := hP
  refine ⟨⟨(q1 0 (by decide)).trans a0, (q1 1 (by decide)).trans a1, (q1 2 (by decide)).trans a2, q0⟩, ⟨b0, b1, b2, by omega⟩, ⟨(f5 5 (by omega) (by omega)).trans c0, (f5 6 (by omega) (by omega)).trans c1, (f5 7 (by omega) (by omega)).trans c2, f0⟩, ⟨?_, ?_, ?_, ?_, ?_⟩, ⟨?_, ?_, ?_, ?_⟩, fun i hi => ?_, fun i hi => ?_, fun i hi => ?_, fun i hi => ?_⟩
  · rw [f5 0 (by omega) (by omega), q1 3 (by decide)]; exact d0
  · rw [f5 1 (by omega) (by omega), q1 4 (by decide)]; exact d1
  · rw [f5 2 (by omega) (by omega), q1 5 (by decide)]; exact d2
  · rw [f5 3 (by omega) (by omega), q1 6 (by decide)]; exact d3
  · rw [f5 4 (by omega) (by omega), q1 7 (by decide)]; exact d4
  · rw [q1 3 (by decide)]; exact e0
  · rw [q1 4 (by decide)]; exact e1
  · rw [q1 5 (by decide)]; exact e2
  · rw [q1 6 (by decide)]; exact e3
  · rw [q5 0 (by decide), q5 1 (by decide), q5 2 (by decide), f5 _ (by omega) (by omega), f5 _ (by omega) (by omega), f5 _ (by omega) (by omega)]
    exact g1 i hi
  · rw [q5 3 (by decide), q5 4 (by decide), f5 _ (by omega) (by omega), f5 _ (by omega) (by omega)]
    exact g2 i hi
  · rw [q5 5 (by decide), q5 6 (by decide), q5 7 (by decide), f5 _ (by omega) (by omega), f5 _ (by omega) (by omega), f5 _ (by omega) (by omega)]
    exact g3 i hi
  · rw [q2, q3, q4, q6, q7, q8]
    by_cases e : i = np
    · rw [e, pk_us, pk_us, pk_us, pk_us, pk_us, pk_us, f2, f3, f4, f6, f7, f8]
      exact ⟨⟨rfl, rfl, rfl, rfl, rfl, rfl⟩, ⟨y, hy, rfl⟩, ⟨k, hk, rfl⟩, ha, ha, hb, ⟨0, by decide, rfl⟩⟩
    · rw [pk_un e, pk_un e, pk_un e, pk_un e, pk_un e, pk_un e, f5 _ (by omega) (by omega), f5 _ (by omega) (by omega), f5 _ (by omega) (by omega), f5 _ (by omega) (by omega), f5 _ (by omega) (by omega), f5 _ (by omega) (by omega)]
      exact g4 i (by omega)
end HZZ
