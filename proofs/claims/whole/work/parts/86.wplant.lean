/-! The model writes the pieces and the plant; writePlant and outputByte on both sides. -/
section MTP
variable {m0 : Md} {p : Pl} {ny ns nz np : Nat}
theorem mt_fld {m : Md} {T : List Int32} (h : MT m0 T m) (h0 : m0.2.2 = 0) {i k : Nat} (hi : i < 14) (hk : k < 6) : fX7_field m (nI i) (nI k) = m0.2.1 0 (62 + 6 * i + k) ∧ sX7_field m (nI i) (nI k) := by
  obtain ⟨a, b⟩ := hz_fldi m hi hk
  rw [h.2.2.1, h0, mt_row h] at a
  exact ⟨a, b⟩
theorem mt_pcT {m : Md} {T : List Int32} (h : MT m0 T m) (h0 : m0.2.2 = 0) {i a b : Nat} (hi : i < 14) (ha : m0.2.1 0 (62 + 6 * i + 2) = nI a) (ha2 : a < 10000) (hb : m0.2.1 0 (62 + 6 * i + 4) = nI b) (hb2 : b < 10000) (q : Sq) {L : List Int32} (hq : q.2.2.2 = L) (hl : L.length ≤ 12) (hc : L.all (fun x => decide (0 ≤ x) && decide (x < 128)) = true) (hT : T.length + 30 ≤ 2000) : (sX7_writeText m q ∧ sX7_field (fX7_writeText m q) (nI i) 2 ∧ sX7_writeNumber (fX7_writeText m q) (fX7_field (fX7_writeText m q) (nI i) 2) ∧ sX7_field (fX7_writeNumber (fX7_writeText m q) (fX7_field (fX7_writeText m q) (nI i) 2)) (nI i) 4 ∧ sX7_writeNumber (fX7_writeNumber (fX7_writeText m q) (fX7_field (fX7_writeText m q) (nI i) 2)) (fX7_field (fX7_writeNumber (fX7_writeText m q) (fX7_field (fX7_writeText m q) (nI i) 2)) (nI i) 4) ∧ sX7_write (fX7_writeNumber (fX7_writeNumber (fX7_writeText m q) (fX7_field (fX7_writeText m q) (nI i) 2)) (fX7_field (fX7_writeNumber (fX7_writeText m q) (fX7_field (fX7_writeText m q) (nI i) 2)) (nI i) 4)) 59) ∧ MT m0 (T ++ L ++ [nI 32] ++ numB a ++ [nI 32] ++ numB b ++ [nI 59]) (fX7_write (fX7_writeNumber (fX7_writeNumber (fX7_writeText m q) (fX7_field (fX7_writeText m q) (nI i) 2)) (fX7_field (fX7_writeNumber (fX7_writeText m q) (fX7_field (fX7_writeText m q) (nI i) 2)) (nI i) 4)) 59) := by
  have hwa := sbW_le a
  have hwb := sbW_le b
  obtain ⟨t1, t2⟩ := mt_text h q hq hl hc (by omega)
  obtain ⟨e1, e2⟩ := mt_fld t2 h0 (i := i) (k := 2) hi (by decide)
  have e1' : fX7_field (fX7_writeText m q) (nI i) 2 = nI a := e1.trans ha
  have e2' : sX7_field (fX7_writeText m q) (nI i) 2 := e2
  rw [e1']
  obtain ⟨n1, n2⟩ := mt_num t2 ha2 (by rw [List.length_append]; omega)
  obtain ⟨f1, f2⟩ := mt_fld n2 h0 (i := i) (k := 4) hi (by decide)
  have f1' : fX7_field (fX7_writeNumber (fX7_writeText m q) (nI a)) (nI i) 4 = nI b := f1.trans hb
  have f2' : sX7_field (fX7_writeNumber (fX7_writeText m q) (nI a)) (nI i) 4 := f2
  rw [f1']
  obtain ⟨o1, o2⟩ := mt_num n2 hb2 (by simp only [List.length_append, List.length_cons, List.length_nil, numB_len]; omega)
  obtain ⟨w1, w2⟩ := mt_w o2 (z := 59) (b := 59) rfl (by decide) (by simp only [List.length_append, List.length_cons, List.length_nil, numB_len]; omega)
  exact ⟨⟨t1, e2', n1, f2', o1, w1⟩, w2⟩
theorem mt_piece (hP : hz_PR p (m0.2.1 0) ny ns nz np) (h0 : m0.2.2 = 0) (i : Nat) (T : List Int32) (m : Md) (hi : i < np) (h : MT m0 T m) (hT : T.length + (pcB p i).length ≤ 1900) : sX7_writePiece m (nI i) ∧ MT m0 (T ++ pcB p i) (fX7_writePiece m (nI i)) := by
  have hnp : np ≤ 14 := hP.2.1.2.2.2
  have hny : ny ≤ 6 := hP.2.1.1
  obtain ⟨⟨f0, f1, f2, f3, f4, f5⟩, ⟨y, hy, ey⟩, ⟨kd, hk, ek⟩, r10, r11, r12, -⟩ := hP.2.2.2.2.2.2.2.2 i hi
  obtain ⟨a, a1, a2, a3⟩ := hz_rgN (a := 500) (b := 9999) r10 (by decide)
  obtain ⟨b, b1, b2, b3⟩ := hz_rgN (a := 0) (b := 255) r12 (by decide)
  obtain ⟨g1, -⟩ := hP.2.2.2.2.2.1 y hy
  have eP : pcB p i = tS17 ++ [nI 32] ++ nmB (p.2 0 y) ++ [nI 32] ++ (kdq kd).2.2.2 ++ [nI 32] ++ numB a ++ [nI 32] ++ numB b ++ [nI 59] := by
    unfold pcB
    rw [ey, ek, a3, b3, nI_clamp (n := a) (by omega), nI_clamp (n := b) (by omega), nI_clamp (n := y) (by omega), nI_clamp (n := kd) (by omega)]
  have hw1 := sbW_le a
  have hw2 := sbW_le b
  rw [eP] at hT
  simp only [List.length_append, List.length_cons, List.length_nil, numB_len, tS17_len] at hT
  obtain ⟨t1, t2⟩ := mt_text h sq27 (L := tS17) rfl (by decide) (by decide) (by show T.length + 5 ≤ 2000; omega)
  obtain ⟨d1, d2⟩ := mt_fld t2 h0 (i := i) (k := 0) (by omega) (by decide)
  have d1' : fX7_field (fX7_writeText m sq27) (nI i) 0 = nI y := d1.trans (f0.trans ey)
  have d2' : sX7_field (fX7_writeText m sq27) (nI i) 0 := d2
  have ex : (10 : Int32) + 3 * nI y = nI (10 + 3 * y) := hz_ia2 10 3 y
  have er : ((fX7_writeText m sq27).2.1 0) (nI (10 + 3 * y)).toNatClampNeg = m0.2.1 0 (10 + 3 * y) := by rw [mt_row t2, nI_clamp (by omega)]
  obtain ⟨n1, n2, n3⟩ := mt_name t2 g1 (by rw [List.length_append, tS17_len]; omega)
  obtain ⟨c1, c2⟩ := mt_fld n2 h0 (i := i) (k := 1) (by omega) (by decide)
  have c1' : fX7_field (fX7_writeName (fX7_writeText m sq27) (m0.2.1 0 (10 + 3 * y))) (nI i) 1 = nI kd := c1.trans ((show m0.2.1 0 (62 + 6 * i + 1) = m0.2.1 0 (63 + 6 * i) by rw [show 62 + 6 * i + 1 = 63 + 6 * i by omega]).trans (f1.trans ek))
  have c2' : sX7_field (fX7_writeName (fX7_writeText m sq27) (m0.2.1 0 (10 + 3 * y))) (nI i) 1 := c2
  have hl : (T ++ tS17 ++ [nI 32] ++ nmB (p.2 0 y)).length + 30 ≤ 2000 := by
    simp only [List.length_append, List.length_cons, List.length_nil, tS17_len]
    omega
  have va : m0.2.1 0 (62 + 6 * i + 2) = nI a := by rw [show 62 + 6 * i + 2 = 64 + 6 * i by omega, f2, a3]
  have vb : m0.2.1 0 (62 + 6 * i + 4) = nI b := by rw [show 62 + 6 * i + 4 = 66 + 6 * i by omega, f4, b3]
  unfold sX7_writePiece fX7_writePiece
  simp only [hz_bid]
  simp only [hz_bnd]
  rw [d1', ex, er, c1', eP]
  rcases (show kd = 0 ∨ kd = 1 ∨ kd = 2 by omega) with rfl | rfl | rfl
  · obtain ⟨⟨u1, u2, u3, u4, u5, u6⟩, u7⟩ := mt_pcT n2 h0 (i := i) (by omega) va (by omega) vb (by omega) sq32 (L := [nI 32] ++ (kdq 0).2.2.2) rfl (by decide) (by decide) hl
    have k0 : nI 0 = 0 := rfl
    rw [if_pos k0]
    refine ⟨⟨t1, d2', vp_in_nI (by omega) (by omega), n1, c2', fun _ => ⟨u1, u2, u3, u4, u5, u6, trivial⟩, fun hh => absurd k0 hh⟩, ?_⟩
    simp only [List.append_assoc] at u7 ⊢
    exact u7
  · obtain ⟨⟨u1, u2, u3, u4, u5, u6⟩, u7⟩ := mt_pcT n2 h0 (i := i) (by omega) va (by omega) vb (by omega) sq33 (L := [nI 32] ++ (kdq 1).2.2.2) rfl (by decide) (by decide) hl
    have k0 : ¬ nI 1 = 0 := by decide
    have k1 : nI 1 = 1 := rfl
    rw [if_neg k0, if_pos k1]
    refine ⟨⟨t1, d2', vp_in_nI (by omega) (by omega), n1, c2', fun hh => absurd hh k0, fun _ => ⟨fun _ => ⟨u1, u2, u3, u4, u5, u6, trivial⟩, fun hh => absurd k1 hh⟩⟩, ?_⟩
    simp only [List.append_assoc] at u7 ⊢
    exact u7
  · obtain ⟨⟨u1, u2, u3, u4, u5, u6⟩, u7⟩ := mt_pcT n2 h0 (i := i) (by omega) va (by omega) vb (by omega) sq34 (L := [nI 32] ++ (kdq 2).2.2.2) rfl (by decide) (by decide) hl
    have k0 : ¬ nI 2 = 0 := by decide
    have k1 : ¬ nI 2 = 1 := by decide
    rw [if_neg k0, if_neg k1]
    refine ⟨⟨t1, d2', vp_in_nI (by omega) (by omega), n1, c2', fun hh => absurd hh k0, fun _ => ⟨fun hh => absurd hh k1, fun _ => ⟨u1, u2, u3, u4, u5, u6, trivial⟩⟩⟩, ?_⟩
    simp only [List.append_assoc] at u7 ⊢
    exact u7
/-! how long, and of which letters -/
def allB (L : List Int32) : Prop := ∀ x ∈ L, ∃ b, b < 128 ∧ x = nI b
theorem allB_app {A B : List Int32} (ha : allB A) (hb : allB B) : allB (A ++ B) := fun x hx => by
  rcases List.mem_append.mp hx with h | h
  · exact ha x h
  · exact hb x h
theorem allB_1 {b : Nat} (hb : b < 128) : allB [nI b] := fun x hx => ⟨b, hb, List.mem_singleton.mp hx⟩
theorem allB_num (z : Nat) : allB (numB z) := fun x hx => by
  obtain ⟨i, -, h⟩ := List.mem_map.mp hx
  exact ⟨48 + z / 10 ^ (sbW z - 1 - i) % 10, by omega, h.symm⟩
theorem allB_nm {x y : Int32} (h : hz_nm x y) : allB (nmB x) ∧ (nmB x).length ≤ 6 := by
  obtain ⟨L, hL, rfl, -⟩ := h
  rw [nm_B hL]
  refine ⟨fun x hx => ?_, by unfold ltB; rw [List.length_map]; exact hL.2.1⟩
  obtain ⟨c, hc, h⟩ := List.mem_map.mp hx
  have := hL.2.2 c hc
  exact ⟨96 + c, by omega, h.symm⟩
theorem allB_fm {R : Nat → List Int32} {c : Nat} : ∀ (n i : Nat), (∀ j, i ≤ j → j < i + n → allB (R j) ∧ (R j).length ≤ c) → allB ((List.range' i n).flatMap R) ∧ ((List.range' i n).flatMap R).length ≤ n * c := by
  intro n
  induction n with
  | zero => intro i h; exact ⟨fun x hx => absurd hx List.not_mem_nil, by simp⟩
  | succ n ih =>
    intro i h
    rw [List.range'_succ, List.flatMap_cons]
    obtain ⟨a, b⟩ := ih (i + 1) (fun j h1 h2 => h j (by omega) (by omega))
    obtain ⟨c1, c2⟩ := h i (by omega) (by omega)
    refine ⟨allB_app c1 a, ?_⟩
    rw [List.length_append, Nat.add_mul, Nat.one_mul]
    omega
theorem allB_tS : allB tS11 ∧ allB tS12 ∧ allB tS13 ∧ allB tS14 ∧ allB tS15 ∧ allB tS16 ∧ allB tS17 ∧ allB (kdq 0).2.2.2 ∧ allB (kdq 1).2.2.2 ∧ allB (kdq 2).2.2.2 := by
  have key : ∀ L : List Int32, L.length ≤ 12 → L.all (fun x => decide (0 ≤ x) && decide (x < 128)) = true → allB L := fun L h1 h2 x hx => by
    have h8 := (hz_c8 h1 h2).2
    obtain ⟨i, hi, e⟩ := List.getElem_of_mem hx
    obtain ⟨c, c1, c2⟩ := h8 i hi
    refine ⟨c, c1, ?_⟩
    rw [← c2, List.getD_eq_getElem?_getD, List.getElem?_eq_getElem hi, ← e]
    rfl
  exact ⟨key _ (by decide) (by decide), key _ (by decide) (by decide), key _ (by decide) (by decide), key _ (by decide) (by decide), key _ (by decide) (by decide), key _ (by decide) (by decide), key _ (by decide) (by decide), key _ (by decide) (by decide), key _ (by decide) (by decide), key _ (by decide) (by decide)⟩
theorem wtB_ok {f : Nat → Int32} (hP : hz_PR p f ny ns nz np) : allB (wtB p ny ns nz np) ∧ (wtB p ny ns nz np).length ≤ 920 := by
  obtain ⟨s11, s12, s13, s14, s15, s16, s17, k0, k1, k2⟩ := allB_tS
  obtain ⟨hny, hns, hnz, hnp⟩ := hP.2.1
  have b32 : allB [nI 32] := allB_1 (by decide)
  have b59 : allB [nI 59] := allB_1 (by decide)
  have hd : allB (hdB p) ∧ (hdB p).length ≤ 60 := by
    have w1 := sbW_le (p.1 3).toNatClampNeg
    have w2 := sbW_le (p.1 4).toNatClampNeg
    have w3 := sbW_le (p.1 5).toNatClampNeg
    have w4 := sbW_le (p.1 6).toNatClampNeg
    unfold hdB
    refine ⟨?_, by simp only [List.length_append, List.length_cons, List.length_nil, numB_len, tS11_len, tS12_len, tS13_len]; omega⟩
    repeat' (first | assumption | exact allB_num _ | apply allB_app)
  have hy : ∀ j, 0 ≤ j → j < 0 + ny → allB (yB p j) ∧ (yB p j).length ≤ 22 := fun j _ hj => by
    obtain ⟨g1, -⟩ := hP.2.2.2.2.2.1 j (by omega)
    obtain ⟨n1, n2⟩ := allB_nm g1
    have w1 := sbW_le (p.2 1 j).toNatClampNeg
    have w2 := sbW_le (p.2 2 j).toNatClampNeg
    unfold yB
    refine ⟨?_, by simp only [List.length_append, List.length_cons, List.length_nil, numB_len, tS14_len]; omega⟩
    repeat' (first | assumption | exact allB_num _ | apply allB_app)
  have hs : ∀ j, 0 ≤ j → j < 0 + ns → allB (sB p j) ∧ (sB p j).length ≤ 22 := fun j _ hj => by
    obtain ⟨g1, -⟩ := hP.2.2.2.2.2.2.1 j (by omega)
    obtain ⟨n1, n2⟩ := allB_nm g1
    have w1 := sbW_le (p.2 4 j).toNatClampNeg
    unfold sB
    refine ⟨?_, by simp only [List.length_append, List.length_cons, List.length_nil, numB_len, tS15_len]; omega⟩
    repeat' (first | assumption | exact allB_num _ | apply allB_app)
  have hz : ∀ j, 0 ≤ j → j < 0 + nz → allB (zB p j) ∧ (zB p j).length ≤ 22 := fun j _ hj => by
    obtain ⟨g1, -⟩ := hP.2.2.2.2.2.2.2.1 j (by omega)
    obtain ⟨n1, n2⟩ := allB_nm g1
    have w1 := sbW_le (p.2 6 j).toNatClampNeg
    have w2 := sbW_le (p.2 7 j).toNatClampNeg
    unfold zB
    refine ⟨?_, by simp only [List.length_append, List.length_cons, List.length_nil, numB_len, tS16_len]; omega⟩
    repeat' (first | assumption | exact allB_num _ | apply allB_app)
  have hp : ∀ j, 0 ≤ j → j < 0 + np → allB (pcB p j) ∧ (pcB p j).length ≤ 30 := fun j _ hj => by
    obtain ⟨-, ⟨y, hy, ey⟩, ⟨kd, hk, ek⟩, -⟩ := hP.2.2.2.2.2.2.2.2 j (by omega)
    obtain ⟨g1, -⟩ := hP.2.2.2.2.2.1 y hy
    obtain ⟨n1, n2⟩ := allB_nm g1
    have w1 := sbW_le (p.2 10 j).toNatClampNeg
    have w2 := sbW_le (p.2 12 j).toNatClampNeg
    have kk : allB (kdq kd).2.2.2 := by
      rcases (show kd = 0 ∨ kd = 1 ∨ kd = 2 by omega) with rfl | rfl | rfl
      · exact k0
      · exact k1
      · exact k2
    have kl : (kdq kd).2.2.2.length ≤ 6 := by rw [kdq_len hk]; (repeat' split) <;> omega
    unfold pcB
    rw [ey, ek, nI_clamp (n := y) (by omega), nI_clamp (n := kd) (by omega)]
    refine ⟨?_, by simp only [List.length_append, List.length_cons, List.length_nil, numB_len, tS17_len]; omega⟩
    repeat' (first | assumption | exact allB_num _ | apply allB_app)
  obtain ⟨y1, y2⟩ := allB_fm ny 0 hy
  obtain ⟨s1, s2⟩ := allB_fm ns 0 hs
  obtain ⟨z1, z2⟩ := allB_fm nz 0 hz
  obtain ⟨p1, p2⟩ := allB_fm np 0 hp
  unfold wtB ctB
  refine ⟨allB_app (allB_app hd.1 (allB_app (allB_app y1 s1) z1)) p1, ?_⟩
  simp only [List.length_append]
  have := hd.2
  omega
end MTP
