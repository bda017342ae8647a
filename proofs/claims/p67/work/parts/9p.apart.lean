/-! Objects apart from each other; what is written. -/
def SEP (B : Nat) (w : Wd) (B1 : Nat) (w1 : Wd) : Prop := B + 221 ≤ B1 ∧ (B + w.2.2.2.2.2.1 < B1 ∨ B1 + 221 ≤ B + w.2.2.2.2.2.1) ∧ ¬ B + w.2.2.2.2.2.1 = B1 + w1.2.2.2.2.2.1
section SEPS
variable {l : Launch} {G : GM} {h h1 : List va_E} {B B1 : Nat} {w w1 w2 : Wd}
/-- the lower one changes -/
theorem sep_lo (s : SEP B w B1 w1) (o1 : OB G h B1 w1) (g : OG B w w2 h h1) : OB G h1 B1 w1 ∧ SEP B w2 B1 w1 := by
  obtain ⟨s1, s2, s3⟩ := s
  obtain ⟨⟨g1, g2⟩, g3⟩ := g
  obtain ⟨l1, l2, l3⟩ := ob_len o1
  refine ⟨ob_fr o1 g1 (fun a h1 h2 h3 => g2 a h2 (Or.inr (by omega)) (by omega)), s1, ?_, ?_⟩
  · rcases g3 with e | e | e
    · rw [e]; exact s2
    · omega
    · omega
  · rcases g3 with e | e | e
    · rw [e]; exact s3
    · omega
    · omega
/-- the upper one changes -/
theorem sep_hi (s : SEP B w B1 w1) (o : OB G h B w) (g : OG B1 w1 w2 h h1) : OB G h1 B w ∧ SEP B w B1 w2 := by
  obtain ⟨s1, s2, s3⟩ := s
  obtain ⟨⟨g1, g2⟩, g3⟩ := g
  obtain ⟨l1, l2, l3⟩ := ob_len o
  refine ⟨ob_fr o g1 (fun a h1 h2 h3 => g2 a h2 (by omega) (by omega)), s1, s2, ?_⟩
  rcases g3 with e | e | e
  · rw [e]; exact s3
  · omega
  · omega
/-- a new object behind all that there is -/
theorem sep_new (o : OB G h B w) (hB : B1 = h.length) : SEP B w B1 wz0 := by
  obtain ⟨l1, l2, l3⟩ := ob_len o
  refine ⟨by omega, Or.inl (by omega), ?_⟩
  show ¬ B + w.2.2.2.2.2.1 = B1 + 20
  omega
/-- all cells kept -/
theorem ob_kp (o : OB G h B w) (hl : h.length ≤ h1.length) (hk : ∀ a, a < h.length → h1[a]? = h[a]?) : OB G h1 B w := ob_fr o hl (fun a _ h2 _ => hk a h2)
end SEPS
/-- the text that is written is T, its row has n places -/
def WT (w : Wd) (T : List Int32) (n : Nat) : Prop := w.1 16 = nI T.length ∧ w.2.2.2.2.2.2.1 = n ∧ hz_fit w.2.2.2.2.2.2.2 ∧ T.length ≤ n ∧ ∀ j, j < T.length → w.2.2.2.2.2.2.2 j = T.getD j 0
theorem wt_0 : WT wz0 [] 16 := ⟨rfl, rfl, fun _ => rfl, by decide, fun j hj => absurd hj (Nat.not_lt_zero _)⟩
section WRT
variable {l : Launch} {G : GM} {h : List va_E} {B m ny ns nz np : Nat} {w : Wd} {T : List Int32} {p : Pl}
theorem vn_x {x : Int32} {a b : Nat} (h : vN x a b) (hb : b < 10000) : ∃ k, k < 10000 ∧ x = nI k := ⟨_, by have := h.2.1; omega, h.2.2⟩
/-- writePlant -/
theorem om_wp (ho : OB G h B w) (t : WT w T m) (hV : VT p ny ns nz np) (hA : AG p (w.2.2.1 1) ny ns nz np) (hX : (wtB p ny ns nz np).length ≤ 2000) : Cm l G mX6_writePlant 9 (cK (wtB p ny ns nz np).length m) (cU (wtB p ny ns nz np).length m) [.ref (gz G + B)] h (fun v h1 => v = some (.int (nI (wtB p ny ns nz np).length)) ∧ ∃ w1, OB G h1 B w1 ∧ hz_tF w w1 ∧ WT w1 (wtB p ny ns nz np) (cN (wtB p ny ns nz np).length m) ∧ OG B w w1 h h1) := by
  have eT := wt_c hV hA
  obtain ⟨⟨b1, b2, b3, b4⟩, ⟨s3, s4, s5, s6, s7⟩, vy, vs, vz, vp⟩ := hV
  obtain ⟨⟨e0, e1, e2, e8⟩, ⟨g3, g4, g5, g6, g7⟩, gy, gs, gz', gp⟩ := hA
  obtain ⟨t1, t2, t3, t4, t5⟩ := t
  have t0 : TB (GS G B) (kx (h.drop B) w) w T (h.drop B) m := ⟨w, hw_kx ho.2, ⟨fun _ _ _ => rfl, rfl, rfl, rfl, rfl⟩, t1, t2, t3, t4, t5⟩
  have c := (ctX6_writePlant (l := l) (ny := ny) (ns := ns) (nz := nz) (np := np) (z3 := (p.1 3).toNatClampNeg) (z4 := (p.1 4).toNatClampNeg) (z5 := (p.1 5).toNatClampNeg) (z6 := (p.1 6).toNatClampNeg) t0 (by rw [eT]; exact hX) e0 b1
    (fun i hi => by
      obtain ⟨a1, a2, a3⟩ := gy i hi
      obtain ⟨-, -, y, z⟩ := vy i hi
      obtain ⟨a, x1, x2⟩ := vn_x y (by decide)
      obtain ⟨b, y1, y2⟩ := vn_x z (by decide)
      exact ⟨a, b, x1, y1, a2.trans x2, a3.trans y2⟩) e1 b2
    (fun i hi => by
      obtain ⟨a1, a2⟩ := gs i hi
      obtain ⟨-, -, y⟩ := vs i hi
      obtain ⟨a, x1, x2⟩ := vn_x y (by decide)
      exact ⟨a, x1, a2.trans x2⟩) e2 b3
    (fun i hi => by
      obtain ⟨a1, a2, a3⟩ := gz' i hi
      obtain ⟨-, -, y, z⟩ := vz i hi
      obtain ⟨a, x1, x2⟩ := vn_x y (by decide)
      obtain ⟨b, y1, y2⟩ := vn_x z (by decide)
      exact ⟨a, b, x1, y1, a2.trans x2, a3.trans y2⟩) e8 b4
    (fun i hi => by
      obtain ⟨a8, a9, a10, a11, a12, a13⟩ := gp i hi
      obtain ⟨⟨y, y1, y2⟩, ⟨k, k1, k2⟩, u, -, s, -⟩ := vp i hi
      obtain ⟨a, x1, x2⟩ := vn_x u (by decide)
      obtain ⟨b, z1, z2⟩ := vn_x s (by decide)
      exact ⟨y, k, a, b, by omega, k1, x1, z1, a8.trans y2, a9.trans k2, a10.trans x2, a12.trans z2⟩)
    (by have := s3.2.1; omega) (by have := s4.2.1; omega) (by have := s5.2.1; omega) (by have := s6.2.1; omega) (g3.trans s3.2.2) (g4.trans s4.2.2) (g5.trans s5.2.2) (g6.trans s6.2.2)).m kCX6_writePlant
  rw [eT] at c
  refine (Cm.grow (Cm.shift ho.1 c)).post (fun v h1 hq => ?_)
  obtain ⟨⟨h2, rfl, rfl, w1, hw, f1, u1, u2, u3, u4, u5⟩, hl⟩ := hq
  refine ⟨rfl, w1, ⟨by have := ho.1; omega, ?_⟩, f1, ⟨u1, u2, u3, u4, u5⟩, ⟨hl, fun a ha hab hp => ?_⟩, ?_⟩
  · rw [td_drop ho.1]; exact hw_k0 hw
  · by_cases c1 : a < B
    · exact td_lo ho.1 c1
    · have hx := List.getElem?_eq_getElem ha
      rw [td_hi ho.1 (by omega), hx]
      refine hw.2.2.2.1 (a - B) _ (by omega) ?_
      unfold kx
      rw [if_neg (by omega), td_at (by omega)]
      exact hx
  · rcases hw.2.2.1.2.1 with c | ⟨-, c⟩
    · exact Or.inr (Or.inl c)
    · unfold kx at c
      split at c
      · rename_i e
        exact Or.inl e
      · rw [List.getElem?_drop, List.getElem?_eq_none_iff] at c
        exact Or.inr (Or.inr c)
theorem ob_sb (ho : OB G h B w) (t : WT w T m) : SBc (GS G B) (h.drop B) w.2.2.2.2.2.1 m T.length w.2.2.2.2.2.2.2 (w.1 17) := by
  obtain ⟨t1, t2, t3, t4, t5⟩ := t
  obtain ⟨hB, hw⟩ := ho
  have hb := hw.2.2.1
  obtain ⟨l1, l2, l3⟩ := ob_len (G := G) ⟨hB, hw⟩
  have hd : (h.drop B).length = h.length - B := List.length_drop
  refine ⟨?_, ?_, ?_, ⟨by omega, by omega⟩, t3, t4, ?_, ?_⟩
  · rw [← t1]; exact hw.2.1.2.2.1
  · rw [← t2]; exact hb.1
  · omega
  · rw [← t2]; exact hb.2.2.1
  · rw [← t2]; exact hb.2.2.2
theorem om_o1 (ho : OB G h B w) (t : WT w T m) {z : Int32} (hz : z < 0) : Cm l G mX6_outputByte 4 0 0 [.ref (gz G + B), .int z] h (fun v h1 => v = some (.int (-1)) ∧ h1 = h) := by
  refine (Cm.shift ho.1 ((ctX6_outB1 ho.2 (ob_sb ho t) hz).m kCX6_outputByte)).post (fun v h1 hq => ?_)
  obtain ⟨h2, rfl, rfl, rfl⟩ := hq
  exact ⟨rfl, List.take_append_drop B h⟩
theorem om_o2 (ho : OB G h B w) (t : WT w T m) {z : Int32} (hz : ¬ z < 0) (hc : ¬ z < nI T.length) : Cm l G mX6_outputByte 4 0 0 [.ref (gz G + B), .int z] h (fun v h1 => v = some (.int (-1)) ∧ h1 = h) := by
  refine (Cm.shift ho.1 ((ctX6_outB2 ho.2 (ob_sb ho t) hz hc).m kCX6_outputByte)).post (fun v h1 hq => ?_)
  obtain ⟨h2, rfl, rfl, rfl⟩ := hq
  exact ⟨rfl, List.take_append_drop B h⟩
theorem om_o3 (ho : OB G h B w) (t : WT w T m) {i b : Nat} (hi : i < T.length) (hb : T.getD i 0 = nI b) (h8 : b < 128) : Cm l G mX6_outputByte 4 0 0 [.ref (gz G + B), .int (nI i)] h (fun v h1 => v = some (.int (nI b)) ∧ h1 = h) := by
  have hn : m ≤ 4096 := by rw [← t.2.1]; exact ho.2.2.2.1.2.2.2
  have h4 := t.2.2.2.1
  refine (Cm.shift ho.1 ((ctX6_outB3 ho.2 (ob_sb ho t) (nI_pos (by omega)) (nI_lt hi (by omega)) hi ((t.2.2.2.2 i hi).trans hb) h8).m kCX6_outputByte)).post (fun v h1 hq => ?_)
  obtain ⟨h2, rfl, rfl, rfl⟩ := hq
  exact ⟨rfl, List.take_append_drop B h⟩
end WRT
