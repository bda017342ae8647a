/-! The model writes: one text on both sides. -/
def MT (m0 : Md) (T : List Int32) (m : Md) : Prop := (∀ k, ¬ k = 12 → m.1 k = m0.1 k) ∧ (∀ k, ¬ k = 8 → m.2.1 k = m0.2.1 k) ∧ m.2.2 = m0.2.2 ∧ m.1 12 = nI T.length ∧ ∀ j, j < T.length → m.2.1 8 j = T.getD j 0
theorem bb_b7 : ∀ b, b < 128 → ((nI b).toInt8.toInt32).toInt8.toInt32 = nI b := by decide +kernel
theorem mt_row {m0 m : Md} {T : List Int32} (h : MT m0 T m) : m.2.1 0 = m0.2.1 0 := h.2.1 0 (by decide)
theorem mt_w {m0 m : Md} {T : List Int32} (h : MT m0 T m) {z : Int32} {b : Nat} (hz : z = nI b) (hb : b < 128) (hT : T.length + 1 ≤ 2000) : sX7_write m z ∧ MT m0 (T ++ [nI b]) (fX7_write m z) := by
  obtain ⟨h1, h2, h3, h4, h5⟩ := h
  unfold sX7_write fX7_write
  simp only [hz_bnd]
  rw [hz, bb_b7 b hb, h4, nI_clamp (by omega)]
  refine ⟨⟨vp_in_nI (by omega) (by omega), trivial⟩, fun k hk => (if_neg hk).trans (h1 k hk), fun k hk => (if_neg hk).trans (h2 k hk), h3, ?_, fun j hj => ?_⟩
  · show (if (12 : Nat) = 12 then m.1 12 + 1 else m.1 12) = _
    rw [if_pos rfl, h4, ← nI_succ, List.length_append]
    rfl
  · show upd (m.2.1 8) T.length (nI b) j = _
    rw [List.length_append] at hj
    have hj2 : j < T.length + 1 := hj
    by_cases c : j = T.length
    · rw [c, pk_us, List.getD_eq_getElem?_getD, List.getElem?_append_right (by omega), Nat.sub_self]
      rfl
    · rw [pk_un c, h5 j (by omega), List.getD_eq_getElem?_getD, List.getD_eq_getElem?_getD, List.getElem?_append_left (by omega)]
theorem mt_textL {m0 : Md} {q : String × Nat × String × List Int32} {L : List Int32} (hq : q.2.2.2 = L) (hl : L.length ≤ 12) (hc : ∀ i, i < L.length → ∃ c, c < 128 ∧ L.getD i 0 = nI c) : ∀ (n i fu : Nat) (m : Md) (T : List Int32), i + n = L.length → n < fu → MT m0 T m → T.length + n ≤ 2000 → sX7_writeText_2 q fu (nI i) m ∧ MT m0 (T ++ L.drop i) (fX7_writeText_2 q fu (nI i) m).2 := by
  intro n
  induction n with
  | zero =>
    intro i fu m T hi hf h hT
    obtain ⟨fu, rfl⟩ : ∃ k, fu = k + 1 := ⟨fu - 1, by omega⟩
    have c : nI q.2.2.2.length ≤ nI i := by rw [hq, hz_le, nI_toInt (by omega), nI_toInt (by omega)]; omega
    have e : fX7_writeText_2 q (fu + 1) (nI i) m = (nI i, m) := if_pos c
    rw [e, List.drop_of_length_le (by omega), List.append_nil]
    exact ⟨⟨fun _ => trivial, fun h2 => absurd c h2⟩, h⟩
  | succ n ih =>
    intro i fu m T hi hf h hT
    obtain ⟨fu, rfl⟩ : ∃ k, fu = k + 1 := ⟨fu - 1, by omega⟩
    have c : ¬ nI q.2.2.2.length ≤ nI i := by rw [hq, hz_le, nI_toInt (by omega), nI_toInt (by omega)]; omega
    obtain ⟨b, b1, b2⟩ := hc i (by omega)
    have e1 : fX7_writeText_2 q (fu + 1) (nI i) m = (if nI q.2.2.2.length ≤ nI i then (nI i, m) else fX7_writeText_2 q fu (nI i + 1) (fX7_write m (ichr ((q.2.2.2.getD (nI i).toNatClampNeg 0) &&& 255)))) := rfl
    have e2 : sX7_writeText_2 q (fu + 1) (nI i) m = ((nI q.2.2.2.length ≤ nI i → True) ∧ (¬ nI q.2.2.2.length ≤ nI i → (¬ nI i < 0 ∧ (sX7_write m (ichr ((q.2.2.2.getD (nI i).toNatClampNeg 0) &&& 255)) ∧ sX7_writeText_2 q fu (nI i + 1) (fX7_write m (ichr ((q.2.2.2.getD (nI i).toNatClampNeg 0) &&& 255))))))) := rfl
    have ex : ichr ((q.2.2.2.getD (nI i).toNatClampNeg 0) &&& 255) = nI b := by rw [hq, nI_clamp (by omega), b2, hz_ic b b1]
    rw [if_neg c, ex, ← nI_succ] at e1
    rw [ex, ← nI_succ] at e2
    obtain ⟨w1, w2⟩ := mt_w h rfl b1 (by omega)
    obtain ⟨i1, i2⟩ := ih (i + 1) fu (fX7_write m (nI b)) (T ++ [nI b]) (by omega) (by omega) w2 (by rw [List.length_append]; show T.length + 1 + n ≤ 2000; omega)
    rw [e1, e2]
    refine ⟨⟨fun h2 => absurd h2 c, fun _ => ⟨nI_pos (by omega), w1, i1⟩⟩, ?_⟩
    have ed : L.drop i = nI b :: L.drop (i + 1) := by
      rw [List.drop_eq_getElem_cons (by omega : i < L.length)]
      congr 1
      rw [← b2, List.getD_eq_getElem?_getD, List.getElem?_eq_getElem (by omega)]
      rfl
    rw [ed, show T ++ nI b :: L.drop (i + 1) = (T ++ [nI b]) ++ L.drop (i + 1) by simp]
    exact i2
theorem mt_text {m0 m : Md} {T : List Int32} (h : MT m0 T m) (q : String × Nat × String × List Int32) {L : List Int32} (hq : q.2.2.2 = L) (hl : L.length ≤ 12) (hc : L.all (fun x => decide (0 ≤ x) && decide (x < 128)) = true) (hT : T.length + L.length ≤ 2000) : sX7_writeText m q ∧ MT m0 (T ++ L) (fX7_writeText m q) := by
  have h8 := (hz_c8 hl hc).2
  have hf : fuU (nI q.2.2.2.length) 0 = L.length + 1 := by rw [hq]; exact hz_fu0 (by omega)
  obtain ⟨a, b⟩ := mt_textL (m0 := m0) hq hl h8 L.length 0 (L.length + 1) m T (by omega) (by omega) h hT
  rw [nI_0] at a b
  unfold sX7_writeText fX7_writeText
  simp only [hz_bnd]
  rw [hf]
  exact ⟨⟨a, trivial⟩, b⟩
/-! numbers -/
theorem bb_div {z p : Nat} (hz : z < 100000) (hp : 0 < p) (hp2 : p < 100000) : nI z / nI p = nI (z / p) := by
  have hq : z / p ≤ z := Nat.div_le_self z p
  rw [hz_inj, Int32.toInt_div_of_ne_right _ _ (fun h => by have := congrArg Int32.toInt h; rw [nI_toInt (by omega)] at this; have e : (-1 : Int32).toInt = -1 := rfl; omega), nI_toInt (by omega), nI_toInt (by omega), nI_toInt (by omega), Int.tdiv_eq_ediv_of_nonneg (by omega)]
  rfl
theorem bb_mod {q : Nat} (hq : q < 100000) : nI q - nI q / 10 * 10 = nI (q % 10) := by
  have e : nI q / 10 = nI (q / 10) := bb_div hq (p := 10) (by decide) (by decide)
  have e2 : nI (q / 10) * 10 = nI (q / 10 * 10) := pk_mul (q / 10) 10
  rw [e, e2, pk_sub (by omega)]
  congr 1
  omega
def dgB (z j : Nat) : List Int32 := (List.range (j + 1)).map (fun i => nI (48 + z / 10 ^ (j - i) % 10))
theorem dgB_0 (z : Nat) : dgB z 0 = [nI (48 + z % 10)] := by
  show [nI (48 + z / 10 ^ (0 - 0) % 10)] = _
  rw [show 0 - 0 = 0 from rfl, Nat.pow_zero, Nat.div_one]
theorem dgB_s (z j : Nat) : dgB z (j + 1) = nI (48 + z / 10 ^ (j + 1) % 10) :: dgB z j := by
  unfold dgB
  rw [List.range_succ_eq_map, List.map_cons, List.map_map]
  congr 1
  apply List.map_congr_left
  intro i hi
  show nI (48 + z / 10 ^ (j + 1 - (i + 1)) % 10) = _
  rw [show j + 1 - (i + 1) = j - i by omega]
theorem mt_dig {m0 : Md} {z : Nat} (hz : z < 10000) : ∀ (j fu : Nat) (m : Md) (T : List Int32), j ≤ 3 → j + 1 < fu → MT m0 T m → T.length + (j + 1) ≤ 2000 → sX7_writeNumber_26 (nI z) fu (nI (10 ^ j)) m ∧ MT m0 (T ++ dgB z j) (fX7_writeNumber_26 (nI z) fu (nI (10 ^ j)) m).2 := by
  have e1 : ∀ (fu : Nat) (x : Int32) (m : Md), fX7_writeNumber_26 (nI z) (fu + 1) x m = (if x ≤ 0 then (x, m) else fX7_writeNumber_26 (nI z) fu (x / 10) (fX7_write m (48 + ((nI z / x) - (nI z / x) / 10 * 10)))) := fun _ _ _ => rfl
  have e2 : ∀ (fu : Nat) (x : Int32) (m : Md), sX7_writeNumber_26 (nI z) (fu + 1) x m = ((x ≤ 0 → True) ∧ (¬ x ≤ 0 → (sX7_write m (48 + ((nI z / x) - (nI z / x) / 10 * 10)) ∧ sX7_writeNumber_26 (nI z) fu (x / 10) (fX7_write m (48 + ((nI z / x) - (nI z / x) / 10 * 10)))))) := fun _ _ _ => rfl
  have key : ∀ (p : Nat), 0 < p → p ≤ 1000 → (48 : Int32) + ((nI z / nI p) - (nI z / nI p) / 10 * 10) = nI (48 + z / p % 10) := fun p h1 h2 => by
    have := Nat.div_le_self z p
    rw [bb_div (by omega) h1 (by omega), bb_mod (by omega)]
    exact nI_add 48 (z / p % 10)
  intro j
  induction j with
  | zero =>
    intro fu m T hj hf h hT
    obtain ⟨fu, rfl⟩ : ∃ k, fu = k + 1 + 1 := ⟨fu - 2, by omega⟩
    have c : ¬ nI (10 ^ 0) ≤ 0 := sb_pos (by decide) (by decide)
    have c0 : (0 : Int32) ≤ 0 := by decide
    have ed : nI (10 ^ 0) / 10 = 0 := by decide
    have kz := key (10 ^ 0) (by decide) (by decide)
    rw [Nat.pow_zero, Nat.div_one] at kz
    obtain ⟨w1, w2⟩ := mt_w h (show nI (48 + z % 10) = nI (48 + z % 10) from rfl) (by omega) (by omega)
    rw [e1, e2, if_neg c, ed, e1, e2, if_pos c0, Nat.pow_zero, kz, dgB_0]
    exact ⟨⟨fun h2 => absurd h2 c, fun _ => ⟨w1, fun _ => trivial, fun h2 => absurd c0 h2⟩⟩, w2⟩
  | succ j ih =>
    intro fu m T hj hf h hT
    obtain ⟨fu, rfl⟩ : ∃ k, fu = k + 1 := ⟨fu - 1, by omega⟩
    have hp : 10 ^ (j + 1) ≤ 1000 ∧ 0 < 10 ^ (j + 1) ∧ 10 ^ (j + 1) / 10 = 10 ^ j := by
      rcases (show j = 0 ∨ j = 1 ∨ j = 2 by omega) with rfl | rfl | rfl <;> decide
    have c : ¬ nI (10 ^ (j + 1)) ≤ 0 := sb_pos hp.2.1 (by omega)
    have ed : nI (10 ^ (j + 1)) / 10 = nI (10 ^ j) := by
      have := bb_div (z := 10 ^ (j + 1)) (p := 10) (by omega) (by decide) (by decide)
      rw [hp.2.2] at this
      exact this
    have kz := key (10 ^ (j + 1)) hp.2.1 hp.1
    obtain ⟨w1, w2⟩ := mt_w h (show nI (48 + z / 10 ^ (j + 1) % 10) = nI (48 + z / 10 ^ (j + 1) % 10) from rfl) (by omega) (by omega)
    obtain ⟨i1, i2⟩ := ih fu (fX7_write m (nI (48 + z / 10 ^ (j + 1) % 10))) (T ++ [nI (48 + z / 10 ^ (j + 1) % 10)]) (by omega) (by omega) w2 (by rw [List.length_append]; show T.length + 1 + (j + 1) ≤ 2000; omega)
    rw [e1, e2, if_neg c, ed, kz, dgB_s, show T ++ nI (48 + z / 10 ^ (j + 1) % 10) :: dgB z j = (T ++ [nI (48 + z / 10 ^ (j + 1) % 10)]) ++ dgB z j by simp]
    exact ⟨⟨fun h2 => absurd h2 c, fun _ => ⟨w1, i1⟩⟩, i2⟩
theorem numB_dg {z j : Nat} (h : sbW z = j + 1) : numB z = dgB z j := by
  unfold numB dgB
  rw [h]
  apply List.map_congr_left
  intro i hi
  show nI (48 + z / 10 ^ (j + 1 - 1 - i) % 10) = _
  rw [show j + 1 - 1 - i = j - i by omega]
theorem bb_lt10 {z p : Nat} (hz : z < 100000) (hp : 0 < p) (hp2 : p < 100000) : (nI z / nI p < 10) ↔ z / p < 10 := by
  have := Nat.div_le_self z p
  rw [bb_div hz hp hp2, hz_lt, nI_toInt (by omega), show (10 : Int32).toInt = 10 from rfl]
  omega
theorem mt_by {z : Nat} (hz : z < 10000) (m : Md) (F : Nat) : ∃ j, j ≤ 3 ∧ sbW z = j + 1 ∧ fX7_writeNumber_8 (nI z) m (F + 1 + 1 + 1 + 1) 1 = nI (10 ^ j) ∧ sX7_writeNumber_8 (nI z) m (F + 1 + 1 + 1 + 1) 1 := by
  have e1 : ∀ (fu : Nat) (x : Int32), fX7_writeNumber_8 (nI z) m (fu + 1) x = (if nI z / x < 10 then x else fX7_writeNumber_8 (nI z) m fu (x * 10)) := fun _ _ => rfl
  have e2 : ∀ (fu : Nat) (x : Int32), sX7_writeNumber_8 (nI z) m (fu + 1) x = (¬ x = 0 ∧ ((nI z / x < 10 → True) ∧ (¬ nI z / x < 10 → sX7_writeNumber_8 (nI z) m fu (x * 10)))) := fun _ _ => rfl
  have t1 : (nI z / 1 < 10) ↔ z / 1 < 10 := bb_lt10 (p := 1) (by omega) (by decide) (by decide)
  have t2 : (nI z / 10 < 10) ↔ z / 10 < 10 := bb_lt10 (p := 10) (by omega) (by decide) (by decide)
  have t3 : (nI z / 100 < 10) ↔ z / 100 < 10 := bb_lt10 (p := 100) (by omega) (by decide) (by decide)
  have t4 : (nI z / 1000 < 10) ↔ z / 1000 < 10 := bb_lt10 (p := 1000) (by omega) (by decide) (by decide)
  have m1 : (1 : Int32) * 10 = 10 := by decide
  have m2 : (10 : Int32) * 10 = 100 := by decide
  have m3 : (100 : Int32) * 10 = 1000 := by decide
  have z1 : ¬ (1 : Int32) = 0 := by decide
  have z2 : ¬ (10 : Int32) = 0 := by decide
  have z3 : ¬ (100 : Int32) = 0 := by decide
  have z4 : ¬ (1000 : Int32) = 0 := by decide
  by_cases c1 : z < 10
  · have d1 := t1.2 (by omega)
    refine ⟨0, by omega, by unfold sbW; rw [if_pos c1], ?_, ?_⟩
    · rw [e1, if_pos d1]; rfl
    · rw [e2]; exact ⟨z1, fun _ => trivial, fun h => absurd d1 h⟩
  · have d1 : ¬ nI z / 1 < 10 := fun h => by have := t1.1 h; omega
    by_cases c2 : z < 100
    · have d2 := t2.2 (by omega)
      refine ⟨1, by omega, by unfold sbW; rw [if_neg c1, if_pos c2], ?_, ?_⟩
      · rw [e1, if_neg d1, m1, e1, if_pos d2]; rfl
      · rw [e2, m1, e2]; exact ⟨z1, fun _ => trivial, fun _ => ⟨z2, fun _ => trivial, fun h => absurd d2 h⟩⟩
    · have d2 : ¬ nI z / 10 < 10 := fun h => by have := t2.1 h; omega
      by_cases c3 : z < 1000
      · have d3 := t3.2 (by omega)
        refine ⟨2, by omega, by unfold sbW; rw [if_neg c1, if_neg c2, if_pos c3], ?_, ?_⟩
        · rw [e1, if_neg d1, m1, e1, if_neg d2, m2, e1, if_pos d3]; rfl
        · rw [e2, m1, e2, m2, e2]; exact ⟨z1, fun _ => trivial, fun _ => ⟨z2, fun _ => trivial, fun _ => ⟨z3, fun _ => trivial, fun h => absurd d3 h⟩⟩⟩
      · have d3 : ¬ nI z / 100 < 10 := fun h => by have := t3.1 h; omega
        have d4 := t4.2 (by omega)
        refine ⟨3, by omega, by unfold sbW; rw [if_neg c1, if_neg c2, if_neg c3], ?_, ?_⟩
        · rw [e1, if_neg d1, m1, e1, if_neg d2, m2, e1, if_neg d3, m3, e1, if_pos d4]; rfl
        · rw [e2, m1, e2, m2, e2, m3, e2]; exact ⟨z1, fun _ => trivial, fun _ => ⟨z2, fun _ => trivial, fun _ => ⟨z3, fun _ => trivial, fun _ => ⟨z4, fun _ => trivial, fun h => absurd d4 h⟩⟩⟩⟩
theorem mt_num {m0 m : Md} {T : List Int32} (h : MT m0 T m) {z : Nat} (hz : z < 10000) (hT : T.length + 1 + sbW z ≤ 2000) : sX7_writeNumber m (nI z) ∧ MT m0 (T ++ [nI 32] ++ numB z) (fX7_writeNumber m (nI z)) := by
  have hs := sbW_le z
  obtain ⟨w1, w2⟩ := mt_w h (z := 32) (b := 32) rfl (by decide) (by omega)
  obtain ⟨r5, e5⟩ : ∃ r, fX7_write m 32 = r := ⟨_, rfl⟩
  rw [e5] at w2
  obtain ⟨j, j1, j2, j3, j4⟩ := mt_by hz r5 10
  have j3' : fX7_writeNumber_8 (nI z) r5 14 1 = nI (10 ^ j) := j3
  have j4' : sX7_writeNumber_8 (nI z) r5 14 1 := j4
  obtain ⟨d1, d2⟩ := mt_dig (m0 := m0) hz j 14 r5 (T ++ [nI 32]) j1 (by omega) w2 (by rw [List.length_append]; show T.length + 1 + (j + 1) ≤ 2000; omega)
  unfold sX7_writeNumber fX7_writeNumber
  simp only [hz_bnd]
  rw [e5, j3', numB_dg j2]
  exact ⟨⟨w1, j4', d1, trivial⟩, d2⟩
