/-! A builder of the law's, anywhere: its text so far. -/
def BL (G : GM) (h : List va_E) (B : Nat) (T : List Int32) : Prop := B ≤ h.length ∧ ∃ v n f ml, SBc (GS G B) (h.drop B) v n T.length f ml ∧ ∀ j, j < T.length → f j = T.getD j 0
/-- what a call on a builder leaves -/
def BF (B : Nat) (h h1 : List va_E) : Prop := h.length ≤ h1.length ∧ ∀ a, a < B + 19 → h1[a]? = h[a]?
theorem bf_T {B : Nat} {h h1 h2 : List va_E} (a : BF B h h1) (b : BF B h1 h2) : BF B h h2 := ⟨Nat.le_trans a.1 b.1, fun q hq => (b.2 q hq).trans (a.2 q hq)⟩
theorem bf_0 (B : Nat) (h : List va_E) : BF B h h := ⟨Nat.le_refl _, fun _ _ => rfl⟩
theorem td_len {h : List va_E} {B : Nat} (hB : B ≤ h.length) : (h.take B).length = B := by rw [List.length_take]; omega
theorem td_drop {h h2 : List va_E} {B : Nat} (hB : B ≤ h.length) : (h.take B ++ h2).drop B = h2 := by
  rw [List.drop_append, td_len hB, Nat.sub_self, List.drop_zero, List.drop_of_length_le (by rw [td_len hB]; exact Nat.le_refl _), List.nil_append]
theorem td_lo {h h2 : List va_E} {B a : Nat} (hB : B ≤ h.length) (ha : a < B) : (h.take B ++ h2)[a]? = h[a]? := by
  rw [List.getElem?_append_left (by rw [td_len hB]; exact ha), List.getElem?_take_of_lt ha]
theorem td_hi {h h2 : List va_E} {B a : Nat} (hB : B ≤ h.length) (ha : B ≤ a) : (h.take B ++ h2)[a]? = h2[a - B]? := by
  rw [List.getElem?_append_right (by rw [td_len hB]; exact ha), td_len hB]
theorem td_at {h : List va_E} {B a : Nat} (ha : B ≤ a) : (h.drop B)[a - B]? = h[a]? := by
  rw [List.getElem?_drop, show B + (a - B) = a by omega]
theorem sbK_le (q n : Nat) : sbK q n ≤ 1 := by unfold sbK; split <;> omega
theorem sbU_le {q n : Nat} (h : q ≤ 999) : sbU q n ≤ 2000 := by unfold sbU; split <;> omega
theorem sbU2_le {q n : Nat} (h : q ≤ 999) : sbU2 q n ≤ 2000 := by
  unfold sbU2
  split
  · omega
  · split <;> omega
theorem gD_app {T S : List Int32} {f1 f : Nat → Int32} (h1 : ∀ j, j < T.length → f1 j = f j) (h2 : ∀ j, j < T.length → f j = T.getD j 0) (h3 : ∀ i, i < S.length → f1 (T.length + i) = S.getD i 0) : ∀ j, j < (T ++ S).length → f1 j = (T ++ S).getD j 0 := by
  intro j hj
  rw [List.length_append] at hj
  by_cases c : j < T.length
  · rw [h1 j c, h2 j c, List.getD_eq_getElem?_getD, List.getD_eq_getElem?_getD, List.getElem?_append_left c]
  · have e := h3 (j - T.length) (by omega)
    rw [show T.length + (j - T.length) = j by omega] at e
    rw [e, List.getD_eq_getElem?_getD, List.getD_eq_getElem?_getD, List.getElem?_append_right (by omega)]
section BLS
variable {l : Launch} {G : GM} {B : Nat} {h : List va_E} {T : List Int32}
/-- from the builder's own contract to what a caller sees -/
theorem bl_post {h2 : List va_E} {v n v1 n1 X : Nat} {f f1 : Nat → Int32} {ml : Int32} {S : List Int32} (hB : B ≤ h.length) (hb : SBc (GS G B) (h.drop B) v n T.length f ml) (hT : ∀ j, j < T.length → f j = T.getD j 0) (b1 : SBc (GS G B) h2 v1 n1 (T.length + X) f1 ml) (b2 : SBf (h.drop B) h2 v v1) (hX : X = S.length) (b4 : ∀ j, j < T.length → f1 j = f j) (b5 : ∀ i, i < S.length → f1 (T.length + i) = S.getD i 0) : BL G (h.take B ++ h2) B (T ++ S) ∧ BF B h (h.take B ++ h2) := by
  have hl : 19 < (h.drop B).length := (List.getElem?_eq_some_iff.mp hb.1).1
  have hd : (h.drop B).length = h.length - B := List.length_drop
  refine ⟨⟨by rw [List.length_append, td_len hB]; omega, v1, n1, f1, ml, ?_, gD_app b4 hT b5⟩, ?_, fun a ha => ?_⟩
  · rw [td_drop hB, List.length_append, ← hX]; exact b1
  · have := b2.1
    rw [List.length_append, td_len hB]; omega
  · by_cases c : a < B
    · exact td_lo hB c
    · have hv := hb.2.2.2.1.2
      rw [td_hi hB (by omega), b2.2.1 (a - B) (by omega) (by omega) (by omega), td_at (by omega)]
theorem bl_appS (hb : BL G h B T) {j : Nat} {q : String × Nat × String × List Int32} (hj : strTab[j]? = some q) (hX : T.length + q.2.2.2.length ≤ 999) : Cm l G mJ4_append_15ec4 5 1 2000 [.ref (gz G + (B + 19)), .ref (gS G j)] h (fun r h1 => r = some (.ref (gz G + (B + 19))) ∧ BL G h1 B (T ++ q.2.2.2) ∧ BF B h h1) := by
  obtain ⟨hB, v, n, f, ml, sb, hT⟩ := hb
  have c := (ct_room (ctJ4_appendSL (l := l) sb hj (by omega)) (sbK_le _ _) (sbU2_le hX)).m kCJ4_append_15ec4
  refine (Cm.shift hB c).post (fun r h1 hq => ?_)
  obtain ⟨h2, rfl, rfl, v1, n1, f1, b1, b2, b3, b4, b5⟩ := hq
  exact ⟨rfl, bl_post hB sb hT b1 b2 rfl b4 b5⟩
theorem bl_appI (hb : BL G h B T) {z : Nat} (hz : z < 10000) (hX : T.length + sbW z ≤ 999) : Cm l G mJ4_append_bf812 5 1 2000 [.ref (gz G + (B + 19)), .int (nI z)] h (fun r h1 => r = some (.ref (gz G + (B + 19))) ∧ BL G h1 B (T ++ numB z) ∧ BF B h h1) := by
  obtain ⟨hB, v, n, f, ml, sb, hT⟩ := hb
  have c := (ct_room (ctJ4_appendI (l := l) sb hz (by omega)) (sbK_le _ _) (sbU_le hX)).m kCJ4_append_bf812
  refine (Cm.shift hB c).post (fun r h1 hq => ?_)
  obtain ⟨h2, rfl, rfl, v1, n1, f1, b1, b2, b3, b4, b5⟩ := hq
  refine ⟨rfl, bl_post hB sb hT b1 b2 (numB_len z).symm b4 (fun i hi => ?_)⟩
  rw [numB_len] at hi
  rw [b5 i hi, numB_at z hi]
theorem bl_appC (hb : BL G h B T) {c : Nat} (hc : c < 128) (hX : T.length + 1 ≤ 999) : Cm l G mJ4_append_cf468 5 1 2000 [.ref (gz G + (B + 19)), .int (nI c)] h (fun r h1 => r = some (.ref (gz G + (B + 19))) ∧ BL G h1 B (T ++ [nI c]) ∧ BF B h h1) := by
  obtain ⟨hB, v, n, f, ml, sb, hT⟩ := hb
  have hc2 : ¬ 255 < nI c := by rw [hz_lt, nI_toInt (by omega)]; show ¬ (255 : Int) < (c : Int); omega
  have c := (ct_room (ctJ4_appendC (l := l) sb hc2 (by omega)) (sbK_le _ _) (sbU_le hX)).m kCJ4_append_cf468
  refine (Cm.shift hB c).post (fun r h1 hq => ?_)
  obtain ⟨h2, rfl, rfl, v1, n1, f1, b1, b2, b3, b4, b5⟩ := hq
  refine ⟨rfl, bl_post hB sb hT b1 b2 rfl b4 (fun i hi => ?_)⟩
  have hi0 : i = 0 := by
    have : i < 1 := hi
    omega
  subst hi0
  show f1 (T.length + 0) = nI _
  rw [Nat.add_zero, b5]
  exact sb_b128 _ hc
theorem bl_cell (hb : BL G h B T) : ∃ fs, h[B + 19]? = some (.inr (0, fs)) := by
  obtain ⟨hB, v, n, f, ml, sb, hT⟩ := hb
  have e := sb.1
  rw [List.getElem?_drop] at e
  exact ⟨_, e⟩
theorem bl_init (hl : h.length = B + 20) (hc : h[B + 19]? = some (.inr (0, [.null, .int 0, .int 0, .int 0]))) : Cm l G mJ4_init_da8c8 2 1 16 [.ref (gz G + (B + 19))] h (fun r h1 => r = none ∧ BL G h1 B [] ∧ BF B h h1) := by
  have hB : B ≤ h.length := by omega
  have hd : (h.drop B).length = 20 := by rw [List.length_drop]; omega
  have c := (ctJ4_init_da8c8 (l := l) (G := GS G B) (h := h.drop B) hd (by rw [List.getElem?_drop]; exact hc)).m kCJ4_init_da8c8
  refine (Cm.shift hB c).post (fun r h1 hq => ?_)
  obtain ⟨h2, rfl, rfl, b1, b2, b3, b4⟩ := hq
  refine ⟨rfl, ⟨by rw [List.length_append, td_len hB]; omega, 20, 16, fun _ => 0, 0, ?_, fun j hj => absurd hj (Nat.not_lt_zero j)⟩, ?_, fun a ha => ?_⟩
  · rw [td_drop hB]
    exact ⟨b3, b4, by decide, ⟨by omega, Or.inl rfl⟩, bb_fit0, by decide, by decide, by decide⟩
  · rw [List.length_append, td_len hB]; omega
  · by_cases c1 : a < B
    · exact td_lo hB c1
    · rw [td_hi hB (by omega), b2 (a - B) (by omega), td_at (by omega)]
/-- a String that the law made, above lo -/
def SD (G : GM) (lo : Nat) (h : List va_E) (si : Nat) (T : List Int32) : Prop := ∃ sr f, lo ≤ si ∧ lo ≤ sr ∧ DSt G h si sr f T.length ∧ ∀ j, j < T.length → f j = T.getD j 0
theorem sd_fr {lo si : Nat} {h1 : List va_E} (hs : SD G lo h si T) (hf : ∀ a, lo ≤ a → a < h.length → h1[a]? = h[a]?) : SD G lo h1 si T := by
  obtain ⟨sr, f, a1, a2, ⟨b1, b2, b3⟩, a4⟩ := hs
  exact ⟨sr, f, a1, a2, ⟨(hf _ a1 (List.getElem?_eq_some_iff.mp b1).1).trans b1, (hf _ a2 (List.getElem?_eq_some_iff.mp b2).1).trans b2, b3⟩, a4⟩
theorem bl_toStr (hb : BL G h B T) : Cm l G mJ4_toString_0e30d 5 2 (4 + T.length) [.ref (gz G + (B + 19))] h (fun r h1 => r = some (.ref (gz G + h.length)) ∧ SD G h.length h1 h.length T ∧ h.length ≤ h1.length ∧ ∀ a, a < h.length → h1[a]? = h[a]?) := by
  obtain ⟨hB, v, n, f, ml, sb, hT⟩ := hb
  have hl : 19 < (h.drop B).length := (List.getElem?_eq_some_iff.mp sb.1).1
  have hd : (h.drop B).length = h.length - B := List.length_drop
  have c := (ctJ4_toString (l := l) sb).m kCJ4_toString_0e30d
  refine (Cm.shift hB c).post (fun r h1 hq => ?_)
  obtain ⟨h2, rfl, rfl, g, e1, ⟨d1, d2, d3⟩, d4⟩ := hq
  have e3 : gz (GS G B) + (h.drop B).length = gz G + h.length := by show gz G + B + _ = _; omega
  have e4 : ((h.drop B) ++ [(.inr (8, [.null, .int 0, .int 0, .int 0]) : va_E)]).length = h.length - B + 1 := by rw [List.length_append, hd]; rfl
  have hl2 : h2.length = h.length - B + 2 := by rw [e1, List.length_set, List.length_append, e4]; rfl
  rw [e4] at d1 d2
  rw [hd] at d1
  have d1' : h2[h.length - B]? = some (.inr (8, [.ref (gz G + (h.length + 1)), .int 0, .int 0, .int 0])) := by
    rw [d1]
    show some (Sum.inr (8, [Value.ref (gz G + B + (h.length - B + 1)), _, _, _]) : va_E) = _
    rw [show gz G + B + (h.length - B + 1) = gz G + (h.length + 1) by omega]
  refine ⟨by rw [e3], ⟨h.length + 1, g, Nat.le_refl _, Nat.le_succ _, ⟨?_, ?_, d3⟩, fun j hj => by rw [d4 j hj, hT j hj]⟩, ?_, fun a ha => ?_⟩
  · rw [td_hi hB (by omega)]; exact d1'
  · rw [td_hi hB (by omega), show h.length + 1 - B = h.length - B + 1 by omega]; exact d2
  · rw [List.length_append, td_len hB]; omega
  · by_cases c1 : a < B
    · exact td_lo hB c1
    · rw [td_hi hB (by omega), e1, List.getElem?_set_ne (by omega), List.getElem?_append_left (by rw [e4]; omega), List.getElem?_append_left (by omega), td_at (by omega)]
theorem bl_initS {si : Nat} (hc : h[B + 19]? = some (.inr (0, [.null, .int 0, .int 0, .int 0]))) (hs : SD G (B + 20) h si T) (hT : T.length ≤ 999) : Cm l G mJ4_init_a7421 8 1 (T.length + 16) [.ref (gz G + (B + 19)), .ref (gz G + si)] h (fun r h1 => r = none ∧ BL G h1 B T ∧ BF B h h1) := by
  obtain ⟨sr, f, a1, a2, ⟨d1, d2, d3⟩, d4⟩ := hs
  have hlc := (List.getElem?_eq_some_iff.mp hc).1
  have hB : B ≤ h.length := by omega
  have hj : DSt (GS G B) (h.drop B) (si - B) (sr - B) f T.length := by
    refine ⟨?_, ?_, d3⟩
    · rw [td_at (by omega), d1]
      show _ = some (Sum.inr (8, [Value.ref (gz G + B + (sr - B)), _, _, _]) : va_E)
      rw [show gz G + B + (sr - B) = gz G + sr by omega]
    · rw [td_at (by omega)]; exact d2
  have c := (ctJ4_initS (l := l) (G := GS G B) (h := h.drop B) (by rw [List.getElem?_drop]; exact hc) hj (by omega)).m kCJ4_init_a7421
  rw [show gz (GS G B) + (si - B) = gz G + si by show gz G + B + _ = _; omega] at c
  refine (Cm.shift hB c).post (fun r h1 hq => ?_)
  obtain ⟨h2, rfl, rfl, v1, n1, f1, b1, b2, b3, b4, b5⟩ := hq
  have hd : (h.drop B).length = h.length - B := List.length_drop
  refine ⟨rfl, ⟨by rw [List.length_append, td_len hB]; omega, v1, n1, f1, 0, by rw [td_drop hB]; exact b1, fun j hj => by rw [b5 j hj, d4 j hj]⟩, ?_, fun a ha => ?_⟩
  · rw [List.length_append, td_len hB]; omega
  · by_cases c1 : a < B
    · exact td_lo hB c1
    · rw [td_hi hB (by omega), b4 (a - B) (by omega) (by omega), td_at (by omega)]
end BLS
section BLR
variable {l : Launch} {G : GM} {M : MD} {d k u pc idx B t s k1 u1 : Nat} {h : List va_E} {T : List Int32} {lv : List (Nat × Value)} {rest : List Value} {Q : Option Value → List va_E → Prop}
/-- append in a row: a constant, a number, a sign -/
theorem bl_S {j : Nat} {q : String × Nat × String × List Int32} (hd : decode M.2.1 pc = .ok (.invokevirtual idx, 3)) (hM : okV M.1.cls idx mJ4_append_15ec4 1) (hb : BL G h B T) (hj : strTab[j]? = some q) (hT : T.length ≤ t) (hS : q.2.2.2.length ≤ s) (hX : t + s ≤ 999) (hw : (rest.map fun v => v.category).sum ≤ 8) (hd2 : 6 ≤ d) (hk : k1 + 1 ≤ k) (hu : u1 + 2000 ≤ u) (kk : ∀ h1, BL G h1 B (T ++ q.2.2.2) → (T ++ q.2.2.2).length ≤ t + s → BF B h h1 → Tr l G M d k1 u1 (pc + 3) lv (.ref (gz G + (B + 19)) :: rest) h1 Q) : Tr l G M d k u pc lv (.ref (gS G j) :: .ref (gz G + (B + 19)) :: rest) h Q := by
  obtain ⟨fs, hc⟩ := bl_cell hb
  refine mm_callV (As := [.ref (gS G j)]) (rest := rest) (i := B + 19) hd hM rfl hc rfl rfl hw (d2 := 5) (by omega) (k2 := 1) (by omega) (u2 := 2000) (by omega) (bl_appS hb hj (by omega)) (fun r h1 hq => ?_)
  obtain ⟨rfl, b1, b2⟩ := hq
  exact am_room (kk h1 b1 (by rw [List.length_append]; omega) b2) (by omega) (by omega)
theorem bl_I {z : Nat} (hd : decode M.2.1 pc = .ok (.invokevirtual idx, 3)) (hM : okV M.1.cls idx mJ4_append_bf812 1) (hb : BL G h B T) (hz : z < 10000) (hT : T.length ≤ t) (hX : t + 4 ≤ 999) (hw : (rest.map fun v => v.category).sum ≤ 8) (hd2 : 6 ≤ d) (hk : k1 + 1 ≤ k) (hu : u1 + 2000 ≤ u) (kk : ∀ h1, BL G h1 B (T ++ numB z) → (T ++ numB z).length ≤ t + 4 → BF B h h1 → Tr l G M d k1 u1 (pc + 3) lv (.ref (gz G + (B + 19)) :: rest) h1 Q) : Tr l G M d k u pc lv (.int (nI z) :: .ref (gz G + (B + 19)) :: rest) h Q := by
  obtain ⟨fs, hc⟩ := bl_cell hb
  have hs := sbW_le z
  refine mm_callV (As := [.int (nI z)]) (rest := rest) (i := B + 19) hd hM rfl hc rfl rfl hw (d2 := 5) (by omega) (k2 := 1) (by omega) (u2 := 2000) (by omega) (bl_appI hb hz (by omega)) (fun r h1 hq => ?_)
  obtain ⟨rfl, b1, b2⟩ := hq
  exact am_room (kk h1 b1 (by rw [List.length_append, numB_len]; omega) b2) (by omega) (by omega)
theorem bl_C {c : Nat} (hd : decode M.2.1 pc = .ok (.invokevirtual idx, 3)) (hM : okV M.1.cls idx mJ4_append_cf468 1) (hb : BL G h B T) (hc8 : c < 128) (hT : T.length ≤ t) (hX : t + 1 ≤ 999) (hw : (rest.map fun v => v.category).sum ≤ 8) (hd2 : 6 ≤ d) (hk : k1 + 1 ≤ k) (hu : u1 + 2000 ≤ u) (kk : ∀ h1, BL G h1 B (T ++ [nI c]) → (T ++ [nI c]).length ≤ t + 1 → BF B h h1 → Tr l G M d k1 u1 (pc + 3) lv (.ref (gz G + (B + 19)) :: rest) h1 Q) : Tr l G M d k u pc lv (.int (nI c) :: .ref (gz G + (B + 19)) :: rest) h Q := by
  obtain ⟨fs, hc⟩ := bl_cell hb
  refine mm_callV (As := [.int (nI c)]) (rest := rest) (i := B + 19) hd hM rfl hc rfl rfl hw (d2 := 5) (by omega) (k2 := 1) (by omega) (u2 := 2000) (by omega) (bl_appC hb hc8 (by omega)) (fun r h1 hq => ?_)
  obtain ⟨rfl, b1, b2⟩ := hq
  exact am_room (kk h1 b1 (by rw [List.length_append]; exact Nat.succ_le_succ hT) b2) (by omega) (by omega)
end BLR
