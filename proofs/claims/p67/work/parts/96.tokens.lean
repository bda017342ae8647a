/-! The class's tokens: a word, a number, a sign, the end. -/
def TW (T : List Int32) (w : Wd) (X R : List Int32) : Prop := Cu T w R ∧ w.1 4 = 1 ∧ ∃ A, T = A ++ (X ++ R) ∧ w.1 5 = nI A.length ∧ w.1 6 = nI (A.length + X.length)
def TN (T : List Int32) (w : Wd) (v : Nat) (R : List Int32) : Prop := Cu T w R ∧ w.1 4 = 2 ∧ w.1 7 = nI v
def TY (T : List Int32) (w : Wd) (c : Int32) (R : List Int32) : Prop := Cu T w R ∧ w.1 4 = 3 ∧ fX6_at 1200 (w.2.1 0) (w.1 5) = c
def TE (T : List Int32) (w : Wd) : Prop := Cu T w [] ∧ w.1 4 = 0
theorem fw_T {w w1 w2 : Wd} (a : hz_fw w w1) (b : hz_fw w1 w2) : hz_fw w w2 := ⟨fun k h4 h5 h6 h7 => (b.1 k h4 h5 h6 h7).trans (a.1 k h4 h5 h6 h7), b.2.trans a.2⟩
theorem let_0 : fX6_isLetter (nI 32) = 0 ∧ fX6_isLetter (nI 59) = 0 ∧ fX4_isDigit (nI 32) = 0 ∧ fX4_isDigit (nI 59) = 0 ∧ fX4_isBlank (nI 59) = 0 := by decide
theorem isL_f {c : Int32} (h : isL c) : ¬ fX6_isLetter c = 0 ∧ fX4_isBlank c = 0 := by
  obtain ⟨b, b1, b2, rfl⟩ := h
  exact (by decide +kernel : ∀ b, b < 123 → 97 ≤ b → ¬ fX6_isLetter (nI b) = 0 ∧ fX4_isBlank (nI b) = 0) b (by omega) b1
theorem dig_f {d : Nat} (h : d ≤ 9) : fX6_isLetter (nI (48 + d)) = 0 ∧ ¬ fX4_isDigit (nI (48 + d)) = 0 ∧ fX4_isBlank (nI (48 + d)) = 0 := (by decide +kernel : ∀ d, d < 10 → fX6_isLetter (nI (48 + d)) = 0 ∧ ¬ fX4_isDigit (nI (48 + d)) = 0 ∧ fX4_isBlank (nI (48 + d)) = 0) d (by omega)
section TOK
variable {T : List Int32} {w : Wd} {b R : List Int32}
theorem cu_lt {c : Int32} {X : Wd} (h : Cu T X (c :: R)) : X.1 6 < X.1 3 := by
  have := (cu_at h).1
  exact Int32.not_le.mp this
theorem ad_w {X : List Int32} (hb : blk b) (hX : ∀ c, c ∈ X → isL c) (hX0 : X ≠ []) (hR : nlet R) (h : Cu T w (b ++ (X ++ R))) : TW T (fX4_advance w) X R ∧ hz_fw w (fX4_advance w) := by
  obtain ⟨c, X1, rfl⟩ : ∃ c X1, X = c :: X1 := by
    cases X with
    | nil => exact absurd rfl hX0
    | cons c X1 => exact ⟨c, X1, rfl⟩
  have hcl := isL_f (hX c List.mem_cons_self)
  obtain ⟨Y, y1, y2, y3, y4⟩ := sk_b hb h (fun d R1 e => by cases e; exact hcl.2)
  have e := hz_adv4 w Y y1
  have y2' : Cu T Y (c :: (X1 ++ R)) := y2
  obtain ⟨c1, c2⟩ := cu_at y2'
  rw [if_pos (cu_lt y2'), c2, if_neg hcl.1] at e
  obtain ⟨q, q1, q2⟩ := cu_q y2
  have hfu := cu_fu y2
  obtain ⟨f, hf⟩ := hfu
  rw [hf] at e
  have hS : Cu T (wS (wS (wS Y 5 (Y.1 6)) 7 0) 4 1) ((c :: X1) ++ R) := cu_fw y2 rfl rfl rfl
  have hlen := cu_len y2
  have hlen2 : (c :: X1).length ≤ 1200 := by rw [List.length_append] at hlen; omega
  obtain ⟨w1, d1, d2, d3, d4, d5⟩ := rd_L (c :: X1) (f + 1201) _ R (by omega) hX hR hS
  rw [d1] at e
  rw [e]
  obtain ⟨_, A, hA, hA6⟩ := y2
  have hd6 := d5 A.length (by show Y.1 6 = _; exact hA6)
  refine ⟨⟨d2, (d3 4 (by decide)).trans rfl, A, hA, (d3 5 (by decide)).trans (by show Y.1 6 = _; exact hA6), hd6⟩, fun k h4 h5 h6 h7 => ?_, ?_⟩
  · rw [d3 k h6]
    show (if k = 4 then _ else if k = 7 then _ else if k = 5 then _ else Y.1 k) = _
    rw [if_neg h4, if_neg h7, if_neg h5, y3 k h6]
  · rw [d4]; exact y4
theorem ad_n {ds : List Nat} (hb : blk b) (hX : ∀ d, d ∈ ds → d ≤ 9) (hX0 : ds ≠ []) (hv : ds.foldl (fun x d => x * 10 + d) 0 ≤ 99999) (hR : ndig R) (h : Cu T w (b ++ (ds.map (fun d => nI (48 + d)) ++ R))) : TN T (fX4_advance w) (ds.foldl (fun x d => x * 10 + d) 0) R ∧ hz_fw w (fX4_advance w) := by
  obtain ⟨c, X1, rfl⟩ : ∃ c X1, ds = c :: X1 := by
    cases ds with
    | nil => exact absurd rfl hX0
    | cons c X1 => exact ⟨c, X1, rfl⟩
  have hcl := dig_f (hX c List.mem_cons_self)
  obtain ⟨Y, y1, y2, y3, y4⟩ := sk_b hb h (fun d R1 e => by cases e; exact hcl.2.2)
  have e := hz_adv4 w Y y1
  have y2' : Cu T Y (nI (48 + c) :: (X1.map (fun d => nI (48 + d)) ++ R)) := y2
  obtain ⟨c1, c2⟩ := cu_at y2'
  rw [if_pos (cu_lt y2'), c2, if_pos hcl.1, if_neg hcl.2.1] at e
  obtain ⟨f, hf⟩ := cu_fu y2
  rw [hf] at e
  have hS : Cu T (wS (wS (wS Y 5 (Y.1 6)) 7 0) 4 2) ((c :: X1).map (fun d => nI (48 + d)) ++ R) := cu_fw y2 rfl rfl rfl
  have hlen := cu_len y2
  have hlen2 : (c :: X1).length ≤ 1200 := by rw [List.length_append, List.length_map] at hlen; omega
  obtain ⟨w1, d1, d2, d3, d4, d5⟩ := rd_D (c :: X1) (f + 1201) 0 _ R (by omega) hX hv hR rfl hS
  rw [d1] at e
  rw [e]
  refine ⟨⟨d2, (d3 4 (by decide) (by decide)).trans rfl, d5⟩, fun k h4 h5 h6 h7 => ?_, ?_⟩
  · rw [d3 k h6 h7]
    show (if k = 4 then _ else if k = 7 then _ else if k = 5 then _ else Y.1 k) = _
    rw [if_neg h4, if_neg h7, if_neg h5, y3 k h6]
  · rw [d4]; exact y4
theorem ad_y {c : Int32} (hb : blk b) (hc : fX6_isLetter c = 0 ∧ fX4_isDigit c = 0 ∧ fX4_isBlank c = 0) (h : Cu T w (b ++ (c :: R))) : TY T (fX4_advance w) c R ∧ hz_fw w (fX4_advance w) := by
  obtain ⟨Y, y1, y2, y3, y4⟩ := sk_b hb h (fun d R1 e => by cases e; exact hc.2.2)
  have e := hz_adv4 w Y y1
  obtain ⟨c1, c2⟩ := cu_at y2
  rw [if_pos (cu_lt y2), c2, if_pos hc.1, if_pos hc.2.1] at e
  rw [e]
  refine ⟨⟨cu_st y2 rfl rfl rfl, rfl, c2⟩, fun k h4 h5 h6 h7 => ?_, y4⟩
  show (if k = 6 then _ else if k = 4 then _ else if k = 7 then _ else if k = 5 then _ else Y.1 k) = _
  rw [if_neg h6, if_neg h4, if_neg h7, if_neg h5, y3 k h6]
theorem ad_e (h : Cu T w []) : TE T (fX4_advance w) ∧ hz_fw w (fX4_advance w) := by
  obtain ⟨Y, y1, y2, y3, y4⟩ := sk_b (b := []) (Or.inl rfl) h (fun d R1 e => by cases e)
  have e := hz_adv4 w Y y1
  rw [if_neg (Int32.not_lt.mpr (cu_end y2))] at e
  rw [e]
  refine ⟨⟨cu_fw y2 rfl rfl rfl, rfl⟩, fun k h4 h5 h6 h7 => ?_, y4⟩
  show (if k = 4 then _ else if k = 7 then _ else if k = 5 then _ else Y.1 k) = _
  rw [if_neg h4, if_neg h7, if_neg h5, y3 k h6]
end TOK
/-! A number as it is written. -/
def dgs (z : Nat) : List Nat := (List.range (sbW z)).map (fun i => z / 10 ^ (sbW z - 1 - i) % 10)
theorem numB_d (z : Nat) : numB z = (dgs z).map (fun d => nI (48 + d)) := by
  unfold numB dgs
  rw [List.map_map]
  rfl
theorem dgs_9 (z : Nat) : ∀ d, d ∈ dgs z → d ≤ 9 := by
  intro d hd
  obtain ⟨i, -, rfl⟩ := List.mem_map.mp hd
  have := Nat.mod_lt (z / 10 ^ (sbW z - 1 - i)) (show 0 < 10 by decide)
  omega
theorem dgs_0 (z : Nat) : dgs z ≠ [] := by
  intro e
  have h := congrArg List.length e
  unfold dgs at h
  rw [List.length_map, List.length_range] at h
  have := sbW_le z
  have h0 : ([] : List Nat).length = 0 := rfl
  omega
theorem dgs_v {z : Nat} (hz : z < 10000) : (dgs z).foldl (fun x d => x * 10 + d) 0 = z := by
  unfold dgs sbW
  by_cases c1 : z < 10
  · rw [if_pos c1]
    show 0 * 10 + z / 1 % 10 = z
    omega
  · rw [if_neg c1]
    by_cases c2 : z < 100
    · rw [if_pos c2]
      show (0 * 10 + z / 10 % 10) * 10 + z / 1 % 10 = z
      omega
    · rw [if_neg c2]
      by_cases c3 : z < 1000
      · rw [if_pos c3]
        show ((0 * 10 + z / 100 % 10) * 10 + z / 10 % 10) * 10 + z / 1 % 10 = z
        omega
      · rw [if_neg c3]
        show (((0 * 10 + z / 1000 % 10) * 10 + z / 100 % 10) * 10 + z / 10 % 10) * 10 + z / 1 % 10 = z
        omega
theorem ad_num {T : List Int32} {w : Wd} {b R : List Int32} {z : Nat} (hb : blk b) (hz : z < 10000) (hR : ndig R) (h : Cu T w (b ++ (numB z ++ R))) : TN T (fX4_advance w) z R ∧ hz_fw w (fX4_advance w) := by
  rw [numB_d] at h
  have e := ad_n hb (dgs_9 z) (dgs_0 z) (by rw [dgs_v hz]; omega) hR h
  rw [dgs_v hz] at e
  exact e
