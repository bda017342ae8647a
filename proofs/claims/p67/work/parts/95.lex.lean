/-! Reading, the class alone: the tokens of a list of bytes. -/
def Tx (T : List Int32) (w : Wd) : Prop := T.length ≤ 1200 ∧ w.1 3 = nI T.length ∧ ∀ j, j < T.length → w.2.1 0 j = T.getD j 0
/-- the text T; R is what lies behind the place where reading goes on -/
def Cu (T : List Int32) (w : Wd) (R : List Int32) : Prop := Tx T w ∧ ∃ A, T = A ++ R ∧ w.1 6 = nI A.length
def isL (x : Int32) : Prop := ∃ b, 97 ≤ b ∧ b ≤ 122 ∧ x = nI b
def nlet (R : List Int32) : Prop := ∀ c R1, R = c :: R1 → fX6_isLetter c = 0
def ndig (R : List Int32) : Prop := ∀ c R1, R = c :: R1 → fX4_isDigit c = 0
def nblk (R : List Int32) : Prop := ∀ c R1, R = c :: R1 → fX4_isBlank c = 0
theorem tx_fw {T : List Int32} {w w1 : Wd} (h : Tx T w) (h3 : w1.1 3 = w.1 3) (h2 : w1.2 = w.2) : Tx T w1 := ⟨h.1, h3.trans h.2.1, fun j hj => by rw [h2]; exact h.2.2 j hj⟩
theorem gD_mid (A : List Int32) (c : Int32) (R : List Int32) : (A ++ c :: R).getD A.length 0 = c := by
  rw [List.getD_eq_getElem?_getD, List.getElem?_append_right (Nat.le_refl _), Nat.sub_self]
  rfl
theorem cu_at {T : List Int32} {w : Wd} {c : Int32} {R : List Int32} (h : Cu T w (c :: R)) : ¬ w.1 3 ≤ w.1 6 ∧ fX6_at 1200 (w.2.1 0) (w.1 6) = c := by
  obtain ⟨⟨h1, h2, h3⟩, A, rfl, h4⟩ := h
  have hl : (A ++ c :: R).length = A.length + (R.length + 1) := by rw [List.length_append]; rfl
  rw [hl] at h1 h2
  rw [h2, h4]
  refine ⟨by rw [nI_leI (by omega) (by omega)]; omega, ?_⟩
  unfold fX6_at
  rw [if_neg (nI_pos (by omega)), if_neg (by rw [nI_leI (by omega) (by omega)]; omega), nI_clamp (by omega), h3 _ (by rw [hl]; omega), gD_mid]
theorem cu_end {T : List Int32} {w : Wd} (h : Cu T w []) : w.1 3 ≤ w.1 6 := by
  obtain ⟨⟨h1, h2, h3⟩, A, rfl, h4⟩ := h
  rw [List.append_nil] at h2
  rw [h2, h4]
  exact Int32.le_refl _
theorem cu_len {T R : List Int32} {w : Wd} (h : Cu T w R) : R.length ≤ 1200 := by
  obtain ⟨⟨h1, h2, h3⟩, A, rfl, h4⟩ := h
  rw [List.length_append] at h1
  omega
theorem cu_st {T : List Int32} {w w1 : Wd} {c : Int32} {R : List Int32} (h : Cu T w (c :: R)) (h3 : w1.1 3 = w.1 3) (h2 : w1.2 = w.2) (h6 : w1.1 6 = w.1 6 + 1) : Cu T w1 R := by
  obtain ⟨h1, A, rfl, h4⟩ := h
  refine ⟨tx_fw h1 h3 h2, A ++ [c], by rw [List.append_assoc]; rfl, ?_⟩
  rw [h6, h4, nI_1, List.length_append]
  rfl
theorem cu_fw {T : List Int32} {w w1 : Wd} {R : List Int32} (h : Cu T w R) (h3 : w1.1 3 = w.1 3) (h2 : w1.2 = w.2) (h6 : w1.1 6 = w.1 6) : Cu T w1 R := by
  obtain ⟨h1, A, rfl, h4⟩ := h
  exact ⟨tx_fw h1 h3 h2, A, rfl, h6.trans h4⟩
/-- blanks -/
theorem sk_1 {T : List Int32} {w : Wd} {R : List Int32} (h : Cu T w R) (hR : nblk R) (fu : Nat) : fX4_advance_0 (fu + 1) w = w := by
  have e : fX4_advance_0 (fu + 1) w = (if (w.1 3) ≤ (w.1 6) then w else (if (fX4_isBlank (fX6_at 1200 (w.2.1 0) (w.1 6))) = 0 then w else (fX4_advance_0 fu (wS w 6 ((w.1 6) + 1))))) := rfl
  rw [e]
  cases R with
  | nil => rw [if_pos (cu_end h)]
  | cons c R =>
    obtain ⟨c1, c2⟩ := cu_at h
    rw [if_neg c1, c2, if_pos (hR c R rfl)]
theorem sk_2 {T : List Int32} {w : Wd} {R : List Int32} (h : Cu T w (nI 32 :: R)) (hR : nblk R) (fu : Nat) : fX4_advance_0 (fu + 2) w = wS w 6 (w.1 6 + 1) ∧ Cu T (wS w 6 (w.1 6 + 1)) R := by
  have e : fX4_advance_0 (fu + 2) w = (if (w.1 3) ≤ (w.1 6) then w else (if (fX4_isBlank (fX6_at 1200 (w.2.1 0) (w.1 6))) = 0 then w else (fX4_advance_0 (fu + 1) (wS w 6 ((w.1 6) + 1))))) := rfl
  obtain ⟨c1, c2⟩ := cu_at h
  have hc : Cu T (wS w 6 (w.1 6 + 1)) R := cu_st h rfl rfl rfl
  rw [e, if_neg c1, c2, if_neg (by decide), sk_1 hc hR]
  exact ⟨rfl, hc⟩
def blk (b : List Int32) : Prop := b = [] ∨ b = [nI 32]
theorem cu_q {T : List Int32} {w : Wd} {R : List Int32} (h : Cu T w R) : ∃ q, q ≤ 1200 ∧ w.1 6 = nI q := by
  obtain ⟨⟨h1, h2, h3⟩, A, rfl, h4⟩ := h
  rw [List.length_append] at h1
  exact ⟨A.length, by omega, h4⟩
theorem cu_fu {T : List Int32} {w : Wd} {R : List Int32} (h : Cu T w R) : ∃ f, fuU 2147483647 (w.1 6) = f + 1201 := by
  obtain ⟨q, q1, q2⟩ := cu_q h
  have e := hz_fuB q1
  rw [q2]
  exact ⟨fuU 2147483647 (nI q) - 1201, by omega⟩
/-- behind the blanks -/
theorem sk_b {T : List Int32} {w : Wd} {b R : List Int32} (hb : blk b) (h : Cu T w (b ++ R)) (hR : nblk R) : ∃ X, fX4_advance_0 (fuU 2147483647 (w.1 6)) w = X ∧ Cu T X R ∧ (∀ k, ¬ k = 6 → X.1 k = w.1 k) ∧ X.2 = w.2 := by
  obtain ⟨f, hf⟩ := cu_fu h
  rw [hf]
  generalize hF : f + 1199 = F
  rw [show f + 1201 = F + 2 by omega]
  rcases hb with rfl | rfl
  · exact ⟨w, sk_1 h hR (F + 1), h, fun _ _ => rfl, rfl⟩
  · obtain ⟨a, c⟩ := sk_2 h hR F
    exact ⟨_, a, c, fun k hk => if_neg hk, rfl⟩
/-- a word's letters -/
theorem rd_L {T : List Int32} : ∀ (X : List Int32) (fu : Nat) (w : Wd) (R : List Int32), X.length < fu → (∀ c, c ∈ X → isL c) → nlet R → Cu T w (X ++ R) → ∃ w1, fX4_advance_95 fu w = w1 ∧ Cu T w1 R ∧ (∀ k, ¬ k = 6 → w1.1 k = w.1 k) ∧ w1.2 = w.2 ∧ ∀ q, w.1 6 = nI q → w1.1 6 = nI (q + X.length) := by
  intro X
  induction X with
  | nil =>
    intro fu w R hfu hX hR h
    obtain ⟨fu, rfl⟩ : ∃ f, fu = f + 1 := ⟨fu - 1, by have : 0 < fu := hfu; omega⟩
    have e : fX4_advance_95 (fu + 1) w = (if (w.1 3) ≤ (w.1 6) then w else (if (fX6_isLetter (fX6_at 1200 (w.2.1 0) (w.1 6))) = 0 then w else (fX4_advance_95 fu (wS w 6 ((w.1 6) + 1))))) := rfl
    refine ⟨w, ?_, h, fun _ _ => rfl, rfl, fun q hq => hq⟩
    rw [e]
    change Cu T w R at h
    cases R with
    | nil => rw [if_pos (cu_end h)]
    | cons c R =>
      obtain ⟨c1, c2⟩ := cu_at h
      rw [if_neg c1, c2, if_pos (hR c R rfl)]
  | cons x X ih =>
    intro fu w R hfu hX hR h
    have hl : (x :: X).length = X.length + 1 := rfl
    obtain ⟨fu, rfl⟩ : ∃ f, fu = f + 1 := ⟨fu - 1, by omega⟩
    have e : fX4_advance_95 (fu + 1) w = (if (w.1 3) ≤ (w.1 6) then w else (if (fX6_isLetter (fX6_at 1200 (w.2.1 0) (w.1 6))) = 0 then w else (fX4_advance_95 fu (wS w 6 ((w.1 6) + 1))))) := rfl
    obtain ⟨c1, c2⟩ := cu_at (R := X ++ R) h
    obtain ⟨b, b1, b2, b3⟩ := hX x List.mem_cons_self
    have hx : ¬ fX6_isLetter x = 0 := by
      rw [b3]
      unfold fX6_isLetter
      rw [if_neg (by rw [hz_lt, nI_toInt (by omega)]; show ¬ (b : Int) < 97; omega), if_neg (by rw [hz_lt, nI_toInt (by omega)]; show ¬ (122 : Int) < (b : Int); omega)]
      decide
    obtain ⟨w1, d1, d2, d3, d4, d5⟩ := ih fu (wS w 6 (w.1 6 + 1)) R (by omega) (fun c hc => hX c (List.mem_cons_of_mem _ hc)) hR (cu_st (R := X ++ R) h rfl rfl rfl)
    refine ⟨w1, by rw [e, if_neg c1, c2, if_neg hx]; exact d1, d2, fun k hk => (d3 k hk).trans (if_neg hk), d4, fun q hq => ?_⟩
    rw [d5 (q + 1) (by show w.1 6 + 1 = _; rw [hq, nI_1]), hl]
    congr 1
    omega
/-- a number's digits -/
theorem rd_D {T : List Int32} : ∀ (ds : List Nat) (fu a : Nat) (w : Wd) (R : List Int32), ds.length < fu → (∀ d, d ∈ ds → d ≤ 9) → ds.foldl (fun x d => x * 10 + d) a ≤ 99999 → ndig R → w.1 7 = nI a → Cu T w (ds.map (fun d => nI (48 + d)) ++ R) → ∃ w1, fX4_advance_158 fu w = w1 ∧ Cu T w1 R ∧ (∀ k, ¬ k = 6 → ¬ k = 7 → w1.1 k = w.1 k) ∧ w1.2 = w.2 ∧ w1.1 7 = nI (ds.foldl (fun x d => x * 10 + d) a) := by
  intro ds
  induction ds with
  | nil =>
    intro fu a w R hfu hX ha hR h7 h
    obtain ⟨fu, rfl⟩ : ∃ f, fu = f + 1 := ⟨fu - 1, by have : 0 < fu := hfu; omega⟩
    have e : fX4_advance_158 (fu + 1) w = (if (w.1 3) ≤ (w.1 6) then w else (if (fX4_isDigit (fX6_at 1200 (w.2.1 0) (w.1 6))) = 0 then w else (fX4_advance_158 fu (wS (wS w 7 (imn ((((w.1 7) * 10) + (fX6_at 1200 (w.2.1 0) (w.1 6))) - 48) 100000)) 6 ((w.1 6) + 1))))) := rfl
    refine ⟨w, ?_, h, fun _ _ _ => rfl, rfl, h7⟩
    rw [e]
    change Cu T w R at h
    cases R with
    | nil => rw [if_pos (cu_end h)]
    | cons c R =>
      obtain ⟨c1, c2⟩ := cu_at h
      rw [if_neg c1, c2, if_pos (hR c R rfl)]
  | cons x ds ih =>
    intro fu a w R hfu hX ha hR h7 h
    have hl : (x :: ds).length = ds.length + 1 := rfl
    obtain ⟨fu, rfl⟩ : ∃ f, fu = f + 1 := ⟨fu - 1, by omega⟩
    have e : fX4_advance_158 (fu + 1) w = (if (w.1 3) ≤ (w.1 6) then w else (if (fX4_isDigit (fX6_at 1200 (w.2.1 0) (w.1 6))) = 0 then w else (fX4_advance_158 fu (wS (wS w 7 (imn ((((w.1 7) * 10) + (fX6_at 1200 (w.2.1 0) (w.1 6))) - 48) 100000)) 6 ((w.1 6) + 1))))) := rfl
    have h' : Cu T w (nI (48 + x) :: (ds.map (fun d => nI (48 + d)) ++ R)) := h
    obtain ⟨c1, c2⟩ := cu_at h'
    have hx9 := hX x List.mem_cons_self
    have hx : ¬ fX4_isDigit (nI (48 + x)) = 0 := by
      unfold fX4_isDigit
      rw [if_neg (by rw [hz_lt, nI_toInt (by omega)]; show ¬ ((48 + x : Nat) : Int) < 48; omega), if_neg (by rw [hz_lt, nI_toInt (by omega)]; show ¬ (57 : Int) < ((48 + x : Nat) : Int); omega)]
      decide
    have hfold : ∀ (L : List Nat) (y : Nat), y ≤ L.foldl (fun x d => x * 10 + d) y := by
      intro L
      induction L with
      | nil => intro y; exact Nat.le_refl _
      | cons z L ihL => intro y; exact Nat.le_trans (by omega) (ihL (y * 10 + z))
    have ha2 : a * 10 + x ≤ 99999 := Nat.le_trans (hfold ds _) ha
    have e7 : imn (((w.1 7 * 10) + nI (48 + x)) - 48) 100000 = nI (a * 10 + x) := by
      rw [h7, show (10 : Int32) = nI 10 from rfl, pk_mul, nI_add, show (48 : Int32) = nI 48 from rfl, pk_sub (by omega), show a * 10 + (48 + x) - 48 = a * 10 + x by omega]
      exact sb_mn (b := 100000) (by omega) (by decide)
    obtain ⟨w1, d1, d2, d3, d4, d5⟩ := ih fu (a * 10 + x) (wS (wS w 7 (nI (a * 10 + x))) 6 (w.1 6 + 1)) R (by omega) (fun c hc => hX c (List.mem_cons_of_mem _ hc)) ha hR rfl (cu_st h' rfl rfl rfl)
    refine ⟨w1, by rw [e, if_neg c1, c2, if_neg hx, e7]; exact d1, d2, fun k hk hk2 => (d3 k hk hk2).trans ((if_neg hk).trans (if_neg hk2)), d4, d5⟩
