/-! Reading a right text, the class alone: settings, yarn, shape, size, piece. -/
def tk (w w1 : Wd) : Prop := (∀ k, 3 ≤ k → k ≤ 7 → w1.1 k = w.1 k) ∧ w1.2.1 = w.2.1
def NT (T : List Int32) (w : Wd) (R : List Int32) : Prop := ∃ w0, Cu T w0 R ∧ tk (fX4_advance w0) w
theorem cu_tk {T R : List Int32} {w w1 : Wd} (h : Cu T w R) (e : tk w w1) : Cu T w1 R := by
  obtain ⟨⟨a, b, c⟩, A, d1, d2⟩ := h
  exact ⟨⟨a, (e.1 3 (by decide) (by decide)).trans b, fun j hj => by rw [e.2]; exact c j hj⟩, A, d1, (e.1 6 (by decide) (by decide)).trans d2⟩
theorem tw_tk {T X R : List Int32} {w w1 : Wd} (h : TW T w X R) (e : tk w w1) : TW T w1 X R := by
  obtain ⟨a, b, A, c1, c2, c3⟩ := h
  exact ⟨cu_tk a e, (e.1 4 (by decide) (by decide)).trans b, A, c1, (e.1 5 (by decide) (by decide)).trans c2, (e.1 6 (by decide) (by decide)).trans c3⟩
theorem te_tk {T : List Int32} {w w1 : Wd} (h : TE T w) (e : tk w w1) : TE T w1 := ⟨cu_tk h.1 e, (e.1 4 (by decide) (by decide)).trans h.2⟩
theorem nt_w {T X R : List Int32} {w : Wd} (h : NT T w (X ++ R)) (hX : ∀ c, c ∈ X → isL c) (hX0 : X ≠ []) (hR : nlet R) : TW T w X R := by
  obtain ⟨w0, a, b⟩ := h
  exact tw_tk (ad_w (b := []) (Or.inl rfl) hX hX0 hR a).1 b
theorem nt_e {T : List Int32} {w : Wd} (h : NT T w []) : TE T w := by
  obtain ⟨w0, a, b⟩ := h
  exact te_tk (ad_e a).1 b
/-- what a statement leaves -/
def RF (w w1 : Wd) : Prop := (∀ k, (k ≤ 3 ∨ 11 ≤ k) → w1.1 k = w.1 k) ∧ w1.2.1 = w.2.1 ∧ (∀ q, ¬ q = 0 → w1.2.2.1 q = w.2.2.1 q) ∧ w1.2.2.2 = w.2.2.2
theorem rf_T {a b c : Wd} (h : RF a b) (g : RF b c) : RF a c := ⟨fun k hk => (g.1 k hk).trans (h.1 k hk), g.2.1.trans h.2.1, fun q hq => (g.2.2.1 q hq).trans (h.2.2.1 q hq), g.2.2.2.trans h.2.2.2⟩
theorem rf_fw {w w1 : Wd} (h : hz_fw w w1) : RF w w1 := ⟨fun k hk => h.1 k (by omega) (by omega) (by omega) (by omega), by rw [h.2], fun q _ => by rw [h.2], by rw [h.2]⟩
theorem rf_S (w : Wd) {k : Nat} (hk : 4 ≤ k ∧ k ≤ 10) (v : Int32) : RF w (wS w k v) := ⟨fun q hq => if_neg (by omega), rfl, fun _ _ => rfl, rfl⟩
theorem rf_P (w : Wd) (p : Pl) : RF w (wP w 0 p) := ⟨fun _ _ => rfl, rfl, fun q hq => if_neg hq, rfl⟩
theorem ndg_59 (R : List Int32) : ndig (nI 59 :: R) := fun c R1 e => by cases e; exact let_0.2.2.2.1
theorem ndg_32 (R : List Int32) : ndig (nI 32 :: R) := fun c R1 e => by cases e; exact let_0.2.2.1
theorem nlt_59 (R : List Int32) : nlet (nI 59 :: R) := fun c R1 e => by cases e; exact let_0.2.1
theorem nlt_32 (R : List Int32) : nlet (nI 32 :: R) := fun c R1 e => by cases e; exact let_0.1
theorem sS_0 (w : Wd) (c : Int32) : fX4_startStatement w 0 c = fX4_advance w := if_pos rfl
theorem btw_ok {a v b : Nat} (h1 : a ≤ v) (h2 : v ≤ b) (hb : b < 100000) : ¬ fX6_isBetween (nI v) (nI a) (nI b) = 0 := by
  unfold fX6_isBetween
  rw [if_neg (by rw [nI_ltI (by omega) (by omega)]; omega), if_neg (by rw [nI_ltI (by omega) (by omega)]; omega)]
  decide
theorem a0_fw : ∀ (fu : Nat) (w : Wd), (∀ k, ¬ k = 6 → (fX4_advance_0 fu w).1 k = w.1 k) ∧ (fX4_advance_0 fu w).2 = w.2 := by
  intro fu
  induction fu with
  | zero => intro w; exact ⟨fun _ _ => rfl, rfl⟩
  | succ fu ih =>
    intro w
    have e : fX4_advance_0 (fu + 1) w = (if (w.1 3) ≤ (w.1 6) then w else (if (fX4_isBlank (fX6_at 1200 (w.2.1 0) (w.1 6))) = 0 then w else (fX4_advance_0 fu (wS w 6 ((w.1 6) + 1))))) := rfl
    rw [e]
    by_cases c1 : (w.1 3) ≤ (w.1 6)
    · rw [if_pos c1]; exact ⟨fun _ _ => rfl, rfl⟩
    · rw [if_neg c1]
      by_cases c2 : (fX4_isBlank (fX6_at 1200 (w.2.1 0) (w.1 6))) = 0
      · rw [if_pos c2]; exact ⟨fun _ _ => rfl, rfl⟩
      · rw [if_neg c2]
        obtain ⟨a, b⟩ := ih (wS w 6 ((w.1 6) + 1))
        exact ⟨fun k hk => (a k hk).trans (if_neg hk), b⟩
theorem a95_fw : ∀ (fu : Nat) (w : Wd), (∀ k, ¬ k = 6 → (fX4_advance_95 fu w).1 k = w.1 k) ∧ (fX4_advance_95 fu w).2 = w.2 := by
  intro fu
  induction fu with
  | zero => intro w; exact ⟨fun _ _ => rfl, rfl⟩
  | succ fu ih =>
    intro w
    have e : fX4_advance_95 (fu + 1) w = (if (w.1 3) ≤ (w.1 6) then w else (if (fX6_isLetter (fX6_at 1200 (w.2.1 0) (w.1 6))) = 0 then w else (fX4_advance_95 fu (wS w 6 ((w.1 6) + 1))))) := rfl
    rw [e]
    by_cases c1 : (w.1 3) ≤ (w.1 6)
    · rw [if_pos c1]; exact ⟨fun _ _ => rfl, rfl⟩
    · rw [if_neg c1]
      by_cases c2 : (fX6_isLetter (fX6_at 1200 (w.2.1 0) (w.1 6))) = 0
      · rw [if_pos c2]; exact ⟨fun _ _ => rfl, rfl⟩
      · rw [if_neg c2]
        obtain ⟨a, b⟩ := ih (wS w 6 ((w.1 6) + 1))
        exact ⟨fun k hk => (a k hk).trans (if_neg hk), b⟩
theorem a158_fw : ∀ (fu : Nat) (w : Wd), (∀ k, ¬ k = 6 → ¬ k = 7 → (fX4_advance_158 fu w).1 k = w.1 k) ∧ (fX4_advance_158 fu w).2 = w.2 := by
  intro fu
  induction fu with
  | zero => intro w; exact ⟨fun _ _ _ => rfl, rfl⟩
  | succ fu ih =>
    intro w
    have e : fX4_advance_158 (fu + 1) w = (if (w.1 3) ≤ (w.1 6) then w else (if (fX4_isDigit (fX6_at 1200 (w.2.1 0) (w.1 6))) = 0 then w else (fX4_advance_158 fu (wS (wS w 7 (imn ((((w.1 7) * 10) + (fX6_at 1200 (w.2.1 0) (w.1 6))) - 48) 100000)) 6 ((w.1 6) + 1))))) := rfl
    rw [e]
    by_cases c1 : (w.1 3) ≤ (w.1 6)
    · rw [if_pos c1]; exact ⟨fun _ _ _ => rfl, rfl⟩
    · rw [if_neg c1]
      by_cases c2 : (fX4_isDigit (fX6_at 1200 (w.2.1 0) (w.1 6))) = 0
      · rw [if_pos c2]; exact ⟨fun _ _ _ => rfl, rfl⟩
      · rw [if_neg c2]
        obtain ⟨a, b⟩ := ih (wS (wS w 7 (imn ((((w.1 7) * 10) + (fX6_at 1200 (w.2.1 0) (w.1 6))) - 48) 100000)) 6 ((w.1 6) + 1))
        exact ⟨fun k hk hk2 => (a k hk hk2).trans ((if_neg hk).trans (if_neg hk2)), b⟩
/-- the next token is taken: nothing else changes -/
theorem adv_fw (w : Wd) : hz_fw w (fX4_advance w) := by
  obtain ⟨X, hX⟩ : ∃ X, fX4_advance_0 (fuU 2147483647 (w.1 6)) w = X := ⟨_, rfl⟩
  have a := a0_fw (fuU 2147483647 (w.1 6)) w
  rw [hX] at a
  rw [hz_adv4 w X hX]
  generalize fuU 2147483647 (X.1 6) = F
  have b : ∀ v, hz_fw w (wS (wS (wS X 5 (X.1 6)) 7 0) 4 v) := fun v => ⟨fun k h4 h5 h6 h7 => (if_neg h4).trans ((if_neg h7).trans ((if_neg h5).trans (a.1 k h6))), a.2⟩
  split
  · split
    · split
      · refine ⟨fun k h4 h5 h6 h7 => (if_neg h6).trans ((b 3).1 k h4 h5 h6 h7), (b 3).2⟩
      · have c := a158_fw F (wS (wS (wS X 5 (X.1 6)) 7 0) 4 2)
        exact ⟨fun k h4 h5 h6 h7 => (c.1 k h6 h7).trans ((b 2).1 k h4 h5 h6 h7), c.2.trans (b 2).2⟩
    · have c := a95_fw F (wS (wS (wS X 5 (X.1 6)) 7 0) 4 1)
      exact ⟨fun k h4 h5 h6 h7 => (c.1 k h6).trans ((b 1).1 k h4 h5 h6 h7), c.2.trans (b 1).2⟩
  · exact b 0
section RD
variable {T R : List Int32} {w : Wd}
theorem sN_ok {v a b : Nat} (h : TN T w v R) (h1 : a ≤ v) (h2 : v ≤ b) (hb : b < 100000) : fX4_readNumber w (nI a) (nI b) = (nI v, fX4_advance w) := by
  obtain ⟨h0, h4, h7⟩ := h
  unfold fX4_readNumber
  rw [if_pos h4, h7, if_neg (btw_ok h1 h2 hb)]
  rfl
theorem sE_ok (h : TY T w (nI 59) R) : fX4_endStatement w = fX4_advance w := by
  obtain ⟨h0, h4, h5⟩ := h
  unfold fX4_endStatement
  rw [if_pos h4, h5]
  exact if_pos rfl
theorem sy_59 : fX6_isLetter (nI 59) = 0 ∧ fX4_isDigit (nI 59) = 0 ∧ fX4_isBlank (nI 59) = 0 := ⟨let_0.2.1, let_0.2.2.2.1, let_0.2.2.2.2⟩
/-- a number, behind a blank, is read -/
theorem n_32 {v : Nat} (h : Cu T w (nI 32 :: (numB v ++ R))) (hv : v < 10000) (hR : ndig R) : TN T (fX4_advance w) v R ∧ hz_fw w (fX4_advance w) := ad_num (b := [nI 32]) (Or.inr rfl) hv hR h
theorem y_59 (h : Cu T w (nI 59 :: R)) : TY T (fX4_advance w) (nI 59) R ∧ hz_fw w (fX4_advance w) := ad_y (b := []) (Or.inl rfl) sy_59 h
theorem w_32 {X : List Int32} (h : Cu T w (nI 32 :: (X ++ R))) (hX : ∀ c, c ∈ X → isL c) (hX0 : X ≠ []) (hR : nlet R) : TW T (fX4_advance w) X R ∧ hz_fw w (fX4_advance w) := ad_w (b := [nI 32]) (Or.inr rfl) hX hX0 hR h
theorem cu_S (h : Cu T w R) {k : Nat} (hk : ¬ k = 3 ∧ ¬ k = 6) (v : Int32) : Cu T (wS w k v) R := cu_fw h (if_neg (fun e => hk.1 e.symm)) rfl (if_neg (fun e => hk.2 e.symm))
theorem cu_P (h : Cu T w R) (p : Pl) : Cu T (wP w 0 p) R := by
  obtain ⟨⟨a, b, c⟩, d⟩ := h
  exact ⟨⟨a, b, c⟩, d⟩
theorem tn_S {v : Nat} (h : TN T w v R) {k : Nat} (hk : 8 ≤ k) (x : Int32) : TN T (wS w k x) v R := ⟨cu_S h.1 (by omega) x, (if_neg (by omega)).trans h.2.1, (if_neg (by omega)).trans h.2.2⟩
theorem tn_P {v : Nat} (h : TN T w v R) (p : Pl) : TN T (wP w 0 p) v R := ⟨cu_P h.1 p, h.2.1, h.2.2⟩
theorem ty_P {c : Int32} (h : TY T w c R) (p : Pl) : TY T (wP w 0 p) c R := ⟨cu_P h.1 p, h.2.1, h.2.2⟩
theorem rs_steam {X : List Int32} {a : Nat} (h : TW T w X (nI 32 :: (numB a ++ (nI 59 :: R)))) (h9 : w.1 9 = 0) (ha : a ≤ 100) : ∃ w1, fX4_readSteam w = w1 ∧ NT T w1 R ∧ RF w w1 ∧ (w1.1 8 = w.1 8 ∧ w1.1 9 = 1 ∧ w1.1 10 = w.1 10) ∧ w1.2.2.1 0 = upS (w.2.2.1 0) 5 (nI a) := by
  obtain ⟨t1, f1⟩ := n_32 h.1 (by omega) (ndg_59 R)
  have t2 := tn_S t1 (k := 9) (by decide) 1
  have e2 := sN_ok t2 (a := 0) (b := 100) (Nat.zero_le _) ha (by decide)
  obtain ⟨t3, f3⟩ := y_59 t2.1
  have t4 := ty_P t3 (upS ((fX4_advance (wS (fX4_advance w) 9 1)).2.2.1 0) 5 (nI a))
  have ec : fX4_readSteam w = fX4_advance (wP (fX4_advance (wS (fX4_advance w) 9 1)) 0 (upS ((fX4_advance (wS (fX4_advance w) 9 1)).2.2.1 0) 5 (nI a))) := by
    have e0 : fX4_readSteam w = fX4_endStatement (wP (fX4_readNumber (wS (fX4_startStatement w (w.1 9) 3) 9 1) (nI 0) (nI 100)).2 0 (upS ((fX4_readNumber (wS (fX4_startStatement w (w.1 9) 3) 9 1) (nI 0) (nI 100)).2.2.2.1 0) 5 (fX4_readNumber (wS (fX4_startStatement w (w.1 9) 3) 9 1) (nI 0) (nI 100)).1)) := rfl
    rw [e0, h9, sS_0, e2, sE_ok t4]
  have f5 : hz_fw (wP (fX4_advance (wS (fX4_advance w) 9 1)) 0 (upS ((fX4_advance (wS (fX4_advance w) 9 1)).2.2.1 0) 5 (nI a))) _ := adv_fw _
  refine ⟨_, ec, ⟨_, t4.1, fun _ _ _ => rfl, rfl⟩, rf_T (rf_T (rf_T (rf_T (rf_fw f1) (rf_S _ (by decide) 1)) (rf_fw f3)) (rf_P _ _)) (rf_fw f5), ⟨?_, ?_, ?_⟩, ?_⟩
  · rw [f5.1 8 (by decide) (by decide) (by decide) (by decide)]
    show (fX4_advance (wS (fX4_advance w) 9 1)).1 8 = _
    rw [f3.1 8 (by decide) (by decide) (by decide) (by decide)]
    exact f1.1 8 (by decide) (by decide) (by decide) (by decide)
  · rw [f5.1 9 (by decide) (by decide) (by decide) (by decide)]
    show (fX4_advance (wS (fX4_advance w) 9 1)).1 9 = _
    rw [f3.1 9 (by decide) (by decide) (by decide) (by decide)]
    rfl
  · rw [f5.1 10 (by decide) (by decide) (by decide) (by decide)]
    show (fX4_advance (wS (fX4_advance w) 9 1)).1 10 = _
    rw [f3.1 10 (by decide) (by decide) (by decide) (by decide)]
    exact f1.1 10 (by decide) (by decide) (by decide) (by decide)
  · rw [f5.2]
    show upS ((fX4_advance (wS (fX4_advance w) 9 1)).2.2.1 0) 5 (nI a) = _
    rw [f3.2]
    show upS ((fX4_advance w).2.2.1 0) 5 (nI a) = _
    rw [f1.2]
theorem rs_box {X : List Int32} {a : Nat} (h : TW T w X (nI 32 :: (numB a ++ (nI 59 :: R)))) (h9 : w.1 10 = 0) (ha1 : 1 ≤ a) (ha : a ≤ 6) : ∃ w1, fX4_readBox w = w1 ∧ NT T w1 R ∧ RF w w1 ∧ (w1.1 8 = w.1 8 ∧ w1.1 9 = w.1 9 ∧ w1.1 10 = 1) ∧ w1.2.2.1 0 = upS (w.2.2.1 0) 6 (nI a) := by
  obtain ⟨t1, f1⟩ := n_32 h.1 (by omega) (ndg_59 R)
  have t2 := tn_S t1 (k := 10) (by decide) 1
  have e2 := sN_ok t2 (a := 1) (b := 6) ha1 ha (by decide)
  obtain ⟨t3, f3⟩ := y_59 t2.1
  have t4 := ty_P t3 (upS ((fX4_advance (wS (fX4_advance w) 10 1)).2.2.1 0) 6 (nI a))
  have ec : fX4_readBox w = fX4_advance (wP (fX4_advance (wS (fX4_advance w) 10 1)) 0 (upS ((fX4_advance (wS (fX4_advance w) 10 1)).2.2.1 0) 6 (nI a))) := by
    have e0 : fX4_readBox w = fX4_endStatement (wP (fX4_readNumber (wS (fX4_startStatement w (w.1 10) 3) 10 1) (nI 1) (nI 6)).2 0 (upS ((fX4_readNumber (wS (fX4_startStatement w (w.1 10) 3) 10 1) (nI 1) (nI 6)).2.2.2.1 0) 6 (fX4_readNumber (wS (fX4_startStatement w (w.1 10) 3) 10 1) (nI 1) (nI 6)).1)) := rfl
    rw [e0, h9, sS_0, e2, sE_ok t4]
  have f5 : hz_fw (wP (fX4_advance (wS (fX4_advance w) 10 1)) 0 (upS ((fX4_advance (wS (fX4_advance w) 10 1)).2.2.1 0) 6 (nI a))) _ := adv_fw _
  refine ⟨_, ec, ⟨_, t4.1, fun _ _ _ => rfl, rfl⟩, rf_T (rf_T (rf_T (rf_T (rf_fw f1) (rf_S _ (by decide) 1)) (rf_fw f3)) (rf_P _ _)) (rf_fw f5), ⟨?_, ?_, ?_⟩, ?_⟩
  · rw [f5.1 8 (by decide) (by decide) (by decide) (by decide)]
    show (fX4_advance (wS (fX4_advance w) 10 1)).1 8 = _
    rw [f3.1 8 (by decide) (by decide) (by decide) (by decide)]
    exact f1.1 8 (by decide) (by decide) (by decide) (by decide)
  · rw [f5.1 9 (by decide) (by decide) (by decide) (by decide)]
    show (fX4_advance (wS (fX4_advance w) 10 1)).1 9 = _
    rw [f3.1 9 (by decide) (by decide) (by decide) (by decide)]
    exact f1.1 9 (by decide) (by decide) (by decide) (by decide)
  · rw [f5.1 10 (by decide) (by decide) (by decide) (by decide)]
    show (fX4_advance (wS (fX4_advance w) 10 1)).1 10 = _
    rw [f3.1 10 (by decide) (by decide) (by decide) (by decide)]
    rfl
  · rw [f5.2]
    show upS ((fX4_advance (wS (fX4_advance w) 10 1)).2.2.1 0) 6 (nI a) = _
    rw [f3.2]
    show upS ((fX4_advance w).2.2.1 0) 6 (nI a) = _
    rw [f1.2]
theorem rt_e {w r4 : Wd} {r11 r18 : Int32 × Wd} (g1 : fX4_startStatement w (w.1 8) 3 = r4) (g2 : fX4_readNumber (wS r4 8 1) 0 500 = r11) (g3 : fX4_readNumber (wP r11.2 0 (upS (r11.2.2.2.1 0) 3 r11.1)) 0 255 = r18) : fX4_readTolerance w = fX4_endStatement (wP r18.2 0 (upS (r18.2.2.2.1 0) 4 r18.1)) := by
  subst g1; subst g2; subst g3
  rfl
theorem rs_tol {X : List Int32} {a b : Nat} (h : TW T w X (nI 32 :: (numB a ++ (nI 32 :: (numB b ++ (nI 59 :: R)))))) (h9 : w.1 8 = 0) (ha : a ≤ 500) (hb : b ≤ 255) : ∃ w1, fX4_readTolerance w = w1 ∧ NT T w1 R ∧ RF w w1 ∧ (w1.1 8 = 1 ∧ w1.1 9 = w.1 9 ∧ w1.1 10 = w.1 10) ∧ w1.2.2.1 0 = upS (upS (w.2.2.1 0) 3 (nI a)) 4 (nI b) := by
  obtain ⟨t1, f1⟩ := n_32 h.1 (by omega) (ndg_32 _)
  have g1 : fX4_startStatement w (w.1 8) 3 = fX4_advance w := by rw [h9, sS_0]
  generalize fX4_advance w = x1 at t1 f1 g1
  have t2 := tn_S t1 (k := 8) (by decide) 1
  have e2 := sN_ok t2 (a := 0) (b := 500) (Nat.zero_le _) ha (by decide)
  obtain ⟨t3, f3⟩ := n_32 t2.1 (by omega) (ndg_59 R)
  generalize fX4_advance (wS x1 8 1) = x3 at e2 t3 f3
  have t4 := tn_P t3 (upS (x3.2.2.1 0) 3 (nI a))
  have e4 := sN_ok t4 (a := 0) (b := 255) (Nat.zero_le _) hb (by decide)
  obtain ⟨t5, f5⟩ := y_59 t4.1
  have r2 : RF x3 (wP x3 0 (upS (x3.2.2.1 0) 3 (nI a))) := rf_P _ _
  generalize fX4_advance (wP x3 0 (upS (x3.2.2.1 0) 3 (nI a))) = x5 at e4 t5 f5
  have t6 := ty_P t5 (upS (x5.2.2.1 0) 4 (nI b))
  have e6 := sE_ok t6
  rw [show nI 0 = 0 from rfl, show nI 500 = 500 from rfl] at e2
  rw [show nI 0 = 0 from rfl, show nI 255 = 255 from rfl] at e4
  have ec := (rt_e (w := w) (r4 := x1) (r11 := (nI a, x3)) (r18 := (nI b, x5)) g1 e2 e4).trans e6
  have f7 := adv_fw (wP x5 0 (upS (x5.2.2.1 0) 4 (nI b)))
  have nt : NT T (fX4_advance (wP x5 0 (upS (x5.2.2.1 0) 4 (nI b)))) R := ⟨_, t6.1, fun _ _ _ => rfl, rfl⟩
  generalize fX4_advance (wP x5 0 (upS (x5.2.2.1 0) 4 (nI b))) = x7 at ec f7 t6 e6 nt
  have kk : ∀ k, k = 8 ∨ k = 9 ∨ k = 10 → x7.1 k = (wS x1 8 1).1 k := fun k hk => by
    rw [f7.1 k (by omega) (by omega) (by omega) (by omega)]
    show x5.1 k = _
    rw [f5.1 k (by omega) (by omega) (by omega) (by omega)]
    show x3.1 k = _
    rw [f3.1 k (by omega) (by omega) (by omega) (by omega)]
  refine ⟨x7, ec, nt, rf_T (rf_T (rf_T (rf_T (rf_T (rf_T (rf_fw f1) (rf_S _ (by decide) 1)) (rf_fw f3)) r2) (rf_fw f5)) (rf_P _ _)) (rf_fw f7), ⟨kk 8 (Or.inl rfl), ?_, ?_⟩, ?_⟩
  · rw [kk 9 (Or.inr (Or.inl rfl))]
    exact f1.1 9 (by decide) (by decide) (by decide) (by decide)
  · rw [kk 10 (Or.inr (Or.inr rfl))]
    exact f1.1 10 (by decide) (by decide) (by decide) (by decide)
  · rw [f7.2]
    show upS (x5.2.2.1 0) 4 (nI b) = _
    rw [f5.2]
    show upS (upS (x3.2.2.1 0) 3 (nI a)) 4 (nI b) = _
    rw [f3.2]
    show upS (upS (x1.2.2.1 0) 3 (nI a)) 4 (nI b) = _
    rw [f1.2]
end RD
