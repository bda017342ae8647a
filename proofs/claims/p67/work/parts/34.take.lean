/-! The class takes the matches of a plant (by program for the two plants). -/
def hz_ws (R : Nat → Prop) (y r : Wd) : Prop := r.1 = y.1 ∧ r.2.2 = y.2.2 ∧ ∀ k, ¬ R k → r.2.1 k = y.2.1 k
theorem hz_ws0 {R : Nat → Prop} (y : Wd) : hz_ws R y y := ⟨rfl, rfl, fun _ _ => rfl⟩
theorem hz_wsT {R : Nat → Prop} {a b c : Wd} (h : hz_ws R a b) (g : hz_ws R b c) : hz_ws R a c := ⟨g.1.trans h.1, g.2.1.trans h.2.1, fun k hk => (g.2.2 k hk).trans (h.2.2 k hk)⟩
theorem hz_wsA {R : Nat → Prop} (y : Wd) {k : Nat} (hk : R k) (f : Nat → Int32) : hz_ws R y (wA y k f) := ⟨rfl, rfl, fun j hj => if_neg (fun e => hj (by rw [e]; exact hk))⟩
theorem hz_wsW {R R1 : Nat → Prop} {a b : Wd} (h : hz_ws R a b) (hR : ∀ k, R k → R1 k) : hz_ws R1 a b := ⟨h.1, h.2.1, fun k hk => h.2.2 k (fun e => hk (hR k e))⟩
theorem hz_wAs (y : Wd) (k : Nat) (f : Nat → Int32) : (wA y k f).2.1 k = f := if_pos rfl
def hz_gz (z2 : Int32) (p : Pl) (n i j : Nat) : Int := if z2 = 0 then 0 else hz_g p n i j
theorem hz_sym {p : Pl} {f : Nat → Int32} {ny ns nz np : Nat} (hP : hz_PR p f ny ns nz np) (i j : Nat) : hz_A p np i j = hz_A p np j i := by
  unfold hz_A
  by_cases hi : i < np
  · by_cases hj : j < np
    · have hP' : hz_PR p (((fun _ => 0, fun _ => f, 0) : Md).2.1 ((fun _ => 0, fun _ => f, 0) : Md).2.2) ny ns nz np := hP
      obtain ⟨-, ⟨a1, a2⟩, ⟨a3, a4⟩⟩ := hz_len (m := (fun _ => 0, fun _ => f, 0)) hP' hi
      obtain ⟨-, ⟨b1, b2⟩, ⟨b3, b4⟩⟩ := hz_len (m := (fun _ => 0, fun _ => f, 0)) hP' hj
      have hab : ∀ x y : Int32, -100000 ≤ x.toInt → x.toInt ≤ 100000 → -100000 ≤ y.toInt → y.toInt ≤ 100000 → iab (x - y) = iab (y - x) := fun x y x1 x2 y1 y2 => by
        have e1 : (x - y).toInt = x.toInt - y.toInt := hz_sub (by omega) (by omega)
        have e2 : (y - x).toInt = y.toInt - x.toInt := hz_sub (by omega) (by omega)
        rw [hz_inj, hz_iab (by omega), hz_iab (by omega), e1, e2]
        split <;> split <;> omega
      have e : fX5_fits p (nI i) (nI j) = fX5_fits p (nI j) (nI i) := by
        unfold fX5_fits
        rw [hab (fX6_at 14 (p.2 11) (nI i)) (fX6_at 14 (p.2 11) (nI j)) (by omega) (by omega) (by omega) (by omega), hab (fX6_at 14 (p.2 12) (nI i)) (fX6_at 14 (p.2 12) (nI j)) (by omega) (by omega) (by omega) (by omega)]
        by_cases c0 : nI i = nI j
        · rw [if_pos c0, if_pos c0.symm]
        · have c0s : ¬ nI j = nI i := fun e => c0 e.symm
          rw [if_neg c0, if_neg c0s]
          by_cases c1 : fX6_at 14 (p.2 13) (nI i) = 1
          · by_cases c2 : fX6_at 14 (p.2 13) (nI j) = 1
            · rw [if_pos c1, if_pos c2, if_pos c2, if_pos c1]
              by_cases c3 : fX6_at 14 (p.2 8) (nI i) = fX6_at 14 (p.2 8) (nI j)
              · rw [if_pos c3, if_pos c3.symm]
                by_cases c4 : fX6_at 14 (p.2 9) (nI i) = fX6_at 14 (p.2 9) (nI j)
                · rw [if_pos c4, if_pos c4.symm]
                · rw [if_neg c4, if_neg (fun e => c4 e.symm)]
              · rw [if_neg c3, if_neg (fun e => c3 e.symm)]
            · rw [if_pos c1, if_neg c2, if_neg c2]
          · by_cases c2 : fX6_at 14 (p.2 13) (nI j) = 1
            · rw [if_neg c1, if_pos c2, if_neg c1]
            · rw [if_neg c1, if_neg c2]
      rw [e, decide_eq_true hi, decide_eq_true hj]
    · rw [decide_eq_false hj, Bool.and_false, Bool.false_and, Bool.false_and, Bool.false_and]
  · rw [decide_eq_false hi, Bool.false_and, Bool.false_and, Bool.and_false, Bool.false_and]
theorem hz_irr (p : Pl) (n i : Nat) : hz_A p n i i = false := by
  unfold hz_A fX5_fits
  rw [if_pos rfl, decide_eq_false (show ¬ (0 : Int32) = 1 by decide), Bool.and_false]
section HZK
variable {np : Nat}
theorem hz_tm33_21 {p : Pl} (hn : np ≤ 14) (hc : p.1 8 = nI np) (z2 : Int32) {i : Nat} (hi : i < np) : ∀ (fu q : Nat) (x5 x3 : Int32) (y : Wd), i < q → q ≤ np → np < fu + q → y.2.2.1 1 = p →
    (hz_ws (fun k => k = 2) y (fX2_takeMatches_21_33 z2 (nI i) fu (nI q) x5 x3 y).2.2.2) ∧
    (∀ j, j < 32 → bt (fX2_takeMatches_21_33 z2 (nI i) fu (nI q) x5 x3 y).2.1 j = (bt x5 j || (decide (q ≤ j) && hz_A p np i j))) ∧
    ((∀ j, bt x3 j = true → bt (fX2_takeMatches_21_33 z2 (nI i) fu (nI q) x5 x3 y).2.2.1 j = true) ∧ (∀ j, j < 32 → bt (fX2_takeMatches_21_33 z2 (nI i) fu (nI q) x5 x3 y).2.2.1 j = true → bt x3 j = true ∨ j < np) ∧ (∀ j, q ≤ j → hz_A p np i j = true → bt (fX2_takeMatches_21_33 z2 (nI i) fu (nI q) x5 x3 y).2.2.1 i = true ∧ bt (fX2_takeMatches_21_33 z2 (nI i) fu (nI q) x5 x3 y).2.2.1 j = true)) ∧
    (∀ j, q ≤ j → hz_A p np i j = true → ((fX2_takeMatches_21_33 z2 (nI i) fu (nI q) x5 x3 y).2.2.2.2.1 2 (i * 14 + j)).toInt = hz_gz z2 p np i j) ∧
    (∀ N, (∀ j, q ≤ j → j < np → N ≠ i * 14 + j) → (fX2_takeMatches_21_33 z2 (nI i) fu (nI q) x5 x3 y).2.2.2.2.1 2 N = y.2.1 2 N) := by
  intro fu
  induction fu with
  | zero => intro q x5 x3 y h1 h2 h3; omega
  | succ fu ih =>
    intro q x5 x3 y hiq hqn hf hy
    simp only [fX2_takeMatches_21_33, hy, hc]
    have hout : ∀ j, np ≤ j → hz_A p np i j = false := fun j hj => by
      unfold hz_A
      rw [decide_eq_false (show ¬ j < np by omega), Bool.and_false, Bool.false_and]
    by_cases h : nI np ≤ nI q
    · rw [if_pos h]
      rw [nI_leI (by omega) (by omega)] at h
      refine ⟨hz_ws0 y, fun j hj => ?_, ⟨fun j hj => hj, fun j _ hj => Or.inl hj, fun j h1 h2 => ?_⟩, fun j h1 h2 => ?_, fun N _ => rfl⟩
      · by_cases hj2 : q ≤ j
        · rw [hout j (by omega), Bool.and_false, Bool.or_false]
        · rw [decide_eq_false hj2, Bool.false_and, Bool.or_false]
      · rw [hout j (by omega)] at h2; exact absurd h2 (by decide)
      · rw [hout j (by omega)] at h2; exact absurd h2 (by decide)
    · have hq : q < np := hz_c hqn (by omega) h
      have hA : hz_A p np i q = decide (fX5_fits p (nI i) (nI q) = 1) := by
        unfold hz_A
        rw [decide_eq_true hi, decide_eq_true hq]; rfl
      rw [if_neg h, ← nI_succ]
      by_cases h0 : fX5_fits p (nI i) (nI q) = 0
      · have hA0 : hz_A p np i q = false := by rw [hA, h0]; rfl
        rw [if_pos h0]
        obtain ⟨a1, a2, ⟨a3, a4, a5⟩, a6, a7⟩ := ih (q + 1) x5 x3 y (by omega) hq (by omega) hy
        have hne : ∀ j, q ≤ j → hz_A p np i j = true → q + 1 ≤ j := fun j h1 h2 => by
          by_cases e : j = q
          · rw [e, hA0] at h2; exact absurd h2 (by decide)
          · omega
        refine ⟨a1, fun j hj => ?_, ⟨a3, a4, fun j h1 h2 => a5 j (hne j h1 h2) h2⟩, fun j h1 h2 => a6 j (hne j h1 h2) h2, fun N hN => a7 N (fun j h1 h2 => hN j (by omega) h2)⟩
        rw [a2 j hj]
        by_cases e : j = q
        · rw [e, hA0, Bool.and_false, Bool.and_false]
        · congr 2
          simp; omega
      · have hA1 : hz_A p np i q = true := by rw [hA, (hz_fits01 p _ _).resolve_left h0]; rfl
        have ei : nI i * 14 + nI q = nI (i * 14 + q) := by rw [show (14 : Int32) = nI 14 from rfl, pk_mul, nI_add]
        rw [if_neg h0, ei, hz_put _ _ (show i * 14 + q < 196 by omega) (by decide), hz_put _ _ (show i * 14 + q < 196 by omega) (by decide)]
        -- one step, with this gap
        have key : ∀ v : Int32, v.toInt = hz_gz z2 p np i q → ∀ R : Int32 × Int32 × Int32 × Wd, R = fX2_takeMatches_21_33 z2 (nI i) fu (nI (q + 1)) (x5 ||| ((1 : Int32) <<< (nI q &&& 31))) (x3 ||| (((1 : Int32) <<< (nI i &&& 31)) ||| ((1 : Int32) <<< (nI q &&& 31)))) (wA y 2 (upd (y.2.1 2) (i * 14 + q) v)) →
            (hz_ws (fun k => k = 2) y R.2.2.2) ∧ (∀ j, j < 32 → bt R.2.1 j = (bt x5 j || (decide (q ≤ j) && hz_A p np i j))) ∧ ((∀ j, bt x3 j = true → bt R.2.2.1 j = true) ∧ (∀ j, j < 32 → bt R.2.2.1 j = true → bt x3 j = true ∨ j < np) ∧ (∀ j, q ≤ j → hz_A p np i j = true → bt R.2.2.1 i = true ∧ bt R.2.2.1 j = true)) ∧ (∀ j, q ≤ j → hz_A p np i j = true → (R.2.2.2.2.1 2 (i * 14 + j)).toInt = hz_gz z2 p np i j) ∧ (∀ N, (∀ j, q ≤ j → j < np → N ≠ i * 14 + j) → R.2.2.2.2.1 2 N = y.2.1 2 N) := by
          intro v hv R hR
          obtain ⟨a1, a2, ⟨a3, a4, a5⟩, a6, a7⟩ := ih (q + 1) (x5 ||| ((1 : Int32) <<< (nI q &&& 31))) (x3 ||| (((1 : Int32) <<< (nI i &&& 31)) ||| ((1 : Int32) <<< (nI q &&& 31)))) (wA y 2 (upd (y.2.1 2) (i * 14 + q) v)) (by omega) hq (by omega) hy
          rw [← hR] at a1 a2 a3 a4 a5 a6 a7
          have oi : bt (x3 ||| (((1 : Int32) <<< (nI i &&& 31)) ||| ((1 : Int32) <<< (nI q &&& 31)))) i = true := by
            rw [b_or, b_or, hz_one (by omega) (by omega), decide_eq_true rfl]; simp
          have oq : bt (x3 ||| (((1 : Int32) <<< (nI i &&& 31)) ||| ((1 : Int32) <<< (nI q &&& 31)))) q = true := by
            rw [b_or, b_or, hz_one (i := q) (by omega) (by omega), decide_eq_true rfl]; simp
          have ww : (wA y 2 (upd (y.2.1 2) (i * 14 + q) v)).2.1 2 = upd (y.2.1 2) (i * 14 + q) v := hz_wAs _ _ _
          refine ⟨hz_wsT (hz_wsA (R := fun k => k = 2) y (k := 2) rfl _) a1, fun j hj => ?_, ⟨fun j hj => a3 j (by rw [b_or, hj]; rfl), fun j hj hb => ?_, fun j h1 h2 => ?_⟩, fun j h1 h2 => ?_, fun N hN => ?_⟩
          · rw [a2 j hj, b_or, hz_one (by omega) hj]
            by_cases e : j = q
            · subst e
              rw [hA1]; simp
            · rw [decide_eq_false (show ¬ q = j by omega), Bool.or_false]
              congr 2
              simp; omega
          · rcases a4 j hj hb with h1 | h1
            · rw [b_or, b_or, hz_one (by omega) hj, hz_one (by omega) hj] at h1
              simp only [Bool.or_eq_true, decide_eq_true_eq] at h1
              rcases h1 with h1 | h1 | h1
              · exact Or.inl h1
              · right; omega
              · right; omega
            · exact Or.inr h1
          · by_cases e : j = q
            · subst e
              exact ⟨a3 i oi, a3 j oq⟩
            · exact a5 j (by omega) h2
          · by_cases e : j = q
            · subst e
              rw [a7 (i * 14 + j) (fun t h3 h4 => by omega), ww, pk_us]; exact hv
            · exact a6 j (by omega) h2
          · rw [a7 N (fun t h3 h4 => hN t (by omega) h4), ww, pk_un (hN q (Nat.le_refl _) hq)]
        by_cases hz : z2 = 0
        · rw [if_pos hz]
          exact key 0 (by unfold hz_gz; rw [if_pos hz]; rfl) _ rfl
        · rw [if_neg hz]
          exact key (fX5_gapOf p (nI i) (nI q)) (by unfold hz_gz hz_g; rw [if_neg hz, if_pos ⟨hi, hq⟩]) _ rfl
theorem hz_tm15_21 {p : Pl} (hn : np ≤ 14) (hc : p.1 8 = nI np) (z2 : Int32) : ∀ (fu i : Nat) (x3 : Int32) (y : Wd), i ≤ np → np < fu + i → y.2.2.1 1 = p →
    (hz_ws (fun k => k = 1 ∨ k = 2) y (fX2_takeMatches_21_15 z2 fu (nI i) x3 y).2.2) ∧
    ((∀ j, bt x3 j = true → bt (fX2_takeMatches_21_15 z2 fu (nI i) x3 y).2.1 j = true) ∧ (∀ j, j < 32 → bt (fX2_takeMatches_21_15 z2 fu (nI i) x3 y).2.1 j = true → bt x3 j = true ∨ j < np) ∧ (∀ a j, i ≤ a → a < j → hz_A p np a j = true → bt (fX2_takeMatches_21_15 z2 fu (nI i) x3 y).2.1 a = true ∧ bt (fX2_takeMatches_21_15 z2 fu (nI i) x3 y).2.1 j = true)) ∧
    (∀ a, a < i → (fX2_takeMatches_21_15 z2 fu (nI i) x3 y).2.2.2.1 1 a = y.2.1 1 a) ∧
    (∀ a, i ≤ a → a < np → ∀ j, j < 14 → bt ((fX2_takeMatches_21_15 z2 fu (nI i) x3 y).2.2.2.1 1 a) j = (decide (a < j) && hz_A p np a j)) ∧
    (∀ a j, i ≤ a → a < j → hz_A p np a j = true → ((fX2_takeMatches_21_15 z2 fu (nI i) x3 y).2.2.2.1 2 (a * 14 + j)).toInt = hz_gz z2 p np a j) ∧
    (∀ a j, a < i → j < 14 → (fX2_takeMatches_21_15 z2 fu (nI i) x3 y).2.2.2.1 2 (a * 14 + j) = y.2.1 2 (a * 14 + j)) := by
  intro fu
  induction fu with
  | zero => intro i x3 y h1 h2; omega
  | succ fu ih =>
    intro i x3 y hi hf hy
    simp only [fX2_takeMatches_21_15, bnd, hy, hc]
    by_cases h : nI np ≤ nI i
    · rw [if_pos h]
      rw [nI_leI (by omega) (by omega)] at h
      refine ⟨hz_ws0 y, ⟨fun j hj => hj, fun j _ hj => Or.inl hj, fun a j h1 h2 h3 => ?_⟩, fun _ _ => rfl, fun a h1 h2 => by omega, fun a j h1 h2 h3 => ?_, fun _ _ _ _ => rfl⟩
      · have := hz_An p np a j h3; omega
      · have := hz_An p np a j h3; omega
    · have hi : i < np := hz_c hi (by omega) h
      have hfm := hz_fuM (i := i + 1) (by omega)
      rw [if_neg h, ← nI_succ]
      obtain ⟨a1, a2, ⟨a3, a4, a5⟩, a6, a7⟩ := hz_tm33_21 hn hc z2 hi (fuU 2147483647 (nI (i + 1))) (i + 1) 0 x3 y (by omega) hi (by omega) hy
      generalize fX2_takeMatches_21_33 z2 (nI i) (fuU 2147483647 (nI (i + 1))) (nI (i + 1)) 0 x3 y = X at *
      have hy2 : X.2.2.2.2.2.1 1 = p := by rw [a1.2.1]; exact hy
      rw [hz_put _ _ (show i < 14 by omega) (by decide)]
      have w1 : ∀ f, (wA X.2.2.2 1 f).2.1 1 = f := fun f => hz_wAs _ _ _
      have w2 : ∀ f, (wA X.2.2.2 1 f).2.1 2 = X.2.2.2.2.1 2 := fun f => rfl
      obtain ⟨b1, ⟨b2, b3, b4⟩, b5, b6, b7, b8⟩ := ih (i + 1) X.2.2.1 (wA X.2.2.2 1 (upd (X.2.2.2.2.1 1) i X.2.1)) hi (by omega) hy2
      have hws : hz_ws (fun k => k = 1 ∨ k = 2) y (wA X.2.2.2 1 (upd (X.2.2.2.2.1 1) i X.2.1)) := hz_wsT (hz_wsW a1 (fun k hk => Or.inr hk)) (hz_wsA (R := fun k => k = 1 ∨ k = 2) X.2.2.2 (k := 1) (Or.inl rfl) _)
      refine ⟨hz_wsT hws b1, ⟨fun j hj => b2 j (a3 j hj), fun j hj hb => ?_, fun a j h1 h2 h3 => ?_⟩, fun a ha => ?_, fun a h1 h2 j hj => ?_, fun a j h1 h2 h3 => ?_, fun a j h1 h2 => ?_⟩
      · rcases b3 j hj hb with h1 | h1
        · exact a4 j hj h1
        · exact Or.inr h1
      · by_cases e : a = i
        · subst e
          have := a5 j (by omega) h3
          exact ⟨b2 a this.1, b2 j this.2⟩
        · exact b4 a j (by omega) h2 h3
      · rw [b5 a (by omega), w1, pk_un (by omega), a1.2.2 1 (by decide)]
      · by_cases e : a = i
        · subst e
          rw [b5 a (by omega), w1, pk_us, a2 j (by omega), b_0, Bool.false_or]
          rfl
        · exact b6 a (by omega) h2 j hj
      · by_cases e : a = i
        · subst e
          have := hz_An p np a j h3
          rw [b8 a j (by omega) (by omega), w2]
          exact a6 j (by omega) h3
        · exact b7 a j (by omega) h2 h3
      · rw [b8 a j (by omega) h2, w2]
        exact a7 (a * 14 + j) (fun t h3 h4 => by omega)
theorem hz_take_21 {p : Pl} (hn : np ≤ 14) (hc : p.1 8 = nI np) (hsy : ∀ i j, hz_A p np i j = hz_A p np j i) (hir : ∀ i, hz_A p np i i = false) (z2 : Int32) {w : Wd} (hw : w.2.2.1 1 = p) {r : Nat} (hr : r + 1 < 2 ^ 40) (hR : w.2.2.2.2.1 = lN r) (hme : ∀ q, q < 8192 → (lshr (w.2.2.2.1 q) 20).toInt ≤ (r : Int)) :
    ∃ x w1, fX2_takeMatches_21 w z2 = (x, w1) ∧ hz_ws (fun k => k = 1 ∨ k = 2) (wR w (lN (r + 1))) w1 ∧ hz_fr8 (hz_A p np) np (w1.2.1 1) ∧ hz_gp (hz_A p np) (hz_gz z2 p np) (w1.2.1 2) ∧ hz_me (hz_A p np) (hz_gz z2 p np) w1.2.2.2.1 w1.2.2.2.2.1 ∧ (∃ S, S < 2 ^ np ∧ x = nI S) ∧ (∀ i j, hz_A p np i j = true → bt x i = true ∧ bt x j = true) := by
  have hpw := hz_pw hn
  have eR : w.2.2.2.2.1 + 1 = lN (r + 1) := by rw [hR, lN_1]
  unfold fX2_takeMatches_21
  simp only [bnd]
  rw [eR]
  have hfm := hz_fuM (i := 0) (by omega)
  rw [nI_0] at hfm
  have L := hz_tm15_21 (np := np) hn hc z2 (fuU 2147483647 0) 0 0 (wR w (lN (r + 1))) (Nat.zero_le _) (by omega) hw
  rw [nI_0] at L
  obtain ⟨b1, ⟨b2, b3, b4⟩, b5, b6, b7, b8⟩ := L
  generalize fX2_takeMatches_21_15 z2 (fuU 2147483647 0) 0 0 (wR w (lN (r + 1))) = X at *
  have hlt : ∀ i, i < 32 → bt X.2.1 i = true → i < np := fun i hi hb => by
    rcases b3 i hi hb with h | h
    · rw [b_0] at h; exact absurd h (by decide)
    · exact h
  have tN : ∀ m : Nat, m < 2 ^ 63 → (lN m).toInt = (m : Int) := fun m hm => by
    show (BitVec.ofNat 64 m).toInt = (m : Int)
    rw [BitVec.toInt_eq_toNat_of_lt (by rw [BitVec.toNat_ofNat, Nat.mod_eq_of_lt (by omega)]; omega), BitVec.toNat_ofNat, Nat.mod_eq_of_lt (by omega)]
  refine ⟨X.2.1, X.2.2, rfl, b1, fun i hi j hj => b6 i (Nat.zero_le _) hi j hj, fun i j h1 _ h3 => b7 i j (Nat.zero_le _) h1 h3, ?_, ?_, fun i j h => ?_⟩
  · rw [b1.2.1]
    intro q hq
    have h1 := hme q hq
    show (lshr (w.2.2.2.1 q) 20).toInt ≤ (lN (r + 1)).toInt ∧ (lshr (w.2.2.2.1 q) 20 = lN (r + 1) → _)
    rw [tN (r + 1) (by omega)]
    refine ⟨by omega, fun e => ?_⟩
    rw [e, tN (r + 1) (by omega)] at h1
    omega
  · have hsm : hz_sm X.2.1 := fun i h1 h2 => by
      cases hb : bt X.2.1 i
      · rfl
      · have := hlt i h2 hb; omega
    obtain ⟨S, s1, s2⟩ := hz_smN hsm
    refine ⟨S, ?_, s2⟩
    refine Nat.lt_pow_two_of_testBit _ (fun j hj => ?_)
    by_cases hj2 : j < 32
    · rw [← hz_btN S j hj2, ← s2]
      cases hb : bt X.2.1 j
      · rfl
      · have := hlt j hj2 hb; omega
    · exact Nat.testBit_lt_two_pow (Nat.lt_of_lt_of_le (show S < 2 ^ 14 from s1) (Nat.pow_le_pow_right (by decide) (by omega)))
  · rcases Nat.lt_trichotomy i j with e | e | e
    · exact b4 i j (Nat.zero_le _) e h
    · rw [e, hir] at h; exact absurd h (by decide)
    · rw [hsy] at h
      have := b4 j i (Nat.zero_le _) e h
      exact ⟨this.2, this.1⟩
theorem hz_tm33_37 {p : Pl} (hn : np ≤ 14) (hc : p.1 8 = nI np) (z2 : Int32) {i : Nat} (hi : i < np) : ∀ (fu q : Nat) (x5 x3 : Int32) (y : Wd), i < q → q ≤ np → np < fu + q → y.2.2.1 2 = p →
    (hz_ws (fun k => k = 2) y (fX2_takeMatches_37_33 z2 (nI i) fu (nI q) x5 x3 y).2.2.2) ∧
    (∀ j, j < 32 → bt (fX2_takeMatches_37_33 z2 (nI i) fu (nI q) x5 x3 y).2.1 j = (bt x5 j || (decide (q ≤ j) && hz_A p np i j))) ∧
    ((∀ j, bt x3 j = true → bt (fX2_takeMatches_37_33 z2 (nI i) fu (nI q) x5 x3 y).2.2.1 j = true) ∧ (∀ j, j < 32 → bt (fX2_takeMatches_37_33 z2 (nI i) fu (nI q) x5 x3 y).2.2.1 j = true → bt x3 j = true ∨ j < np) ∧ (∀ j, q ≤ j → hz_A p np i j = true → bt (fX2_takeMatches_37_33 z2 (nI i) fu (nI q) x5 x3 y).2.2.1 i = true ∧ bt (fX2_takeMatches_37_33 z2 (nI i) fu (nI q) x5 x3 y).2.2.1 j = true)) ∧
    (∀ j, q ≤ j → hz_A p np i j = true → ((fX2_takeMatches_37_33 z2 (nI i) fu (nI q) x5 x3 y).2.2.2.2.1 2 (i * 14 + j)).toInt = hz_gz z2 p np i j) ∧
    (∀ N, (∀ j, q ≤ j → j < np → N ≠ i * 14 + j) → (fX2_takeMatches_37_33 z2 (nI i) fu (nI q) x5 x3 y).2.2.2.2.1 2 N = y.2.1 2 N) := by
  intro fu
  induction fu with
  | zero => intro q x5 x3 y h1 h2 h3; omega
  | succ fu ih =>
    intro q x5 x3 y hiq hqn hf hy
    simp only [fX2_takeMatches_37_33, hy, hc]
    have hout : ∀ j, np ≤ j → hz_A p np i j = false := fun j hj => by
      unfold hz_A
      rw [decide_eq_false (show ¬ j < np by omega), Bool.and_false, Bool.false_and]
    by_cases h : nI np ≤ nI q
    · rw [if_pos h]
      rw [nI_leI (by omega) (by omega)] at h
      refine ⟨hz_ws0 y, fun j hj => ?_, ⟨fun j hj => hj, fun j _ hj => Or.inl hj, fun j h1 h2 => ?_⟩, fun j h1 h2 => ?_, fun N _ => rfl⟩
      · by_cases hj2 : q ≤ j
        · rw [hout j (by omega), Bool.and_false, Bool.or_false]
        · rw [decide_eq_false hj2, Bool.false_and, Bool.or_false]
      · rw [hout j (by omega)] at h2; exact absurd h2 (by decide)
      · rw [hout j (by omega)] at h2; exact absurd h2 (by decide)
    · have hq : q < np := hz_c hqn (by omega) h
      have hA : hz_A p np i q = decide (fX5_fits p (nI i) (nI q) = 1) := by
        unfold hz_A
        rw [decide_eq_true hi, decide_eq_true hq]; rfl
      rw [if_neg h, ← nI_succ]
      by_cases h0 : fX5_fits p (nI i) (nI q) = 0
      · have hA0 : hz_A p np i q = false := by rw [hA, h0]; rfl
        rw [if_pos h0]
        obtain ⟨a1, a2, ⟨a3, a4, a5⟩, a6, a7⟩ := ih (q + 1) x5 x3 y (by omega) hq (by omega) hy
        have hne : ∀ j, q ≤ j → hz_A p np i j = true → q + 1 ≤ j := fun j h1 h2 => by
          by_cases e : j = q
          · rw [e, hA0] at h2; exact absurd h2 (by decide)
          · omega
        refine ⟨a1, fun j hj => ?_, ⟨a3, a4, fun j h1 h2 => a5 j (hne j h1 h2) h2⟩, fun j h1 h2 => a6 j (hne j h1 h2) h2, fun N hN => a7 N (fun j h1 h2 => hN j (by omega) h2)⟩
        rw [a2 j hj]
        by_cases e : j = q
        · rw [e, hA0, Bool.and_false, Bool.and_false]
        · congr 2
          simp; omega
      · have hA1 : hz_A p np i q = true := by rw [hA, (hz_fits01 p _ _).resolve_left h0]; rfl
        have ei : nI i * 14 + nI q = nI (i * 14 + q) := by rw [show (14 : Int32) = nI 14 from rfl, pk_mul, nI_add]
        rw [if_neg h0, ei, hz_put _ _ (show i * 14 + q < 196 by omega) (by decide), hz_put _ _ (show i * 14 + q < 196 by omega) (by decide)]
        -- one step, with this gap
        have key : ∀ v : Int32, v.toInt = hz_gz z2 p np i q → ∀ R : Int32 × Int32 × Int32 × Wd, R = fX2_takeMatches_37_33 z2 (nI i) fu (nI (q + 1)) (x5 ||| ((1 : Int32) <<< (nI q &&& 31))) (x3 ||| (((1 : Int32) <<< (nI i &&& 31)) ||| ((1 : Int32) <<< (nI q &&& 31)))) (wA y 2 (upd (y.2.1 2) (i * 14 + q) v)) →
            (hz_ws (fun k => k = 2) y R.2.2.2) ∧ (∀ j, j < 32 → bt R.2.1 j = (bt x5 j || (decide (q ≤ j) && hz_A p np i j))) ∧ ((∀ j, bt x3 j = true → bt R.2.2.1 j = true) ∧ (∀ j, j < 32 → bt R.2.2.1 j = true → bt x3 j = true ∨ j < np) ∧ (∀ j, q ≤ j → hz_A p np i j = true → bt R.2.2.1 i = true ∧ bt R.2.2.1 j = true)) ∧ (∀ j, q ≤ j → hz_A p np i j = true → (R.2.2.2.2.1 2 (i * 14 + j)).toInt = hz_gz z2 p np i j) ∧ (∀ N, (∀ j, q ≤ j → j < np → N ≠ i * 14 + j) → R.2.2.2.2.1 2 N = y.2.1 2 N) := by
          intro v hv R hR
          obtain ⟨a1, a2, ⟨a3, a4, a5⟩, a6, a7⟩ := ih (q + 1) (x5 ||| ((1 : Int32) <<< (nI q &&& 31))) (x3 ||| (((1 : Int32) <<< (nI i &&& 31)) ||| ((1 : Int32) <<< (nI q &&& 31)))) (wA y 2 (upd (y.2.1 2) (i * 14 + q) v)) (by omega) hq (by omega) hy
          rw [← hR] at a1 a2 a3 a4 a5 a6 a7
          have oi : bt (x3 ||| (((1 : Int32) <<< (nI i &&& 31)) ||| ((1 : Int32) <<< (nI q &&& 31)))) i = true := by
            rw [b_or, b_or, hz_one (by omega) (by omega), decide_eq_true rfl]; simp
          have oq : bt (x3 ||| (((1 : Int32) <<< (nI i &&& 31)) ||| ((1 : Int32) <<< (nI q &&& 31)))) q = true := by
            rw [b_or, b_or, hz_one (i := q) (by omega) (by omega), decide_eq_true rfl]; simp
          have ww : (wA y 2 (upd (y.2.1 2) (i * 14 + q) v)).2.1 2 = upd (y.2.1 2) (i * 14 + q) v := hz_wAs _ _ _
          refine ⟨hz_wsT (hz_wsA (R := fun k => k = 2) y (k := 2) rfl _) a1, fun j hj => ?_, ⟨fun j hj => a3 j (by rw [b_or, hj]; rfl), fun j hj hb => ?_, fun j h1 h2 => ?_⟩, fun j h1 h2 => ?_, fun N hN => ?_⟩
          · rw [a2 j hj, b_or, hz_one (by omega) hj]
            by_cases e : j = q
            · subst e
              rw [hA1]; simp
            · rw [decide_eq_false (show ¬ q = j by omega), Bool.or_false]
              congr 2
              simp; omega
          · rcases a4 j hj hb with h1 | h1
            · rw [b_or, b_or, hz_one (by omega) hj, hz_one (by omega) hj] at h1
              simp only [Bool.or_eq_true, decide_eq_true_eq] at h1
              rcases h1 with h1 | h1 | h1
              · exact Or.inl h1
              · right; omega
              · right; omega
            · exact Or.inr h1
          · by_cases e : j = q
            · subst e
              exact ⟨a3 i oi, a3 j oq⟩
            · exact a5 j (by omega) h2
          · by_cases e : j = q
            · subst e
              rw [a7 (i * 14 + j) (fun t h3 h4 => by omega), ww, pk_us]; exact hv
            · exact a6 j (by omega) h2
          · rw [a7 N (fun t h3 h4 => hN t (by omega) h4), ww, pk_un (hN q (Nat.le_refl _) hq)]
        by_cases hz : z2 = 0
        · rw [if_pos hz]
          exact key 0 (by unfold hz_gz; rw [if_pos hz]; rfl) _ rfl
        · rw [if_neg hz]
          exact key (fX5_gapOf p (nI i) (nI q)) (by unfold hz_gz hz_g; rw [if_neg hz, if_pos ⟨hi, hq⟩]) _ rfl
theorem hz_tm15_37 {p : Pl} (hn : np ≤ 14) (hc : p.1 8 = nI np) (z2 : Int32) : ∀ (fu i : Nat) (x3 : Int32) (y : Wd), i ≤ np → np < fu + i → y.2.2.1 2 = p →
    (hz_ws (fun k => k = 1 ∨ k = 2) y (fX2_takeMatches_37_15 z2 fu (nI i) x3 y).2.2) ∧
    ((∀ j, bt x3 j = true → bt (fX2_takeMatches_37_15 z2 fu (nI i) x3 y).2.1 j = true) ∧ (∀ j, j < 32 → bt (fX2_takeMatches_37_15 z2 fu (nI i) x3 y).2.1 j = true → bt x3 j = true ∨ j < np) ∧ (∀ a j, i ≤ a → a < j → hz_A p np a j = true → bt (fX2_takeMatches_37_15 z2 fu (nI i) x3 y).2.1 a = true ∧ bt (fX2_takeMatches_37_15 z2 fu (nI i) x3 y).2.1 j = true)) ∧
    (∀ a, a < i → (fX2_takeMatches_37_15 z2 fu (nI i) x3 y).2.2.2.1 1 a = y.2.1 1 a) ∧
    (∀ a, i ≤ a → a < np → ∀ j, j < 14 → bt ((fX2_takeMatches_37_15 z2 fu (nI i) x3 y).2.2.2.1 1 a) j = (decide (a < j) && hz_A p np a j)) ∧
    (∀ a j, i ≤ a → a < j → hz_A p np a j = true → ((fX2_takeMatches_37_15 z2 fu (nI i) x3 y).2.2.2.1 2 (a * 14 + j)).toInt = hz_gz z2 p np a j) ∧
    (∀ a j, a < i → j < 14 → (fX2_takeMatches_37_15 z2 fu (nI i) x3 y).2.2.2.1 2 (a * 14 + j) = y.2.1 2 (a * 14 + j)) := by
  intro fu
  induction fu with
  | zero => intro i x3 y h1 h2; omega
  | succ fu ih =>
    intro i x3 y hi hf hy
    simp only [fX2_takeMatches_37_15, bnd, hy, hc]
    by_cases h : nI np ≤ nI i
    · rw [if_pos h]
      rw [nI_leI (by omega) (by omega)] at h
      refine ⟨hz_ws0 y, ⟨fun j hj => hj, fun j _ hj => Or.inl hj, fun a j h1 h2 h3 => ?_⟩, fun _ _ => rfl, fun a h1 h2 => by omega, fun a j h1 h2 h3 => ?_, fun _ _ _ _ => rfl⟩
      · have := hz_An p np a j h3; omega
      · have := hz_An p np a j h3; omega
    · have hi : i < np := hz_c hi (by omega) h
      have hfm := hz_fuM (i := i + 1) (by omega)
      rw [if_neg h, ← nI_succ]
      obtain ⟨a1, a2, ⟨a3, a4, a5⟩, a6, a7⟩ := hz_tm33_37 hn hc z2 hi (fuU 2147483647 (nI (i + 1))) (i + 1) 0 x3 y (by omega) hi (by omega) hy
      generalize fX2_takeMatches_37_33 z2 (nI i) (fuU 2147483647 (nI (i + 1))) (nI (i + 1)) 0 x3 y = X at *
      have hy2 : X.2.2.2.2.2.1 2 = p := by rw [a1.2.1]; exact hy
      rw [hz_put _ _ (show i < 14 by omega) (by decide)]
      have w1 : ∀ f, (wA X.2.2.2 1 f).2.1 1 = f := fun f => hz_wAs _ _ _
      have w2 : ∀ f, (wA X.2.2.2 1 f).2.1 2 = X.2.2.2.2.1 2 := fun f => rfl
      obtain ⟨b1, ⟨b2, b3, b4⟩, b5, b6, b7, b8⟩ := ih (i + 1) X.2.2.1 (wA X.2.2.2 1 (upd (X.2.2.2.2.1 1) i X.2.1)) hi (by omega) hy2
      have hws : hz_ws (fun k => k = 1 ∨ k = 2) y (wA X.2.2.2 1 (upd (X.2.2.2.2.1 1) i X.2.1)) := hz_wsT (hz_wsW a1 (fun k hk => Or.inr hk)) (hz_wsA (R := fun k => k = 1 ∨ k = 2) X.2.2.2 (k := 1) (Or.inl rfl) _)
      refine ⟨hz_wsT hws b1, ⟨fun j hj => b2 j (a3 j hj), fun j hj hb => ?_, fun a j h1 h2 h3 => ?_⟩, fun a ha => ?_, fun a h1 h2 j hj => ?_, fun a j h1 h2 h3 => ?_, fun a j h1 h2 => ?_⟩
      · rcases b3 j hj hb with h1 | h1
        · exact a4 j hj h1
        · exact Or.inr h1
      · by_cases e : a = i
        · subst e
          have := a5 j (by omega) h3
          exact ⟨b2 a this.1, b2 j this.2⟩
        · exact b4 a j (by omega) h2 h3
      · rw [b5 a (by omega), w1, pk_un (by omega), a1.2.2 1 (by decide)]
      · by_cases e : a = i
        · subst e
          rw [b5 a (by omega), w1, pk_us, a2 j (by omega), b_0, Bool.false_or]
          rfl
        · exact b6 a (by omega) h2 j hj
      · by_cases e : a = i
        · subst e
          have := hz_An p np a j h3
          rw [b8 a j (by omega) (by omega), w2]
          exact a6 j (by omega) h3
        · exact b7 a j (by omega) h2 h3
      · rw [b8 a j (by omega) h2, w2]
        exact a7 (a * 14 + j) (fun t h3 h4 => by omega)
theorem hz_take_37 {p : Pl} (hn : np ≤ 14) (hc : p.1 8 = nI np) (hsy : ∀ i j, hz_A p np i j = hz_A p np j i) (hir : ∀ i, hz_A p np i i = false) (z2 : Int32) {w : Wd} (hw : w.2.2.1 2 = p) {r : Nat} (hr : r + 1 < 2 ^ 40) (hR : w.2.2.2.2.1 = lN r) (hme : ∀ q, q < 8192 → (lshr (w.2.2.2.1 q) 20).toInt ≤ (r : Int)) :
    ∃ x w1, fX2_takeMatches_37 w z2 = (x, w1) ∧ hz_ws (fun k => k = 1 ∨ k = 2) (wR w (lN (r + 1))) w1 ∧ hz_fr8 (hz_A p np) np (w1.2.1 1) ∧ hz_gp (hz_A p np) (hz_gz z2 p np) (w1.2.1 2) ∧ hz_me (hz_A p np) (hz_gz z2 p np) w1.2.2.2.1 w1.2.2.2.2.1 ∧ (∃ S, S < 2 ^ np ∧ x = nI S) ∧ (∀ i j, hz_A p np i j = true → bt x i = true ∧ bt x j = true) := by
  have hpw := hz_pw hn
  have eR : w.2.2.2.2.1 + 1 = lN (r + 1) := by rw [hR, lN_1]
  unfold fX2_takeMatches_37
  simp only [bnd]
  rw [eR]
  have hfm := hz_fuM (i := 0) (by omega)
  rw [nI_0] at hfm
  have L := hz_tm15_37 (np := np) hn hc z2 (fuU 2147483647 0) 0 0 (wR w (lN (r + 1))) (Nat.zero_le _) (by omega) hw
  rw [nI_0] at L
  obtain ⟨b1, ⟨b2, b3, b4⟩, b5, b6, b7, b8⟩ := L
  generalize fX2_takeMatches_37_15 z2 (fuU 2147483647 0) 0 0 (wR w (lN (r + 1))) = X at *
  have hlt : ∀ i, i < 32 → bt X.2.1 i = true → i < np := fun i hi hb => by
    rcases b3 i hi hb with h | h
    · rw [b_0] at h; exact absurd h (by decide)
    · exact h
  have tN : ∀ m : Nat, m < 2 ^ 63 → (lN m).toInt = (m : Int) := fun m hm => by
    show (BitVec.ofNat 64 m).toInt = (m : Int)
    rw [BitVec.toInt_eq_toNat_of_lt (by rw [BitVec.toNat_ofNat, Nat.mod_eq_of_lt (by omega)]; omega), BitVec.toNat_ofNat, Nat.mod_eq_of_lt (by omega)]
  refine ⟨X.2.1, X.2.2, rfl, b1, fun i hi j hj => b6 i (Nat.zero_le _) hi j hj, fun i j h1 _ h3 => b7 i j (Nat.zero_le _) h1 h3, ?_, ?_, fun i j h => ?_⟩
  · rw [b1.2.1]
    intro q hq
    have h1 := hme q hq
    show (lshr (w.2.2.2.1 q) 20).toInt ≤ (lN (r + 1)).toInt ∧ (lshr (w.2.2.2.1 q) 20 = lN (r + 1) → _)
    rw [tN (r + 1) (by omega)]
    refine ⟨by omega, fun e => ?_⟩
    rw [e, tN (r + 1) (by omega)] at h1
    omega
  · have hsm : hz_sm X.2.1 := fun i h1 h2 => by
      cases hb : bt X.2.1 i
      · rfl
      · have := hlt i h2 hb; omega
    obtain ⟨S, s1, s2⟩ := hz_smN hsm
    refine ⟨S, ?_, s2⟩
    refine Nat.lt_pow_two_of_testBit _ (fun j hj => ?_)
    by_cases hj2 : j < 32
    · rw [← hz_btN S j hj2, ← s2]
      cases hb : bt X.2.1 j
      · rfl
      · have := hlt j hj2 hb; omega
    · exact Nat.testBit_lt_two_pow (Nat.lt_of_lt_of_le (show S < 2 ^ 14 from s1) (Nat.pow_le_pow_right (by decide) (by omega)))
  · rcases Nat.lt_trichotomy i j with e | e | e
    · exact b4 i j (Nat.zero_le _) e h
    · rw [e, hir] at h; exact absurd h (by decide)
    · rw [hsy] at h
      have := b4 j i (Nat.zero_le _) e h
      exact ⟨this.2, this.1⟩
end HZK
