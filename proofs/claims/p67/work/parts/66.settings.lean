/-! The settings' statements: steam, box, tolerance. -/
def hz_fcW (w w1 : Wd) : Prop := (∀ k, ¬ k = 1 → ¬ k = 2 → ¬ k = 4 → ¬ k = 5 → ¬ k = 6 → ¬ k = 7 → ¬ k = 8 → ¬ k = 9 → ¬ k = 10 → w1.1 k = w.1 k) ∧ w1.2.1 = w.2.1 ∧ (∀ k, ¬ k = 0 → w1.2.2.1 k = w.2.2.1 k) ∧ w1.2.2.2 = w.2.2.2
def hz_fmW (m m1 : Md) : Prop := (∀ k, ¬ k = 5 → ¬ k = 6 → ¬ k = 7 → ¬ k = 8 → ¬ k = 9 → ¬ k = 10 → ¬ k = 11 → m1.1 k = m.1 k) ∧ (∀ k, ¬ k = 1 → m1.2.1 k = m.2.1 k) ∧ m1.2.2 = m.2.2
theorem hz_fcWD {w w1 : Wd} (h : hz_fcD w w1) : hz_fcW w w1 := ⟨fun k a1 a2 a3 a4 a5 a6 _ _ _ => h.1 k a1 a2 a3 a4 a5 a6, h.2⟩
theorem hz_fmWD {m m1 : Md} (h : hz_fmD m m1) : hz_fmW m m1 := ⟨fun k a1 a2 a3 a4 a5 a6 _ => h.1 k a1 a2 a3 a4 a5 a6, h.2⟩
theorem hz_fcWT {a b c : Wd} (h : hz_fcW a b) (g : hz_fcW b c) : hz_fcW a c := ⟨fun k a1 a2 a3 a4 a5 a6 a7 a8 a9 => (g.1 k a1 a2 a3 a4 a5 a6 a7 a8 a9).trans (h.1 k a1 a2 a3 a4 a5 a6 a7 a8 a9), g.2.1.trans h.2.1, fun k hk => (g.2.2.1 k hk).trans (h.2.2.1 k hk), g.2.2.2.trans h.2.2.2⟩
theorem hz_fmWT {a b c : Md} (h : hz_fmW a b) (g : hz_fmW b c) : hz_fmW a c := ⟨fun k a1 a2 a3 a4 a5 a6 a7 => (g.1 k a1 a2 a3 a4 a5 a6 a7).trans (h.1 k a1 a2 a3 a4 a5 a6 a7), fun k hk => (g.2.1 k hk).trans (h.2.1 k hk), g.2.2.trans h.2.2⟩
theorem hz_uone {p : Pl} {f : Nat → Int32} {ny ns nz np : Nat} (hP : hz_PR p f ny ns nz np) {z : Nat} {v : Int32} (hz : z < 4) (h0 : z = 0 → hz_rg 0 500 v) (h1 : z = 1 → hz_rg 0 255 v) (h2 : z = 2 → hz_rg 0 100 v) (h3 : z = 3 → hz_rg 1 6 v) : hz_PR (upS p (z + 3) v) (upd f z v) ny ns nz np := by
  obtain ⟨a0, a1, a2, a3, a4⟩ := hP.2.2.2.1
  obtain ⟨r0, r1, r2, r3⟩ := hP.2.2.2.2.1
  refine hz_uset hP (fun k _ hk => if_neg (by omega)) rfl (fun j hj => pk_un (by omega)) ?_ ?_
  · rcases (show z = 0 ∨ z = 1 ∨ z = 2 ∨ z = 3 by omega) with rfl | rfl | rfl | rfl
    · exact ⟨rfl, a1, a2, a3, a4⟩
    · exact ⟨a0, rfl, a2, a3, a4⟩
    · exact ⟨a0, a1, rfl, a3, a4⟩
    · exact ⟨a0, a1, a2, rfl, a4⟩
  · rcases (show z = 0 ∨ z = 1 ∨ z = 2 ∨ z = 3 by omega) with rfl | rfl | rfl | rfl
    · exact ⟨h0 rfl, r1, r2, r3⟩
    · exact ⟨r0, h1 rfl, r2, r3⟩
    · exact ⟨r0, r1, h2 rfl, r3⟩
    · exact ⟨r0, r1, r2, h3 rfl⟩
/-- the flags of the statements that may stand once: class 8, 9, 10, model's bits 0, 1, 2 -/
def hz_fg (v x : Int32) (i : Nat) : Prop := (v = 0 ∧ bt x i = false) ∨ (¬ v = 0 ∧ bt x i = true)
def hz_flg (w : Wd) (m : Md) : Prop := ∀ i, i < 3 → hz_fg (w.1 (8 + i)) (m.1 11) i
theorem hz_flgD {w w1 : Wd} {m m1 : Md} (h : hz_flg w m) (a : hz_fcD w w1) (b : hz_fmD m m1) : hz_flg w1 m1 := fun i hi => by
  rw [a.1 (8 + i) (by omega) (by omega) (by omega) (by omega) (by omega) (by omega), b.1 11 (by omega) (by omega) (by omega) (by omega) (by omega) (by omega)]
  exact h i hi
theorem hz_flgO {w w1 : Wd} {m m1 : Md} (h : hz_flg w m) {i : Nat} (hi : i < 3) (a : ¬ w1.1 (8 + i) = 0) (a2 : ∀ j, j < 3 → ¬ j = i → w1.1 (8 + j) = w.1 (8 + j)) (b : m1.1 11 = m.1 11 ||| ((1 : Int32) <<< (nI i &&& 31))) : hz_flg w1 m1 := fun j hj => by
  unfold hz_fg
  rw [b, b_or, hz_one (by omega) (by omega)]
  by_cases c : i = j
  · subst c
    exact Or.inr ⟨a, by simp⟩
  · rw [a2 j hj (by omega), decide_eq_false c, Bool.or_false]
    exact h j hj
section HZZ
variable {L : Nat} {g : Nat → Nat} {w : Wd} {m : Md} {s q k ny ns nz np : Nat}
/-- one number of the draft set: class and model -/
theorem hz_setN {p : Nat} (h : hz_tx L g w m) (hE : hz_either L g w m p) (h1 : m.2.2 = 1) {a b z : Nat} (hz : z < 4) (ha : a < 99999) (hb : b < 99999) (h0 : z = 0 → a = 0 ∧ b = 500) (h1' : z = 1 → a = 0 ∧ b = 255) (h2 : z = 2 → a = 0 ∧ b = 100) (h3 : z = 3 → a = 1 ∧ b = 6) (hP : w.1 1 = 0 → hz_PR (w.2.2.1 0) (m.2.1 1) ny ns nz np) {r : Int32 × Wd} (er : fX4_readNumber w (nI a) (nI b) = r) {R : Int32 × Md} (eR : fX7_number m (nI a) (nI b) = R) {w1 : Wd} (ew : wP r.2 0 (upS (r.2.2.2.1 0) (z + 3) r.1) = w1) {m1 : Md} (em : mA R.2 1 (upd (R.2.2.1 1) z R.1) = m1) : sX7_number m (nI a) (nI b) ∧ R.2.2.2 = 1 ∧ hz_fcD w w1 ∧ hz_fmD m m1 ∧ hz_either L g w1 m1 p ∧ (w1.1 1 = 0 → hz_PR (w1.2.2.1 0) (m1.2.1 1) ny ns nz np) := by
  obtain ⟨n1, n2, n3⟩ := hz_numE h hE ha hb
  have kc : hz_ck w r.2 := er ▸ hz_ckN w _ _
  rw [eR] at n2
  rw [er, eR] at n3
  have hR : R.2.2.2 = 1 := by rw [n2.2]; exact h1
  have fw : hz_fcD w w1 := by
    rw [← ew]
    exact hz_fcT (hz_fcK kc) ⟨fun _ _ _ _ _ _ _ => rfl, rfl, fun j hj => if_neg hj, rfl⟩
  have fm : hz_fmD m m1 := by
    rw [← em]
    exact hz_fmT (hz_fmF n2) (hz_fmA _ _)
  refine ⟨n1, hR, fw, fm, ?_, fun hw0 => ?_⟩
  · rw [← ew, ← em]
    rcases n3 with n3 | ⟨s1, q1, k1, v, a1, a2, a3, a4, a5, a6⟩
    · exact Or.inl n3
    · exact Or.inr ⟨s1, q1, k1, a1, a2⟩
  · have hr0 : r.2.1 1 = 0 := by rw [← ew] at hw0; exact hw0
    have hw : w.1 1 = 0 := by
      by_cases c : w.1 1 = 0
      · exact c
      · exact absurd ((kc.2 c).1.symm.trans hr0) c
    rcases n3 with n3 | ⟨s1, q1, k1, v, a1, a2, a3, a4, a5, a6⟩
    · exact absurd hr0 n3.1
    · have hP1 := hP hw
      have e1 : w1.2.2.1 0 = upS (w.2.2.1 0) (z + 3) (nI v) := by
        rw [← ew]
        show upS (r.2.2.2.1 0) (z + 3) r.1 = _
        rw [kc.1.2, a3]
      have e2 : m1.2.1 1 = upd (m.2.1 1) z (nI v) := by
        rw [← em]
        show upd (R.2.2.1 1) z R.1 = _
        rw [n2.2, a4]
      rw [e1, e2]
      have ev : (nI v).toInt = (v : Int) := nI_toInt (by omega)
      refine hz_uone hP1 hz (fun c => ?_) (fun c => ?_) (fun c => ?_) (fun c => ?_)
      · have := h0 c
        exact ⟨by rw [ev]; omega, by rw [ev]; omega⟩
      · have := h1' c
        exact ⟨by rw [ev]; omega, by rw [ev]; omega⟩
      · have := h2 c
        exact ⟨by rw [ev]; omega, by rw [ev]; omega⟩
      · have := h3 c
        exact ⟨by rw [ev]; omega, by rw [ev]; omega⟩
/-- the first word of a setting and its first number -/
theorem hz_set1 (h : hz_tx L g w m) (ho : hz_prs L g w m s q k) (h1 : m.2.2 = 1) (hP : hz_PR (w.2.2.1 0) (m.2.1 1) ny ns nz np) (hF : hz_flg w m) {i a b z : Nat} (hi : i < 3) (hz : z < 4) (ha : a < 99999) (hb : b < 99999) (h0 : z = 0 → a = 0 ∧ b = 500) (h1' : z = 1 → a = 0 ∧ b = 255) (h2 : z = 2 → a = 0 ∧ b = 100) (h3 : z = 3 → a = 1 ∧ b = 6) {r4 : Wd} (e4 : fX4_startStatement w (w.1 (8 + i)) 3 = r4) {r : Int32 × Wd} (er : fX4_readNumber (wS r4 (8 + i) 1) (nI a) (nI b) = r) {w1 : Wd} (ew : wP r.2 0 (upS (r.2.2.2.1 0) (z + 3) r.1) = w1) {m1 : Md} (em : hz_one1 m (nI i) (nI a) (nI b) z = m1) : sX7_once m (nI i) ∧ sX7_number (fX7_once m (nI i)) (nI a) (nI b) ∧ (fX7_number (fX7_once m (nI i)) (nI a) (nI b)).2.2.2 = (fX7_once m (nI i)).2.2 ∧ hz_fcW w w1 ∧ hz_fmW m m1 ∧ hz_tx L g w1 m1 ∧ m1.2.2 = 1 ∧ hz_flg w1 m1 ∧ hz_either L g w1 m1 q ∧ (w1.1 1 = 0 → hz_PR (w1.2.2.1 0) (m1.2.1 1) ny ns nz np) := by
  obtain ⟨o1, o2, o3, o4, o5⟩ := hz_once h ho hi (hF i hi)
  have hN : (fX7_once m (nI i)).2.2 = 1 := by rw [o4]; exact h1
  unfold hz_one1 at em
  rw [hN] at em ⊢
  generalize fX7_once m (nI i) = N at *
  rw [e4] at o5
  have k4 : hz_ck w r4 := e4 ▸ hz_ckS w _ 3
  have tN : hz_tx L g (wS r4 (8 + i) 1) N := by
    refine hz_txS h ?_ (o2 4 (by decide) (by decide) (by decide) (by decide) (by decide) (by decide) (by decide)) ?_ (by rw [o4])
    · exact (if_neg (by omega)).trans (k4.1.1 3 (by decide) (by decide) (by decide) (by decide) (by decide) (by decide))
    · show r4.2.1 0 = _
      rw [k4.1.2]
  have b5 : hz_either L g (wS r4 (8 + i) 1) N q := by
    have f1 : (wS r4 (8 + i) 1).1 1 = r4.1 1 := if_neg (by omega)
    have f2 : (wS r4 (8 + i) 1).1 2 = r4.1 2 := if_neg (by omega)
    have f4 : (wS r4 (8 + i) 1).1 4 = r4.1 4 := if_neg (by omega)
    have f5 : (wS r4 (8 + i) 1).1 5 = r4.1 5 := if_neg (by omega)
    have f6 : (wS r4 (8 + i) 1).1 6 = r4.1 6 := if_neg (by omega)
    have f7 : (wS r4 (8 + i) 1).1 7 = r4.1 7 := if_neg (by omega)
    rcases o5 with o5 | ⟨s1, q1, k1, a1, a2⟩
    · left
      unfold hz_bad
      rw [f1, f2]
      exact o5
    · right
      refine ⟨s1, q1, k1, a1, ?_⟩
      unfold hz_prs hz_tok
      rw [f1, f4, f5, f6, f7]
      exact a2
  have pN : (wS r4 (8 + i) 1).1 1 = 0 → hz_PR ((wS r4 (8 + i) 1).2.2.1 0) (N.2.1 1) ny ns nz np := fun _ => by
    show hz_PR (r4.2.2.1 0) (N.2.1 1) ny ns nz np
    rw [k4.1.2, o4]
    exact hP
  obtain ⟨u1, u2, u3, u4, u5, u6⟩ := hz_setN tN b5 hN hz ha hb h0 h1' h2 h3 pN er rfl ew em
  have k8 : hz_fcW w (wS r4 (8 + i) 1) := hz_fcWT (hz_fcWD (hz_fcK k4)) ⟨fun k a1 a2 a3 a4 a5 a6 a7 a8 a9 => if_neg (by omega), rfl, fun _ _ => rfl, rfl⟩
  have kN : hz_fmW m N := ⟨o2, fun k _ => by rw [o4], by rw [o4]⟩
  refine ⟨o1, u1, u2, hz_fcWT k8 (hz_fcWD u3), hz_fmWT kN (hz_fmWD u4), hz_txE tN u3 u4, by rw [u4.2.2]; exact hN, ?_, u5, u6⟩
  refine hz_flgD (hz_flgO hF hi (w1 := wS r4 (8 + i) 1) (m1 := N) ?_ (fun j hj hji => ?_) o3) u3 u4
  · show ¬ (if 8 + i = 8 + i then (1 : Int32) else r4.1 (8 + i)) = 0
    rw [if_pos rfl]; decide
  · exact (if_neg (by omega)).trans (k4.1.1 (8 + j) (by omega) (by omega) (by omega) (by omega) (by omega) (by omega))
/-- what is known behind a statement -/
def hz_sOut (L : Nat) (g : Nat → Nat) (w : Wd) (m : Md) (q : Nat) (w1 : Wd) (m1 : Md) : Prop := hz_fcW w w1 ∧ hz_fmW m m1 ∧ hz_flg w1 m1 ∧ (hz_bad w1 m1 ∨ ∃ s1 q1 k1 ny ns nz np, q ≤ s1 ∧ hz_prs L g w1 m1 s1 q1 k1 ∧ hz_PR (w1.2.2.1 0) (m1.2.1 1) ny ns nz np)
theorem hz_sEnd {w1 : Wd} {m1 : Md} (t : hz_tx L g w1 m1) (h1 : hz_fcW w w1) (h2 : hz_fmW m m1) (hF : hz_flg w1 m1) (hE : hz_either L g w1 m1 q) (hP : w1.1 1 = 0 → hz_PR (w1.2.2.1 0) (m1.2.1 1) ny ns nz np) : hz_finS m1 ∧ hz_sOut L g w m q (fX4_endStatement w1) (hz_fin m1) := by
  obtain ⟨e1, e2, e3⟩ := hz_endE t hE
  have ke := hz_ckE w1
  refine ⟨e1, hz_fcWT h1 (hz_fcWD (hz_fcK ke)), hz_fmWT h2 (hz_fmWD (hz_fmF e2)), hz_flgD hF (hz_fcK ke) (hz_fmF e2), ?_⟩
  rcases e3 with e3 | ⟨s1, q1, k1, a1, a2⟩
  · exact Or.inl e3
  · right
    refine ⟨s1, q1, k1, ny, ns, nz, np, a1, a2, ?_⟩
    have hw : w1.1 1 = 0 := by
      by_cases c : w1.1 1 = 0
      · exact c
      · exact absurd ((ke.2 c).1.symm.trans a2.1) c
    rw [ke.1.2, e2.2]
    exact hP hw
theorem hz_stSteam (h : hz_tx L g w m) (ho : hz_prs L g w m s q k) (h1 : m.2.2 = 1) (hP : hz_PR (w.2.2.1 0) (m.2.1 1) ny ns nz np) (hF : hz_flg w m) : sX7_once m 1 ∧ sX7_number (fX7_once m 1) 0 100 ∧ (fX7_number (fX7_once m 1) 0 100).2.2.2 = (fX7_once m 1).2.2 ∧ hz_finS (hz_one1 m 1 0 100 2) ∧ hz_sOut L g w m q (fX4_readSteam w) (hz_fin (hz_one1 m 1 0 100 2)) := by
  obtain ⟨r4, e4⟩ : ∃ r, fX4_startStatement w (w.1 9) 3 = r := ⟨_, rfl⟩
  obtain ⟨r, er⟩ : ∃ r, fX4_readNumber (wS r4 9 1) 0 100 = r := ⟨_, rfl⟩
  obtain ⟨w1, ew⟩ : ∃ w1, wP r.2 0 (upS (r.2.2.2.1 0) 5 r.1) = w1 := ⟨_, rfl⟩
  obtain ⟨m1, em⟩ : ∃ m1, hz_one1 m 1 0 100 2 = m1 := ⟨_, rfl⟩
  have e4' : fX4_startStatement w (w.1 (8 + 1)) 3 = r4 := e4
  have er' : fX4_readNumber (wS r4 (8 + 1) 1) (nI 0) (nI 100) = r := er
  have em' : hz_one1 m (nI 1) (nI 0) (nI 100) 2 = m1 := em
  obtain ⟨u1, u2, u3, u4, u5, u6, u7, u8, u9, u10⟩ := hz_set1 h ho h1 hP hF (i := 1) (a := 0) (b := 100) (z := 2) (by omega) (by omega) (by omega) (by omega) (by omega) (by omega) (by omega) (by omega) e4' er' (w1 := w1) ew em'
  have ec : fX4_readSteam w = fX4_endStatement w1 := by
    subst ew; subst er; subst e4
    unfold fX4_readSteam
    simp only [hz_bid]
    simp only [hz_bnd]
  obtain ⟨v1, v2⟩ := hz_sEnd u6 u4 u5 u8 u9 u10
  rw [em, ec]
  exact ⟨u1, u2, u3, v1, v2⟩
theorem hz_stBox (h : hz_tx L g w m) (ho : hz_prs L g w m s q k) (h1 : m.2.2 = 1) (hP : hz_PR (w.2.2.1 0) (m.2.1 1) ny ns nz np) (hF : hz_flg w m) : sX7_once m 2 ∧ sX7_number (fX7_once m 2) 1 6 ∧ (fX7_number (fX7_once m 2) 1 6).2.2.2 = (fX7_once m 2).2.2 ∧ hz_finS (hz_one1 m 2 1 6 3) ∧ hz_sOut L g w m q (fX4_readBox w) (hz_fin (hz_one1 m 2 1 6 3)) := by
  obtain ⟨r4, e4⟩ : ∃ r, fX4_startStatement w (w.1 10) 3 = r := ⟨_, rfl⟩
  obtain ⟨r, er⟩ : ∃ r, fX4_readNumber (wS r4 10 1) 1 6 = r := ⟨_, rfl⟩
  obtain ⟨w1, ew⟩ : ∃ w1, wP r.2 0 (upS (r.2.2.2.1 0) 6 r.1) = w1 := ⟨_, rfl⟩
  obtain ⟨m1, em⟩ : ∃ m1, hz_one1 m 2 1 6 3 = m1 := ⟨_, rfl⟩
  have e4' : fX4_startStatement w (w.1 (8 + 2)) 3 = r4 := e4
  have er' : fX4_readNumber (wS r4 (8 + 2) 1) (nI 1) (nI 6) = r := er
  have em' : hz_one1 m (nI 2) (nI 1) (nI 6) 3 = m1 := em
  obtain ⟨u1, u2, u3, u4, u5, u6, u7, u8, u9, u10⟩ := hz_set1 h ho h1 hP hF (i := 2) (a := 1) (b := 6) (z := 3) (by omega) (by omega) (by omega) (by omega) (by omega) (by omega) (by omega) (by omega) e4' er' (w1 := w1) ew em'
  have ec : fX4_readBox w = fX4_endStatement w1 := by
    subst ew; subst er; subst e4
    unfold fX4_readBox
    simp only [hz_bid]
    simp only [hz_bnd]
  obtain ⟨v1, v2⟩ := hz_sEnd u6 u4 u5 u8 u9 u10
  rw [em, ec]
  exact ⟨u1, u2, u3, v1, v2⟩
theorem hz_stTol (h : hz_tx L g w m) (ho : hz_prs L g w m s q k) (h1 : m.2.2 = 1) (hP : hz_PR (w.2.2.1 0) (m.2.1 1) ny ns nz np) (hF : hz_flg w m) : sX7_once m 0 ∧ sX7_number (fX7_once m 0) 0 500 ∧ (fX7_number (fX7_once m 0) 0 500).2.2.2 = (fX7_once m 0).2.2 ∧ sX7_number (hz_one1 m 0 0 500 0) 0 255 ∧ (fX7_number (hz_one1 m 0 0 500 0) 0 255).2.2.2 = (hz_one1 m 0 0 500 0).2.2 ∧ hz_finS (hz_tol m) ∧ hz_sOut L g w m q (fX4_readTolerance w) (hz_fin (hz_tol m)) := by
  obtain ⟨r4, e4⟩ : ∃ r, fX4_startStatement w (w.1 8) 3 = r := ⟨_, rfl⟩
  obtain ⟨r, er⟩ : ∃ r, fX4_readNumber (wS r4 8 1) 0 500 = r := ⟨_, rfl⟩
  obtain ⟨w1, ew⟩ : ∃ w1, wP r.2 0 (upS (r.2.2.2.1 0) 3 r.1) = w1 := ⟨_, rfl⟩
  obtain ⟨m1, em⟩ : ∃ m1, hz_one1 m 0 0 500 0 = m1 := ⟨_, rfl⟩
  have e4' : fX4_startStatement w (w.1 (8 + 0)) 3 = r4 := e4
  have er' : fX4_readNumber (wS r4 (8 + 0) 1) (nI 0) (nI 500) = r := er
  have em' : hz_one1 m (nI 0) (nI 0) (nI 500) 0 = m1 := em
  obtain ⟨u1, u2, u3, u4, u5, u6, u7, u8, u9, u10⟩ := hz_set1 h ho h1 hP hF (i := 0) (a := 0) (b := 500) (z := 0) (by omega) (by omega) (by omega) (by omega) (by omega) (by omega) (by omega) (by omega) e4' er' (w1 := w1) ew em'
  obtain ⟨r2, er2⟩ : ∃ r2, fX4_readNumber w1 0 255 = r2 := ⟨_, rfl⟩
  obtain ⟨w2, ew2⟩ : ∃ w2, wP r2.2 0 (upS (r2.2.2.2.1 0) 4 r2.1) = w2 := ⟨_, rfl⟩
  obtain ⟨R2, eR2⟩ : ∃ R2, fX7_number m1 0 255 = R2 := ⟨_, rfl⟩
  obtain ⟨m2, em2⟩ : ∃ m2, mA R2.2 1 (upd (R2.2.2.1 1) 1 R2.1) = m2 := ⟨_, rfl⟩
  obtain ⟨x1, x2, x3, x4, x5, x6⟩ := hz_setN u6 u9 u7 (a := 0) (b := 255) (z := 1) (by omega) (by omega) (by omega) (by omega) (by omega) (by omega) (by omega) u10 (r := r2) er2 (R := R2) eR2 (w1 := w2) ew2 (m1 := m2) em2
  have ec : fX4_readTolerance w = fX4_endStatement w2 := by
    subst ew2; subst er2; subst ew; subst er; subst e4
    unfold fX4_readTolerance
    simp only [hz_bid]
    simp only [hz_bnd]
  have et : hz_tol m = m2 := by
    unfold hz_tol
    rw [em, u7, eR2]
    exact em2
  obtain ⟨v1, v2⟩ := hz_sEnd (hz_txE u6 x3 x4) (hz_fcWT u4 (hz_fcWD x3)) (hz_fmWT u5 (hz_fmWD x4)) (hz_flgD u8 x3 x4) x5 x6
  rw [em, eR2, et, ec]
  exact ⟨u1, u2, u3, x1, x2.trans u7.symm, v1, v2⟩
end HZZ
