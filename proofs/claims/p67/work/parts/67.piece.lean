/-! The piece's statement, both sides in steps. -/
def hz_pA (M : Md) (y z : Int32) : Md := if fX7_good M = 0 then fX7_goOn M else if y = -1 then fX7_goOn (fX7_fail M z) else fX7_goOn M
def hz_pAS (M : Md) (y z : Int32) : Prop := (fX7_good M = 0 → sX7_goOn M) ∧ (¬ fX7_good M = 0 → (y = -1 → sX7_goOn (fX7_fail M z)) ∧ (¬ y = -1 → sX7_goOn M))
def hz_tm (M : Md) : Int32 × Md := if fX7_isText M mq31 = 0 then (1, M) else fX7_times (fX7_advance M)
def hz_tmS (M : Md) : Prop := sX7_isText M mq31 ∧ (¬ fX7_isText M mq31 = 0 → sX7_advance M ∧ sX7_times (fX7_advance M))
def hz_pC (y kd : Int32) (M : Md) : Md := (fX7_parsePiece_117 (hz_tm (fX7_number (fX7_number M 500 9999).2 0 255).2).1 (fX7_number (fX7_number M 500 9999).2 0 255).1 (fX7_number M 500 9999).1 kd y (fuU (hz_tm (fX7_number (fX7_number M 500 9999).2 0 255).2).1 0) 0 (hz_tm (fX7_number (fX7_number M 500 9999).2 0 255).2).2).2
theorem hz_pCx (y kd : Int32) (M : Md) : (if fX7_isText (fX7_number (fX7_number M 500 9999).2 0 255).2 mq31 = 0 then (fX7_parsePiece_117 1 (fX7_number (fX7_number M 500 9999).2 0 255).1 (fX7_number M 500 9999).1 kd y (fuU 1 0) 0 (fX7_number (fX7_number M 500 9999).2 0 255).2).2 else (fX7_parsePiece_117 (fX7_times (fX7_advance (fX7_number (fX7_number M 500 9999).2 0 255).2)).1 (fX7_number (fX7_number M 500 9999).2 0 255).1 (fX7_number M 500 9999).1 kd y (fuU (fX7_times (fX7_advance (fX7_number (fX7_number M 500 9999).2 0 255).2)).1 0) 0 (fX7_times (fX7_advance (fX7_number (fX7_number M 500 9999).2 0 255).2)).2).2) = hz_pC y kd M := by
  unfold hz_pC hz_tm
  generalize fX7_number M 500 9999 = r49
  generalize fX7_number r49.2 0 255 = r56
  by_cases c : fX7_isText r56.2 mq31 = 0
  · rw [if_pos c, if_pos c]
  · rw [if_neg c, if_neg c]
theorem hz_pP (m r5 : Md) (r12 : Int32 × Md) (y : Int32) (e5 : fX7_enter m 8 14 = r5) (e12 : fX7_nameHere r5 = r12) (ey : fX7_findIn r12.2 10 3 ((r5.2.1 (r5.2.2)) 5) r12.1 = y) : fX7_parsePiece m = hz_pC y (fX7_kindHere (hz_pA r12.2 y 4)) (hz_pA (hz_pA r12.2 y 4) (fX7_kindHere (hz_pA r12.2 y 4)) 1) := by
  unfold fX7_parsePiece
  simp only [hz_bnd, e5, e12, ey, hz_sl, hz_pCx]
  have key : ∀ r27 : Md, (if fX7_good r27 = 0 then hz_pC y (fX7_kindHere r27) (fX7_goOn r27) else if fX7_kindHere r27 = -1 then hz_pC y (fX7_kindHere r27) (fX7_goOn (fX7_fail r27 1)) else hz_pC y (fX7_kindHere r27) (fX7_goOn r27)) = hz_pC y (fX7_kindHere r27) (hz_pA r27 (fX7_kindHere r27) 1) := by
    intro r27
    unfold hz_pA
    by_cases c2 : fX7_good r27 = 0
    · rw [if_pos c2, if_pos c2]
    · rw [if_neg c2, if_neg c2]
      by_cases c3 : fX7_kindHere r27 = -1
      · rw [if_pos c3, if_pos c3]
      · rw [if_neg c3, if_neg c3]
  by_cases c1 : fX7_good r12.2 = 0
  · rw [if_pos c1, show hz_pA r12.2 y 4 = fX7_goOn r12.2 from if_pos c1]
    exact key _
  · rw [if_neg c1]
    by_cases c2 : y = -1
    · rw [if_pos c2, show hz_pA r12.2 y 4 = fX7_goOn (fX7_fail r12.2 4) from (if_neg c1).trans (if_pos c2)]
      exact key _
    · rw [if_neg c2, show hz_pA r12.2 y 4 = fX7_goOn r12.2 from (if_neg c1).trans (if_neg c2)]
      exact key _
def hz_pCS (y kd : Int32) (M : Md) : Prop := (sX7_someLength M 500 ∧ (sX7_number (fX7_number M 500 9999).2 0 255 ∧ (sX7_isText (fX7_number (fX7_number M 500 9999).2 0 255).2 mq31 ∧ ((fX7_isText (fX7_number (fX7_number M 500 9999).2 0 255).2 mq31 = 0 → (sX7_parsePiece_117 1 (fX7_number (fX7_number M 500 9999).2 0 255).1 (fX7_number M 500 9999).1 kd y (fuU 1 0) 0 (fX7_number (fX7_number M 500 9999).2 0 255).2 ∧ True)) ∧ (¬ fX7_isText (fX7_number (fX7_number M 500 9999).2 0 255).2 mq31 = 0 → (sX7_advance (fX7_number (fX7_number M 500 9999).2 0 255).2 ∧ (sX7_times (fX7_advance (fX7_number (fX7_number M 500 9999).2 0 255).2) ∧ (sX7_parsePiece_117 (fX7_times (fX7_advance (fX7_number (fX7_number M 500 9999).2 0 255).2)).1 (fX7_number (fX7_number M 500 9999).2 0 255).1 (fX7_number M 500 9999).1 kd y (fuU (fX7_times (fX7_advance (fX7_number (fX7_number M 500 9999).2 0 255).2)).1 0) 0 (fX7_times (fX7_advance (fX7_number (fX7_number M 500 9999).2 0 255).2)).2 ∧ True))))))))
theorem hz_pCSi (y kd : Int32) (M : Md) (r49 r56 r92 : Int32 × Md) (e49 : fX7_number M 500 9999 = r49) (e56 : fX7_number r49.2 0 255 = r56) (e92 : hz_tm r56.2 = r92) (s1 : sX7_number M 500 9999) (s2 : sX7_number r49.2 0 255) (s3 : hz_tmS r56.2) (s4 : sX7_parsePiece_117 r92.1 r56.1 r49.1 kd y (fuU r92.1 0) 0 r92.2) : hz_pCS y kd M := by
  unfold hz_pCS
  rw [e49, e56]
  unfold hz_tm at e92
  refine ⟨hz_slS s1, s2, s3.1, fun c => ?_, fun c => ?_⟩
  · rw [if_pos c] at e92
    rw [← e92] at s4
    exact ⟨s4, trivial⟩
  · rw [if_neg c] at e92
    obtain ⟨a1, a2⟩ := s3.2 c
    rw [e92]
    exact ⟨a1, a2, s4, trivial⟩
def hz_pBS (y : Int32) (r27 : Md) : Prop := (sX7_kindHere r27 ∧ ((fX7_good r27 = 0 → (sX7_goOn r27 ∧ hz_pCS y (fX7_kindHere r27) (fX7_goOn r27))) ∧ (¬ fX7_good r27 = 0 → ((fX7_kindHere r27 = -1 → (sX7_goOn (fX7_fail r27 1) ∧ hz_pCS y (fX7_kindHere r27) (fX7_goOn (fX7_fail r27 1)))) ∧ (¬ fX7_kindHere r27 = -1 → (sX7_goOn r27 ∧ hz_pCS y (fX7_kindHere r27) (fX7_goOn r27)))))))
theorem hz_pBSi {y : Int32} {r27 : Md} (sk : sX7_kindHere r27) (sB : hz_pAS r27 (fX7_kindHere r27) 1) (sC : hz_pCS y (fX7_kindHere r27) (hz_pA r27 (fX7_kindHere r27) 1)) : hz_pBS y r27 := by
  unfold hz_pA at sC
  refine ⟨sk, fun c => ⟨sB.1 c, ?_⟩, fun c => ⟨fun c2 => ⟨(sB.2 c).1 c2, ?_⟩, fun c2 => ⟨(sB.2 c).2 c2, ?_⟩⟩⟩
  · rw [if_pos c] at sC; exact sC
  · rw [if_neg c, if_pos c2] at sC; exact sC
  · rw [if_neg c, if_neg c2] at sC; exact sC
theorem hz_pPs (m r5 : Md) (r12 : Int32 × Md) (y : Int32) (e5 : fX7_enter m 8 14 = r5) (e12 : fX7_nameHere r5 = r12) (ey : fX7_findIn r12.2 10 3 ((r5.2.1 (r5.2.2)) 5) r12.1 = y) (s5 : sX7_enter m 8 14) (s12 : sX7_nameHere r5) (sy : sX7_findIn r12.2 10 3 ((r5.2.1 (r5.2.2)) 5) r12.1) (sA : hz_pAS r12.2 y 4) (sB : hz_pBS y (hz_pA r12.2 y 4)) : sX7_parsePiece m := by
  unfold sX7_parsePiece
  simp only [hz_bnd, e5, e12, ey, hz_sl]
  unfold hz_pA at sB
  refine ⟨s5, s12, sy, fun c => ⟨sA.1 c, ?_⟩, fun c => ⟨fun c2 => ⟨(sA.2 c).1 c2, ?_⟩, fun c2 => ⟨(sA.2 c).2 c2, ?_⟩⟩⟩
  · rw [if_pos c] at sB; exact sB
  · rw [if_neg c, if_pos c2] at sB; exact sB
  · rw [if_neg c, if_neg c2] at sB; exact sB
theorem hz_rP (w r5 r68 : Wd) (r14 r20 r26 r32 r62 : Int32 × Wd) (e5 : fX4_startStatement w (if ((w.2.2.1 0).1 8) < 14 then 0 else 1) 5 = r5) (e14 : fX4_takeKnownYarn_6 r5 (fX4_nameHere r5) = r14) (e20 : fX4_readKind r14.2 = r20) (e26 : fX4_readNumber r20.2 500 9999 = r26) (e32 : fX4_readNumber r26.2 0 255 = r32) (e62 : (if fX4_spells r32.2 sq10 = 0 then (1, r32.2) else fX4_readTimes r32.2) = r62) (e68 : fX4_endStatement r62.2 = r68) : fX4_readPiece_6 w = (fX4_readPiece_6_85 r62.1 r32.1 r26.1 r20.1 r14.1 (fuU r62.1 0) 0 r68).2 := by
  unfold fX4_readPiece_6
  have tail : (if fX4_spells r32.2 sq10 = 0 then (fX4_readPiece_6_85 1 r32.1 r26.1 r20.1 r14.1 (fuU 1 0) 0 (fX4_endStatement r32.2)).2 else (fX4_readPiece_6_85 (fX4_readTimes r32.2).1 r32.1 r26.1 r20.1 r14.1 (fuU (fX4_readTimes r32.2).1 0) 0 (fX4_endStatement (fX4_readTimes r32.2).2)).2) = (fX4_readPiece_6_85 r62.1 r32.1 r26.1 r20.1 r14.1 (fuU r62.1 0) 0 r68).2 := by
    by_cases c2 : fX4_spells r32.2 sq10 = 0
    · rw [if_pos c2] at e62 ⊢
      rw [← e62] at e68 ⊢
      rw [← e68]
    · rw [if_neg c2] at e62 ⊢
      rw [e62, e68]
  by_cases c : ((w.2.2.1 0).1 8) < 14
  · rw [if_pos c] at e5 ⊢
    simp only [hz_bnd, e5, e14, e20, e26, e32]
    exact tail
  · rw [if_neg c] at e5 ⊢
    simp only [hz_bnd, e5, e14, e20, e26, e32]
    exact tail
/-! Adding pieces. -/
def hz_p0 (w w1 : Wd) : Prop := w1.1 = w.1 ∧ w1.2.1 = w.2.1 ∧ (∀ k, ¬ k = 0 → w1.2.2.1 k = w.2.2.1 k) ∧ w1.2.2.2 = w.2.2.2
def hz_q1 (m m1 : Md) : Prop := m1.1 = m.1 ∧ (∀ k, ¬ k = 1 → m1.2.1 k = m.2.1 k) ∧ m1.2.2 = m.2.2
theorem hz_q1F {m m1 : Md} (h : hz_q1 m m1) : hz_fmD m m1 := ⟨fun k _ _ _ _ _ _ => by rw [h.1], h.2.1, h.2.2⟩
theorem hz_p0F {w w1 : Wd} (h : hz_p0 w w1) : hz_fcD w w1 := ⟨fun k _ _ _ _ _ _ => by rw [h.1], h.2.1, h.2.2.1, h.2.2.2⟩
theorem hz_q1T {a b c : Md} (h : hz_q1 a b) (g : hz_q1 b c) : hz_q1 a c := ⟨g.1.trans h.1, fun k hk => (g.2.1 k hk).trans (h.2.1 k hk), g.2.2.trans h.2.2⟩
theorem hz_q1A (m : Md) (f : Nat → Int32) : hz_q1 m (mA m 1 f) := ⟨rfl, fun _ hk => if_neg hk, rfl⟩
theorem hl_p0 (t b a kd y : Int32) : ∀ (fu : Nat) (x : Int32) (w : Wd), hz_p0 w (fX4_readPiece_6_85 t b a kd y fu x w).2
  | 0, x, w => ⟨rfl, rfl, fun _ _ => rfl, rfl⟩
  | fu + 1, x, w => by
    have e : fX4_readPiece_6_85 t b a kd y (fu + 1) x w = (if t ≤ x then (x, w) else (if (w.1 1) = 0 then (fX4_readPiece_6_85 t b a kd y fu (x + 1) (wP w 0 (fX5_addPiece (w.2.2.1 0) y kd a b))) else (x, w))) := rfl
    rw [e]
    by_cases c1 : t ≤ x
    · rw [if_pos c1]; exact ⟨rfl, rfl, fun _ _ => rfl, rfl⟩
    · rw [if_neg c1]
      by_cases c2 : w.1 1 = 0
      · rw [if_pos c2]
        obtain ⟨i1, i2, i3, i4⟩ := hl_p0 t b a kd y fu (x + 1) (wP w 0 (fX5_addPiece (w.2.2.1 0) y kd a b))
        exact ⟨i1, i2, fun k hk => (i3 k hk).trans (if_neg hk), i4⟩
      · rw [if_neg c2]; exact ⟨rfl, rfl, fun _ _ => rfl, rfl⟩
theorem hz_p85 (t b a kd y : Int32) (fu : Nat) (x : Int32) {w : Wd} (h : ¬ w.1 1 = 0) : (fX4_readPiece_6_85 t b a kd y (fu + 1) x w).2 = w := by
  have e : fX4_readPiece_6_85 t b a kd y (fu + 1) x w = (if t ≤ x then (x, w) else (if (w.1 1) = 0 then (fX4_readPiece_6_85 t b a kd y fu (x + 1) (wP w 0 (fX5_addPiece (w.2.2.1 0) y kd a b))) else (x, w))) := rfl
  rw [e, if_neg h]
  by_cases c1 : t ≤ x
  · rw [if_pos c1]
  · rw [if_neg c1]
theorem hz_p117 (t b a kd y : Int32) (fu : Nat) (x : Int32) {M : Md} (h : fX7_good M = 0) : sX7_parsePiece_117 t b a kd y (fu + 1) x M ∧ (fX7_parsePiece_117 t b a kd y (fu + 1) x M).2 = M := by
  have e : fX7_parsePiece_117 t b a kd y (fu + 1) x M = (if t ≤ x then (x, M) else (if (fX7_good M) = 0 then (x, M) else (fX7_parsePiece_117 t b a kd y fu (x + 1) (fX7_add M y kd a b)))) := rfl
  have e2 : sX7_parsePiece_117 t b a kd y (fu + 1) x M = ((t ≤ x → True) ∧ (¬ t ≤ x → (((fX7_good M) = 0 → True) ∧ (¬ (fX7_good M) = 0 → ((sX7_add M y kd a b) ∧ (sX7_parsePiece_117 t b a kd y fu (x + 1) (fX7_add M y kd a b))))))) := rfl
  rw [e, e2, if_pos h]
  refine ⟨⟨fun _ => trivial, fun _ => ⟨fun _ => trivial, fun g => absurd h g⟩⟩, ?_⟩
  by_cases c1 : t ≤ x
  · rw [if_pos c1]
  · rw [if_neg c1]
theorem hz_addX (M : Md) (z1 z2 z3 z4 : Int32) (h1 : M.2.2 = 1) {np : Nat} (hn : np < 14) (h8 : M.2.1 1 8 = nI np) : sX7_add M z1 z2 z3 z4 ∧ fX7_add M z1 z2 z3 z4 = mA M 1 (upd (upd (upd (upd (upd (upd (upd (M.2.1 1) (62 + 6 * np) z1) (63 + 6 * np) z2) (64 + 6 * np) z3) (65 + 6 * np) z3) (66 + 6 * np) z4) (67 + 6 * np) 0) 8 (nI (np + 1))) := by
  have ea : ∀ c : Nat, fX7_at (nI np) (nI c) = nI (62 + 6 * np + c) := fun c => hz_ia3 62 6 c np
  have a0 : fX7_at (nI np) 0 = nI (62 + 6 * np + 0) := ea 0
  have a1 : fX7_at (nI np) 1 = nI (62 + 6 * np + 1) := ea 1
  have a2 : fX7_at (nI np) 2 = nI (62 + 6 * np + 2) := ea 2
  have a3 : fX7_at (nI np) 3 = nI (62 + 6 * np + 3) := ea 3
  have a4 : fX7_at (nI np) 4 = nI (62 + 6 * np + 4) := ea 4
  have a5 : fX7_at (nI np) 5 = nI (62 + 6 * np + 5) := ea 5
  have hv : ∀ c, c < 6 → vp_in (nI (62 + 6 * np + c)) 146 := fun c hc => vp_in_nI (by omega) (by omega)
  unfold sX7_add fX7_add
  simp only [hz_bid]
  simp only [hz_bnd]
  rw [h1, h8, a0, a1, a2, a3, a4, a5]
  refine ⟨⟨hv 0 (by omega), hv 1 (by omega), hv 2 (by omega), hv 3 (by omega), hv 4 (by omega), hv 5 (by omega), trivial⟩, ?_⟩
  rw [nI_clamp (by omega), nI_clamp (by omega), nI_clamp (by omega), nI_clamp (by omega), nI_clamp (by omega), nI_clamp (by omega)]
  have hm : ∀ (X : Md) (f f2 : Nat → Int32), X.2.2 = 1 → (mA X 1 f).2.2 = 1 := fun X f f2 h => h
  have hA : ∀ (X : Md) (f : Nat → Int32), (mA X 1 f).2.1 1 = f := fun X f => rfl
  have hB : ∀ (X : Md) (f : Nat → Int32), (mA X 1 f).2.2 = X.2.2 := fun X f => rfl
  have hC : ∀ (X : Md) (f f2 : Nat → Int32), mA (mA X 1 f) 1 f2 = mA X 1 f2 := fun X f f2 => by
    unfold mA
    refine Prod.ext rfl (Prod.ext ?_ rfl)
    funext q
    by_cases c : q = 1
    · show (if q = 1 then _ else _) = (if q = 1 then _ else _)
      rw [if_pos c, if_pos c]
    · show (if q = 1 then _ else (if q = 1 then _ else _)) = (if q = 1 then _ else _)
      rw [if_neg c, if_neg c, if_neg c]
  simp only [hB, h1, hA, hC]
  rw [pk_un (show ¬ 8 = 62 + 6 * np + 5 by omega), pk_un (show ¬ 8 = 62 + 6 * np + 4 by omega), pk_un (show ¬ 8 = 62 + 6 * np + 3 by omega), pk_un (show ¬ 8 = 62 + 6 * np + 2 by omega), pk_un (show ¬ 8 = 62 + 6 * np + 1 by omega), pk_un (show ¬ 8 = 62 + 6 * np + 0 by omega), h8, ← nI_succ, show 62 + 6 * np + 0 = 62 + 6 * np by omega, show 62 + 6 * np + 1 = 63 + 6 * np by omega, show 62 + 6 * np + 2 = 64 + 6 * np by omega, show 62 + 6 * np + 3 = 65 + 6 * np by omega, show 62 + 6 * np + 4 = 66 + 6 * np by omega, show 62 + 6 * np + 5 = 67 + 6 * np by omega]
theorem hz_adds {ny ns nz y kd T : Nat} {a b : Int32} (hy : y < ny) (hk : kd < 3) (ha : hz_rg 500 9999 a) (hb : hz_rg 0 255 b) (hT : T < 1000) : ∀ (n i fu fv np : Nat) (w : Wd) (M : Md), i + n = T → n < fu → n < fv → w.1 1 = 0 → M.1 9 = 0 → M.2.2 = 1 → np + n ≤ 14 → hz_PR (w.2.2.1 0) (M.2.1 1) ny ns nz np → sX7_parsePiece_117 (nI T) b a (nI kd) (nI y) fv (nI i) M ∧ hz_q1 M (fX7_parsePiece_117 (nI T) b a (nI kd) (nI y) fv (nI i) M).2 ∧ hz_PR ((fX4_readPiece_6_85 (nI T) b a (nI kd) (nI y) fu (nI i) w).2.2.2.1 0) ((fX7_parsePiece_117 (nI T) b a (nI kd) (nI y) fv (nI i) M).2.2.1 1) ny ns nz (np + n) := by
  intro n
  induction n with
  | zero =>
    intro i fu fv np w M hi hf hg hw hM h1 hn hP
    obtain ⟨fu, rfl⟩ : ∃ k, fu = k + 1 := ⟨fu - 1, by omega⟩
    obtain ⟨fv, rfl⟩ : ∃ k, fv = k + 1 := ⟨fv - 1, by omega⟩
    have c : nI T ≤ nI i := by rw [hz_le, nI_toInt (by omega), nI_toInt (by omega)]; omega
    have e1 : fX4_readPiece_6_85 (nI T) b a (nI kd) (nI y) (fu + 1) (nI i) w = (nI i, w) := if_pos c
    have e2 : fX7_parsePiece_117 (nI T) b a (nI kd) (nI y) (fv + 1) (nI i) M = (nI i, M) := if_pos c
    rw [e1, e2]
    exact ⟨⟨fun _ => trivial, fun h => absurd c h⟩, ⟨rfl, fun _ _ => rfl, rfl⟩, hP⟩
  | succ n ih =>
    intro i fu fv np w M hi hf hg hw hM h1 hn hP
    obtain ⟨fu, rfl⟩ : ∃ k, fu = k + 1 := ⟨fu - 1, by omega⟩
    obtain ⟨fv, rfl⟩ : ∃ k, fv = k + 1 := ⟨fv - 1, by omega⟩
    have c : ¬ nI T ≤ nI i := by rw [hz_le, nI_toInt (by omega), nI_toInt (by omega)]; omega
    have hgd : ¬ fX7_good M = 0 := by rw [hz_gG hM]; decide
    have e1 : fX4_readPiece_6_85 (nI T) b a (nI kd) (nI y) (fu + 1) (nI i) w = (if nI T ≤ nI i then (nI i, w) else (if (w.1 1) = 0 then (fX4_readPiece_6_85 (nI T) b a (nI kd) (nI y) fu (nI i + 1) (wP w 0 (fX5_addPiece (w.2.2.1 0) (nI y) (nI kd) a b))) else (nI i, w))) := rfl
    have e2 : fX7_parsePiece_117 (nI T) b a (nI kd) (nI y) (fv + 1) (nI i) M = (if nI T ≤ nI i then (nI i, M) else (if (fX7_good M) = 0 then (nI i, M) else (fX7_parsePiece_117 (nI T) b a (nI kd) (nI y) fv (nI i + 1) (fX7_add M (nI y) (nI kd) a b)))) := rfl
    have e3 : sX7_parsePiece_117 (nI T) b a (nI kd) (nI y) (fv + 1) (nI i) M = ((nI T ≤ nI i → True) ∧ (¬ nI T ≤ nI i → (((fX7_good M) = 0 → True) ∧ (¬ (fX7_good M) = 0 → ((sX7_add M (nI y) (nI kd) a b) ∧ (sX7_parsePiece_117 (nI T) b a (nI kd) (nI y) fv (nI i + 1) (fX7_add M (nI y) (nI kd) a b))))))) := rfl
    have h8 : M.2.1 1 8 = nI np := hP.2.2.1.2.2.2
    obtain ⟨s1, s2⟩ := hz_addX M (nI y) (nI kd) a b h1 (by omega : np < 14) h8
    rw [if_neg c, if_pos hw, ← nI_succ] at e1
    rw [if_neg c, if_neg hgd, s2, ← nI_succ] at e2
    rw [s2, ← nI_succ] at e3
    have hp8 : (w.2.2.1 0).1 8 = nI np := hP.1.2.2.2
    have hlt : (w.2.2.1 0).1 8 < 14 := by
      rw [hp8]
      show nI np < nI 14
      rw [nI_ltI (by omega) (by omega)]; omega
    have hP1 : hz_PR (fX5_addPiece (w.2.2.1 0) (nI y) (nI kd) a b) (upd (upd (upd (upd (upd (upd (upd (M.2.1 1) (62 + 6 * np) (nI y)) (63 + 6 * np) (nI kd)) (64 + 6 * np) a) (65 + 6 * np) a) (66 + 6 * np) b) (67 + 6 * np) 0) 8 (nI (np + 1))) ny ns nz (np + 1) := by
      unfold fX5_addPiece
      rw [if_pos hlt]
      simp only [hz_bnd]
      generalize w.2.2.1 0 = p at *
      refine hz_addP hP (by omega) hy hk ha hb ?_ (fun j hj => ?_) ?_ ?_ ?_ ?_ ?_ ?_ (fun r hr => ?_) ?_ ?_ ?_ ?_ ?_ ?_ ?_ (fun j h5 h6 => ?_)
      · show p.1 8 + 1 = _
        rw [hp8, ← nI_succ]
      · exact if_neg hj
      · show fX6_put 14 (p.2 8) (p.1 8) (nI y) = _
        rw [hp8, hz_put _ _ (by omega) (by decide)]
      · show fX6_put 14 (p.2 9) (p.1 8) (nI kd) = _
        rw [hp8, hz_put _ _ (by omega) (by decide)]
      · show fX6_put 14 (p.2 10) (p.1 8) a = _
        rw [hp8, hz_put _ _ (by omega) (by decide)]
      · show fX6_put 14 (p.2 11) (p.1 8) a = _
        rw [hp8, hz_put _ _ (by omega) (by decide)]
      · show fX6_put 14 (p.2 12) (p.1 8) b = _
        rw [hp8, hz_put _ _ (by omega) (by decide)]
      · show fX6_put 14 (p.2 13) (p.1 8) 0 = _
        rw [hp8, hz_put _ _ (by omega) (by decide)]
      · show (if r = 13 then _ else (if r = 12 then _ else (if r = 11 then _ else (if r = 10 then _ else (if r = 9 then _ else (if r = 8 then _ else p.2 r)))))) = _
        rw [if_neg (by omega), if_neg (by omega), if_neg (by omega), if_neg (by omega), if_neg (by omega), if_neg (by omega)]
      · rw [pk_us]
      · rw [pk_un (by omega), pk_un (by omega), pk_un (by omega), pk_un (by omega), pk_un (by omega), pk_un (by omega), pk_us]
      · rw [pk_un (by omega), pk_un (by omega), pk_un (by omega), pk_un (by omega), pk_un (by omega), pk_us]
      · rw [pk_un (by omega), pk_un (by omega), pk_un (by omega), pk_un (by omega), pk_us]
      · rw [pk_un (by omega), pk_un (by omega), pk_un (by omega), pk_us]
      · rw [pk_un (by omega), pk_un (by omega), pk_us]
      · rw [pk_un (by omega), pk_us]
      · rw [pk_un h5, pk_un (by omega), pk_un (by omega), pk_un (by omega), pk_un (by omega), pk_un (by omega), pk_un (by omega)]
    obtain ⟨i1, i2, i3⟩ := ih (i + 1) fu fv (np + 1) (wP w 0 (fX5_addPiece (w.2.2.1 0) (nI y) (nI kd) a b)) (mA M 1 (upd (upd (upd (upd (upd (upd (upd (M.2.1 1) (62 + 6 * np) (nI y)) (63 + 6 * np) (nI kd)) (64 + 6 * np) a) (65 + 6 * np) a) (66 + 6 * np) b) (67 + 6 * np) 0) 8 (nI (np + 1)))) (by omega) (by omega) (by omega) hw hM h1 (by omega) hP1
    rw [e1, e2, e3]
    refine ⟨⟨fun _ => trivial, fun _ => ⟨fun _ => trivial, fun _ => ⟨s1, i1⟩⟩⟩, hz_q1T (hz_q1A M _) i2, ?_⟩
    rw [show np + (n + 1) = np + 1 + n by omega]
    exact i3
