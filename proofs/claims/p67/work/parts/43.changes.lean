/-! The calls that change the plant. -/
theorem hz_wPP (w : Wd) (k : Nat) (a b : Pl) : wP (wP w k a) k b = wP w k b := by
  have e : (fun q => if q = k then b else (if q = k then a else w.2.2.1 q)) = (fun q => if q = k then b else w.2.2.1 q) := by
    funext q
    by_cases h : q = k
    · rw [if_pos h, if_pos h]
    · rw [if_neg h, if_neg h, if_neg h]
  show (w.1, w.2.1, (fun q => if q = k then b else (if q = k then a else w.2.2.1 q)), w.2.2.2) = (w.1, w.2.1, (fun q => if q = k then b else w.2.2.1 q), w.2.2.2)
  rw [e]
theorem hz_wP0 (w : Wd) (k : Nat) : wP w k (w.2.2.1 k) = w := by
  have e : (fun q => if q = k then w.2.2.1 k else w.2.2.1 q) = w.2.2.1 := by
    funext q
    by_cases h : q = k
    · rw [if_pos h, h]
    · rw [if_neg h]
  show (w.1, w.2.1, (fun q => if q = k then w.2.2.1 k else w.2.2.1 q), w.2.2.2) = w
  rw [e]
theorem hz_ch00 {m : Md} (h : m.2.2 = 0) (f : Nat → Int32) : hz_ch m (mA m 0 f) := by
  have := hz_chA m f
  rw [h] at this
  exact this
section HZU
variable {w : Wd} {m : Md} {ny ns nz np : Nat}
theorem hz_pre {n : Nat} (hR : hz_R n w m) : ∃ ny ns nz np, hz_RP w m ny ns nz np ∧ sX7_remember m ∧ (fX6_beforeChange w).2.2.1 1 = w.2.2.1 1 ∧ hz_RP w (fX7_remember m) ny ns nz np := by
  obtain ⟨ny, ns, nz, np, r, h, -, -, hH, -⟩ := hR
  obtain ⟨s, ⟨g1, g2, g3⟩, ⟨b1, b2, b3, b4, b5⟩, -⟩ := hz_rmb h.2 hH
  exact ⟨ny, ns, nz, np, h, s, b4 1 (by decide), g2.trans h.1, by rw [g3 0 (by decide)]; exact h.2⟩
theorem hp_day {n : Nat} (hR : hz_R n w m) : sX7_day m ∧ (fX6_day w).1 = (fX7_day m).1 ∧ hz_R (n + 1) (fX6_day w).2 (fX7_day m).2 := by
  obtain ⟨ny, ns, nz, np, h, s, hb, h1⟩ := hz_pre hR
  obtain ⟨d1, d2, d3, d4⟩ := hz_day (hz_rp h1)
  unfold sX7_day fX6_day fX7_day
  simp only [bnd]
  rw [hb]
  rw [h1.1] at d3
  exact ⟨⟨s, d1, trivial⟩, d2.symm, hz_Rup (hz_chg hR rfl d4 d3) (by omega)⟩
theorem hp_setSteam {n : Nat} (hR : hz_R n w m) (z : Int32) : sX7_setSteam m z ∧ (fX6_setSteam w z).1 = (fX7_setSteam m z).1 ∧ hz_R (n + 1) (fX6_setSteam w z).2 (fX7_setSteam m z).2 := by
  obtain ⟨ny, ns, nz, np, h, s, hb, h1⟩ := hz_pre hR
  have e0 : fX7_in z.toInt64 0 100 = fX6_isBetween z 0 100 := hz_in z 0 100
  have e1 : (m.2.1 0) 2 = (w.2.2.1 1).1 5 := h.2.2.2.2.1.2.2.1
  unfold sX7_setSteam fX6_setSteam fX7_setSteam
  simp only [bnd]
  rw [e0, e1, hb]
  by_cases c : fX6_isBetween z 0 100 = 0
  · rw [if_pos c, if_pos c]
    exact ⟨⟨fun _ => trivial, fun h => absurd c h⟩, rfl, hz_Rup hR (by omega)⟩
  · rw [if_neg c, if_neg c]
    refine ⟨⟨fun h => absurd h c, fun _ => ⟨fun _ => trivial, fun _ => ⟨s, trivial⟩⟩⟩, ?_⟩
    by_cases c2 : (w.2.2.1 1).1 5 = z
    · rw [if_pos c2, if_pos c2]
      refine ⟨rfl, hz_Rup (hz_same hR (hz_ch00 h.1 _) (fun j => ?_)) (by omega)⟩
      rw [hz_mAs]
      by_cases hj : j = 2
      · rw [hj, pk_us, e1]; exact c2.symm
      · rw [pk_un hj]
    · rw [if_neg c2, if_neg c2]
      refine ⟨rfl, hz_Rup (hz_chg hR rfl (hz_ch00 h1.1 _) (ny1 := ny) (ns1 := ns) (nz1 := nz) (np1 := np) ?_) (by omega)⟩
      rw [hz_mAs]
      obtain ⟨b1, b2⟩ := hz_btw1 c
      have hP := h1.2
      refine hz_uset hP (fun k hk hn => if_neg (by omega)) rfl (fun j hj => pk_un (by omega)) ⟨?_, ?_, ?_, ?_, ?_⟩ ⟨hP.2.2.2.2.1.1, hP.2.2.2.2.1.2.1, ⟨b1, b2⟩, hP.2.2.2.2.1.2.2.2⟩
      · rw [pk_un (by decide)]; exact hP.2.2.2.1.1
      · rw [pk_un (by decide)]; exact hP.2.2.2.1.2.1
      · rw [pk_us]; rfl
      · rw [pk_un (by decide)]; exact hP.2.2.2.1.2.2.2.1
      · rw [pk_un (by decide)]; exact hP.2.2.2.1.2.2.2.2
theorem hz_tolP {p : Pl} {f : Nat → Int32} (hP : hz_PR p f ny ns nz np) {a b : Int32} (ha : hz_rg 0 500 a) (hb : hz_rg 0 255 b) : hz_PR (upS (upS p 3 a) 4 b) (upd (upd f 0 a) 1 b) ny ns nz np := by
  refine hz_uset hP (fun k hk hn => ?_) rfl (fun j hj => ?_) ⟨?_, ?_, ?_, ?_, ?_⟩ ⟨ha, hb, hP.2.2.2.2.1.2.2.1, hP.2.2.2.2.1.2.2.2⟩
  · show (if k = 4 then b else if k = 3 then a else p.1 k) = _
    rw [if_neg (by omega), if_neg (by omega)]
  · rw [pk_un (by omega), pk_un (by omega)]
  · rw [pk_un (by decide), pk_us]; rfl
  · rw [pk_us]; rfl
  · rw [pk_un (by decide), pk_un (by decide)]; exact hP.2.2.2.1.2.2.1
  · rw [pk_un (by decide), pk_un (by decide)]; exact hP.2.2.2.1.2.2.2.1
  · rw [pk_un (by decide), pk_un (by decide)]; exact hP.2.2.2.1.2.2.2.2
theorem hz_tolB (a b : Int32) : (fX6_areTolerances a b = 0 ↔ (fX6_isBetween a 0 500 = 0 ∨ fX6_isBetween b 0 255 = 0)) := by
  unfold fX6_areTolerances
  by_cases c1 : fX6_isBetween a 0 500 = 0
  · rw [if_pos c1]; exact ⟨fun _ => Or.inl c1, fun _ => rfl⟩
  · rw [if_neg c1]
    by_cases c2 : fX6_isBetween b 0 255 = 0
    · rw [if_pos c2]; exact ⟨fun _ => Or.inr c2, fun _ => rfl⟩
    · rw [if_neg c2]; exact ⟨fun h => absurd h (by decide), fun h => h.elim (fun h => absurd h c1) (fun h => absurd h c2)⟩
theorem hp_setTolerance {n : Nat} (hR : hz_R n w m) (a b : Int32) : sX7_setTolerance m a b ∧ (fX6_setTolerance w a b).1 = (fX7_setTolerance m a b).1 ∧ hz_R (n + 1) (fX6_setTolerance w a b).2 (fX7_setTolerance m a b).2 := by
  obtain ⟨ny, ns, nz, np, h, s, hb, h1⟩ := hz_pre hR
  have e0 : fX7_in a.toInt64 0 500 = fX6_isBetween a 0 500 := hz_in a 0 500
  have e00 : fX7_in b.toInt64 0 255 = fX6_isBetween b 0 255 := hz_in b 0 255
  have e1 : (m.2.1 0) 0 = (w.2.2.1 1).1 3 := h.2.2.2.2.1.1
  have e2 : (m.2.1 0) 1 = (w.2.2.1 1).1 4 := h.2.2.2.2.1.2.1
  have tb := hz_tolB a b
  unfold sX7_setTolerance fX6_setTolerance fX7_setTolerance
  simp only [bnd]
  rw [e0, e00, e1, e2, hb, hz_wPP]
  have safe : (fX6_isBetween a 0 500 = 0 → True) ∧ (¬fX6_isBetween a 0 500 = 0 → (fX6_isBetween b 0 255 = 0 → True) ∧ (¬fX6_isBetween b 0 255 = 0 → ((w.2.2.1 1).1 3 = a → ((w.2.2.1 1).1 4 = b → True) ∧ (¬(w.2.2.1 1).1 4 = b → sX7_remember m ∧ True)) ∧ (¬(w.2.2.1 1).1 3 = a → sX7_remember m ∧ True))) := ⟨fun _ => trivial, fun _ => ⟨fun _ => trivial, fun _ => ⟨fun _ => ⟨fun _ => trivial, fun _ => ⟨s, trivial⟩⟩, fun _ => ⟨s, trivial⟩⟩⟩⟩
  refine ⟨safe, ?_⟩
  by_cases c1 : fX6_isBetween a 0 500 = 0
  · rw [if_pos c1, if_pos (tb.mpr (Or.inl c1))]
    exact ⟨rfl, hz_Rup hR (by omega)⟩
  · rw [if_neg c1]
    by_cases c2 : fX6_isBetween b 0 255 = 0
    · rw [if_pos c2, if_pos (tb.mpr (Or.inr c2))]
      exact ⟨rfl, hz_Rup hR (by omega)⟩
    · rw [if_neg c2, if_neg (fun e => (tb.mp e).elim c1 c2)]
      obtain ⟨x1, x2⟩ := hz_btw1 c1
      obtain ⟨y1, y2⟩ := hz_btw1 c2
      have ch : hz_R (n + 1) (wP (fX6_beforeChange w) 1 (upS (upS (w.2.2.1 1) 3 a) 4 b)) (mA (mA (fX7_remember m) 0 (upd ((fX7_remember m).2.1 0) 0 a)) 0 (upd ((mA (fX7_remember m) 0 (upd ((fX7_remember m).2.1 0) 0 a)).2.1 0) 1 b)) := by
        refine hz_Rup (hz_chg hR rfl (hz_chT (hz_ch00 h1.1 _) (hz_ch00 (m := mA (fX7_remember m) 0 _) h1.1 _)) (ny1 := ny) (ns1 := ns) (nz1 := nz) (np1 := np) ?_) (by omega)
        rw [hz_mAs, hz_mAs]
        exact hz_tolP h1.2 ⟨x1, x2⟩ ⟨y1, y2⟩
      by_cases c3 : (w.2.2.1 1).1 3 = a
      · rw [if_pos c3, if_pos c3]
        by_cases c4 : (w.2.2.1 1).1 4 = b
        · rw [if_pos c4, if_pos c4]
          refine ⟨rfl, hz_Rup (hz_same hR (hz_chT (hz_ch00 h.1 _) (hz_ch00 (m := mA m 0 _) h.1 _)) (fun j => ?_)) (by omega)⟩
          rw [hz_mAs, hz_mAs]
          by_cases hj : j = 1
          · rw [hj, pk_us, e2]; exact c4.symm
          · rw [pk_un hj]
            by_cases hj0 : j = 0
            · rw [hj0, pk_us, e1]; exact c3.symm
            · rw [pk_un hj0]
        · rw [if_neg c4, if_neg c4]
          exact ⟨rfl, ch⟩
      · rw [if_neg c3, if_neg c3]
        exact ⟨rfl, ch⟩
theorem hp_dye {n : Nat} (hR : hz_R n w m) (a b : Int32) : sX7_dye m a b ∧ (fX6_dye w a b).1 = (fX7_dye m a b).1 ∧ hz_R (n + 1) (fX6_dye w a b).2 (fX7_dye m a b).2 := by
  obtain ⟨ny, ns, nz, np, h, s, hb, h1⟩ := hz_pre hR
  have hn : np ≤ 14 := h.2.2.1.2.2.2
  have e0 : fX7_in b.toInt64 0 255 = fX6_isBetween b 0 255 := hz_in b 0 255
  obtain ⟨sz, e1, e2⟩ := hz_pz h a
  unfold sX7_dye fX6_dye fX7_dye
  simp only [bnd]
  rw [e0, e1, e2, hb]
  by_cases c1 : hz_is np a = 0
  · rw [if_pos c1, if_pos c1]
    exact ⟨⟨sz, fun _ => trivial, fun h => absurd c1 h⟩, rfl, hz_Rup hR (by omega)⟩
  · obtain ⟨i, hi, rfl⟩ := hz_is_of (by omega) c1
    rw [if_neg c1, if_neg c1]
    by_cases c2 : fX6_isBetween b 0 255 = 0
    · rw [if_pos c2, if_pos c2]
      exact ⟨⟨sz, fun h => absurd h c1, fun _ => ⟨fun _ => trivial, fun h => absurd c2 h⟩⟩, rfl, hz_Rup hR (by omega)⟩
    · rw [if_neg c2, if_neg c2]
      obtain ⟨x1, x2⟩ := hz_btw1 c2
      obtain ⟨i1, i2⟩ := hz_isIn (hz_rp h) hi 3
      obtain ⟨-, -, -, -, f4, -⟩ := hz_f (hz_rp h) hi
      have s4 := (hz_fs m (show i < 14 by omega)).2.2.2.2.1
      have g4 : fX7_at (nI i) 4 = nI (66 + 6 * i) := by rw [show 66 + 6 * i = 62 + 6 * i + 4 by omega]; exact hz_ia3 62 6 4 i
      have v4 : vp_in (fX7_at (nI i) 4) 146 := by rw [g4]; exact vp_in_nI (by omega) (by omega)
      rw [i1, f4]
      refine ⟨⟨sz, fun h => absurd h c1, fun _ => ⟨fun h => absurd h c2, fun _ => ⟨i2, fun _ => ⟨s4, fun _ => ⟨v4, trivial⟩, fun _ => ⟨s, v4, trivial⟩⟩, fun _ => trivial⟩⟩⟩, ?_⟩
      rw [g4, nI_clamp (by omega)]
      by_cases c3 : fX6_at 14 ((w.2.2.1 1).2 13) (nI i) = 3
      · rw [if_pos c3, if_pos c3, if_neg (by decide)]
        exact ⟨rfl, hz_Rup hR (by omega)⟩
      · rw [if_neg c3, if_neg c3, if_pos rfl]
        by_cases c4 : fX6_at 14 ((w.2.2.1 1).2 12) (nI i) = b
        · rw [if_pos c4, if_pos c4]
          refine ⟨rfl, hz_Rup (hz_same hR (hz_ch00 h.1 _) (fun j => ?_)) (by omega)⟩
          rw [hz_mAs]
          by_cases hj : j = 66 + 6 * i
          · rw [hj, pk_us, ← c4, hz_at _ (show i < 14 by omega) (by decide)]
            exact (h.2.2.2.2.2.2.2.2.2 i hi).1.2.2.2.2.1.symm
          · rw [pk_un hj]
        · rw [if_neg c4, if_neg c4]
          refine ⟨rfl, hz_Rup (hz_chg hR rfl (hz_ch00 h1.1 _) (ny1 := ny) (ns1 := ns) (nz1 := nz) (np1 := np) ?_) (by omega)⟩
          rw [hz_mAs]
          exact hz_u12 h1.2 hi ⟨x1, x2⟩
theorem hp_boardAll {n : Nat} (hR : hz_R n w m) (z : Int32) : sX7_boardAll m z ∧ (fX6_boardAll w z).1 = (fX7_boardAll m z).1 ∧ hz_R (n + 1) (fX6_boardAll w z).2 (fX7_boardAll m z).2 := by
  obtain ⟨ny, ns, nz, np, h, s, hb, h1⟩ := hz_pre hR
  have hns : ns ≤ 8 := h.2.2.1.2.1
  obtain ⟨sz, e1, e2⟩ := hz_shz h z
  obtain ⟨i1, i2⟩ := hq_inState h 0
  have i3 : fX6_inState w 0 = fX6_setWhere_36 w 0 := rfl
  unfold sX7_boardAll fX6_boardAll fX7_boardAll
  simp only [bnd]
  rw [e1, e2, hb, i2, i3]
  by_cases c1 : hz_is ns z = 0
  · rw [if_pos c1, if_pos c1]
    exact ⟨⟨sz, fun _ => trivial, fun h => absurd c1 h⟩, rfl, hz_Rup hR (by omega)⟩
  · obtain ⟨j, hj, rfl⟩ := hz_is_of (by omega) c1
    obtain ⟨d1, d2, d3, d4⟩ := hz_putA (hz_rp h1) hj
    rw [if_neg c1, if_neg c1]
    refine ⟨⟨sz, fun h => absurd h c1, fun _ => ⟨i1, fun _ => trivial, fun _ => ⟨s, d1, trivial⟩⟩⟩, ?_⟩
    by_cases c2 : fX6_setWhere_36 w 0 = 0
    · rw [if_pos c2, if_pos c2]
      exact ⟨rfl, hz_Rup hR (by omega)⟩
    · rw [if_neg c2, if_neg c2]
      rw [h1.1] at d3
      exact ⟨d2.symm, hz_Rup (hz_chg hR rfl d4 d3) (by omega)⟩
theorem hp_board {n : Nat} (hR : hz_R n w m) (a b : Int32) : sX7_board m a b ∧ (fX6_board w a b).1 = (fX7_board m a b).1 ∧ hz_R (n + 1) (fX6_board w a b).2 (fX7_board m a b).2 := by
  obtain ⟨ny, ns, nz, np, h, s, hb, h1⟩ := hz_pre hR
  have hn : np ≤ 14 := h.2.2.1.2.2.2
  have hns : ns ≤ 8 := h.2.2.1.2.1
  obtain ⟨sz, e1, e2⟩ := hz_pz h a
  obtain ⟨sz2, e3, e4⟩ := hz_shz h b
  unfold sX7_board fX6_board fX7_board
  simp only [bnd]
  rw [e1, e2, e3, e4, hb]
  by_cases c1 : hz_is np a = 0
  · rw [if_pos c1, if_pos c1]
    exact ⟨⟨sz, fun _ => trivial, fun h => absurd c1 h⟩, rfl, hz_Rup hR (by omega)⟩
  · obtain ⟨i, hi, rfl⟩ := hz_is_of (by omega) c1
    rw [if_neg c1, if_neg c1]
    by_cases c2 : hz_is ns b = 0
    · rw [if_pos c2, if_pos c2]
      exact ⟨⟨sz, fun h => absurd h c1, fun _ => ⟨sz2, fun _ => trivial, fun h => absurd c2 h⟩⟩, rfl, hz_Rup hR (by omega)⟩
    · obtain ⟨j, hj, rfl⟩ := hz_is_of (by omega) c2
      rw [if_neg c2, if_neg c2]
      obtain ⟨d1, d2, d3⟩ := hz_done (hz_rp h) hi
      obtain ⟨t1, t2⟩ := hz_tear (hz_rp h) hi hj
      obtain ⟨l1, l2, l3⟩ := hz_lon (hz_rp h) hi hj
      obtain ⟨o1, o2⟩ := hz_lenOn (hz_rp h) hi hj
      obtain ⟨r1, r2⟩ := hz_isIn (hz_rp h) hi 0
      obtain ⟨-, -, -, f3, -, f5⟩ := hz_f (hz_rp h) hi
      have s3 := (hz_fs m (show i < 14 by omega)).2.2.2.1
      have s5 : ∀ m : Md, sX7_field m (nI i) 5 := fun m => (hz_fs m (show i < 14 by omega)).2.2.2.2.2
      obtain ⟨p1, p2, p3, p4⟩ := hz_put1 (hz_rp h1) hi hj
      obtain ⟨q1, q2, q3, q4⟩ := hz_put1 (hz_rp h) hi hj
      -- after a change
      have ch : fX6_at 14 ((fX5_boardOn (w.2.2.1 1) (nI i) (nI j)).2.2 13) (nI i) = fX7_field (fX7_put (fX7_remember m) (nI i) (nI j)).2 (nI i) 5 ∧ hz_R (n + 1) (wP (fX6_beforeChange w) 1 (fX5_boardOn (w.2.2.1 1) (nI i) (nI j)).2) (fX7_put (fX7_remember m) (nI i) (nI j)).2 := by
        have p3' := p3
        rw [← p4.2.1] at p3'
        refine ⟨(hz_f p3' hi).2.2.2.2.2.symm, ?_⟩
        rw [h1.1] at p3
        exact hz_Rup (hz_chg hR rfl p4 p3) (by omega)
      refine ⟨⟨sz, fun h => absurd h c1, fun _ => ⟨sz2, fun h => absurd h c2, fun _ => ⟨d1, fun _ => ⟨r2, fun _ => ⟨t2, fun _ => ⟨l2, s3, fun _ => ⟨q1, s5 _, trivial⟩, fun _ => ⟨s, p1, s5 _, trivial⟩⟩, fun _ => ⟨s, p1, s5 _, trivial⟩⟩, fun _ => ⟨s, p1, s5 _, trivial⟩⟩, fun _ => trivial⟩⟩⟩, ?_⟩
      by_cases c3 : fX7_isDone m (nI i) = 0
      · rw [if_pos c3, if_neg (d2.mp c3)]
        rcases d3 c3 with st | st
        · have e6 : fX7_isIn m (nI i) 0 = 1 := by rw [r1, if_pos st]
          have e7 : fX5_isBoarded (w.2.2.1 1) (nI i) = 0 := by
            unfold fX5_isBoarded
            rw [st]; rfl
          rw [e6, if_pos e7, if_neg (by decide)]
          exact ch
        · have e6 : fX7_isIn m (nI i) 0 = 0 := by rw [r1, st]; rfl
          have e7 : fX5_isBoarded (w.2.2.1 1) (nI i) = 1 := by
            unfold fX5_isBoarded
            rw [st]; rfl
          rw [e6, if_pos rfl, e7, if_neg (by decide)]
          by_cases c4 : fX7_wouldTear m (nI i) (nI j) = 0
          · rw [if_pos c4] at o1
            rw [if_pos c4, o1, f3]
            by_cases c5 : fX7_lengthOn m (nI i) (nI j) = fX6_at 14 ((w.2.2.1 1).2 11) (nI i)
            · rw [if_pos c5, if_pos c5]
              have eput : fX7_put m (nI i) (nI j) = (1, mA (mA m m.2.2 (upd (m.2.1 m.2.2) (65 + 6 * i) (fX7_lengthOn m (nI i) (nI j)))) m.2.2 (upd ((mA m m.2.2 (upd (m.2.1 m.2.2) (65 + 6 * i) (fX7_lengthOn m (nI i) (nI j)))).2.1 m.2.2) (67 + 6 * i) 1)) := by
                have g3 : fX7_at (nI i) 3 = nI (65 + 6 * i) := by rw [show 65 + 6 * i = 62 + 6 * i + 3 by omega]; exact hz_ia3 62 6 3 i
                have g5 : fX7_at (nI i) 5 = nI (67 + 6 * i) := by rw [show 67 + 6 * i = 62 + 6 * i + 5 by omega]; exact hz_ia3 62 6 5 i
                unfold fX7_put
                rw [if_pos c4, g3, g5, nI_clamp (by omega), nI_clamp (by omega)]
                rfl
              have hsame : hz_R n w (fX7_put m (nI i) (nI j)).2 := by
                refine hz_same hR q4 (fun t => ?_)
                rw [eput, c5, h.1]
                show (mA (mA m 0 _) 0 _).2.1 0 t = _
                rw [hz_mAs, hz_mAs]
                obtain ⟨⟨-, -, -, z3, -, z5⟩, -⟩ := h.2.2.2.2.2.2.2.2.2 i hi
                by_cases ht : t = 67 + 6 * i
                · rw [ht, pk_us, z5]
                  rw [hz_at _ (show i < 14 by omega) (by decide)] at st
                  exact st.symm
                · rw [pk_un ht]
                  by_cases ht2 : t = 65 + 6 * i
                  · rw [ht2, pk_us, z3, hz_at _ (show i < 14 by omega) (by decide)]
                  · rw [pk_un ht2]
              refine ⟨?_, hz_Rup hsame (by omega)⟩
              have q3' := q3
              rw [← q4.2.1] at q3'
              have e9 := (hz_f q3' hi).2.2.2.2.2
              have e8 : (fX5_boardOn (w.2.2.1 1) (nI i) (nI j)).2.2 13 = fX6_put 14 ((w.2.2.1 1).2 13) (nI i) 1 := by
                unfold fX5_boardOn
                rw [if_neg (fun e => o2.mp e c4)]
                exact hz_upRs
              show fX6_at 14 ((w.2.2.1 1).2 13) (nI i) = fX7_field (fX7_put m (nI i) (nI j)).2 (nI i) 5
              rw [e9, e8, hz_put _ _ (show i < 14 by omega) (by decide), hz_at (upd ((w.2.2.1 1).2 13) i 1) (show i < 14 by omega) (by decide), pk_us, st]
            · rw [if_neg c5, if_neg c5]
              exact ch
          · have e8 : fX5_lengthOn (w.2.2.1 1) (nI i) (nI j) = -1 := o2.mpr c4
            have e9 : ¬ (-1 : Int32) = fX6_at 14 ((w.2.2.1 1).2 11) (nI i) := fun e => by
              have := (hz_len (hz_rp h) hi).2.1
              rw [← e] at this
              exact absurd this.1 (by decide)
            rw [if_neg c4, e8, if_neg e9]
            exact ch
      · have c4 : fX5_canBeBoarded (w.2.2.1 1) (nI i) = 0 := Classical.byContradiction fun h => c3 (d2.mpr h)
        rw [if_neg c3, if_pos c4]
        exact ⟨rfl, hz_Rup hR (by omega)⟩
theorem hl_pack {X : Int32} (hX : ∀ j, j < 32 → bt X j = true → j < np) : ∀ (fu i : Nat) (y : Wd) (m : Md), i ≤ np → hz_RP y m ny ns nz np → sX7_pack_20 X fu (nI i) m ∧ hz_ch m (fX7_pack_20 X fu (nI i) m).2 ∧ ∃ p1, (fX6_pack_21 X fu (nI i) y).2 = wP y 1 p1 ∧ hz_PR p1 ((fX7_pack_20 X fu (nI i) m).2.2.1 0) ny ns nz np ∧ p1.1 = (y.2.2.1 1).1 := by
  intro fu
  induction fu with
  | zero => intro i y m hi h; exact ⟨trivial, hz_ch0 m, y.2.2.1 1, (hz_wP0 y 1).symm, h.2, rfl⟩
  | succ fu ih =>
    intro i y m hi h
    have hn : np ≤ 14 := h.2.2.1.2.2.2
    obtain ⟨c1, c2⟩ := hz_count (hz_rp h)
    simp only [fX7_pack_20, sX7_pack_20, fX6_pack_21, bnd, c1, c2]
    by_cases hh : nI np ≤ nI i
    · rw [if_pos hh, if_pos hh]
      exact ⟨⟨fun _ => trivial, fun h2 => absurd hh h2⟩, hz_ch0 m, y.2.2.1 1, (hz_wP0 y 1).symm, h.2, rfl⟩
    · have hi : i < np := hz_c hi (by omega) hh
      rw [if_neg hh, if_neg hh, ← nI_succ]
      have g5 : fX7_at (nI i) 5 = nI (67 + 6 * i) := by rw [show 67 + 6 * i = 62 + 6 * i + 5 by omega]; exact hz_ia3 62 6 5 i
      cases hb : bt X i
      · rw [hz_hbF (by omega) hb, hz_cnF (by omega) hb, if_pos rfl, if_pos rfl]
        obtain ⟨a1, a2, a3⟩ := ih (i + 1) y m hi h
        exact ⟨⟨fun h2 => absurd h2 hh, fun _ => ⟨fun _ => a1, fun h2 => absurd rfl h2⟩⟩, a2, a3⟩
      · rw [hz_hbT (by omega) hb, hz_cnT (by omega) hb, if_neg (by decide), if_neg (by decide), g5, nI_clamp (by omega)]
        have hu := hz_u13 h.2 hi (v := 3) ⟨3, by decide, rfl⟩
        have h2 : hz_RP (wP y 1 (upR (y.2.2.1 1) 13 (fX6_put 14 ((y.2.2.1 1).2 13) (nI i) 3))) (mA m 0 (upd (m.2.1 0) (67 + 6 * i) 3)) ny ns nz np := by
          refine ⟨h.1, ?_⟩
          rw [hz_mAs]
          exact hu
        obtain ⟨a1, a2, p1, a3, a4, a5⟩ := ih (i + 1) _ _ hi h2
        refine ⟨⟨fun h2 => absurd h2 hh, fun _ => ⟨fun h2 => absurd h2 (by decide), fun _ => ⟨vp_in_nI (by omega) (by omega), a1⟩⟩⟩, hz_chT (hz_ch00 h.1 _) a2, p1, ?_, a4, a5⟩
        rw [a3, hz_wPP]
theorem hp_pack {n : Nat} (hn : n ≤ 1000) (hR : hz_R n w m) : sX7_pack m ∧ (fX6_pack w).1 = (fX7_pack m).1 ∧ hz_R (n + 1) (fX6_pack w).2 (fX7_pack m).2 := by
  obtain ⟨ny, ns, nz, np, r, h, ⟨hr, hmo⟩, hK, hH, hI, hE, hO⟩ := hR
  obtain ⟨w1, r1, e, hK1, q1, q2, q3, q4, s, p1, p2, p3, p4, p5⟩ := hz_pset h (by omega) hmo hK
  have R1 : hz_R (n + 1) w1 (fX7_packedSet m).2 := hz_RR h hH hI hE hO q3 p5 (by omega) q2 hK1
  have hP1 := hz_RPk h q3 p5
  unfold sX7_pack fX6_pack fX7_pack
  simp only [bnd, e]
  rw [p1, p2]
  generalize fX7_packedSet m = X at *
  by_cases c : fX6_packableSet w1 = 0
  · rw [if_pos c, if_pos (p3.mp c)]
    exact ⟨⟨s, fun _ => trivial, fun hh => absurd (p3.mp c) hh⟩, rfl, R1⟩
  · have c2 : ¬ fX6_boxesOf w1 (fX6_packableSet w1) = 0 := fun hh => c (p3.mpr hh)
    rw [if_neg c, if_neg c2]
    obtain ⟨x1, x2, x3, x4, h', s2, hb, h1⟩ := hz_pre R1
    obtain ⟨s3, ⟨g1, g2, g3⟩, ⟨b1, b2, b3, b4, b5⟩, -⟩ := hz_rmb hP1.2 (by
      obtain ⟨_, _, _, _, _, _, _, _, hH', _⟩ := R1
      exact hH')
    have h2 : hz_RP (fX6_beforeChange w1) (fX7_remember X.2) ny ns nz np := ⟨g2.trans hP1.1, by rw [b4 1 (by decide), g3 0 (by decide)]; exact hP1.2⟩
    have L := hl_pack p4 (fuU 2147483647 0) 0 (fX6_beforeChange w1) (fX7_remember X.2) (Nat.zero_le np) h2
    rw [nI_0] at L
    obtain ⟨a1, a2, pp, a3, a4, a5⟩ := L
    generalize fX7_pack_20 (fX6_packableSet w1) (fuU 2147483647 0) 0 (fX7_remember X.2) = Y at *
    rw [a3]
    refine ⟨⟨s, fun hh => absurd hh c2, fun _ => ⟨s2, a1, trivial⟩⟩, ?_, hz_chg R1 rfl a2 a4⟩
    show fX6_boxesOf (wP (fX6_beforeChange w1) 1 pp) (fX6_packableSet w1) = Y.2.1 1
    rw [a2.1, g1 1 (by decide), p2]
    have ebx : (wP (fX6_beforeChange w1) 1 pp).2.2.1 1 = pp := rfl
    unfold fX6_boxesOf
    rw [ebx, a5, b4 1 (by decide)]
theorem hz_u21 {c : Nat} (hc : c ≤ 9) : ∀ (fu i : Nat) (y : Md), i ≤ 146 → 146 < fu + i → y.1 2 = nI c → sX7_undo_21 fu (nI i) y ∧ ((fX7_undo_21 fu (nI i) y).2.1 = y.1 ∧ (fX7_undo_21 fu (nI i) y).2.2.2 = y.2.2 ∧ ∀ k, ¬ k = 0 → (fX7_undo_21 fu (nI i) y).2.2.1 k = y.2.1 k) ∧ (∀ j, i ≤ j → j < 146 → (fX7_undo_21 fu (nI i) y).2.2.1 0 j = y.2.1 6 (146 * c + j)) ∧ ∀ j, j < i → (fX7_undo_21 fu (nI i) y).2.2.1 0 j = y.2.1 0 j := by
  intro fu
  induction fu with
  | zero => intro i y h1 h2; omega
  | succ fu ih =>
    intro i y hi hf hy
    simp only [fX7_undo_21, sX7_undo_21, bnd, hy]
    by_cases h : (146 : Int32) ≤ nI i
    · rw [if_pos h]
      have h9 : nI 146 ≤ nI i := h
      rw [nI_leI (by omega) (by omega)] at h9
      exact ⟨⟨fun _ => trivial, fun h2 => absurd h h2⟩, ⟨rfl, rfl, fun _ _ => rfl⟩, fun j h1 h2 => by omega, fun _ _ => rfl⟩
    · have hi : i < 146 := hz_c (n := 146) hi (by omega) h
      have ei : ((146 : Int32) * nI c) + nI i = nI (146 * c + i) := by
        rw [show (146 : Int32) = nI 146 from rfl, pk_mul, nI_add]
      rw [if_neg h, ← nI_succ, ei, nI_clamp (by omega), nI_clamp (by omega)]
      obtain ⟨a, ⟨b1, b2, b3⟩, d, e⟩ := ih (i + 1) (mA y 0 (upd (y.2.1 0) i (y.2.1 6 (146 * c + i)))) hi (by omega) hy
      refine ⟨⟨fun h2 => absurd h2 h, fun _ => ⟨vp_in_nI (by omega) (by omega), vp_in_nI hi (by omega), a⟩⟩, ⟨b1, b2, fun k hk => (b3 k hk).trans (if_neg hk)⟩, fun j h1 h2 => ?_, fun j hj => ?_⟩
      · by_cases hj : j = i
        · rw [hj, e i (by omega), hz_mAs, pk_us]
        · rw [d j (by omega) h2]; rfl
      · rw [e j (by omega), hz_mAs, pk_un (by omega)]
theorem hp_undo {n : Nat} (hR : hz_R n w m) : sX7_undo m ∧ (fX6_undo w).1 = (fX7_undo m).1 ∧ hz_R (n + 1) (fX6_undo w).2 (fX7_undo m).2 := by
  have hR0 := hR
  obtain ⟨ny, ns, nz, np, r, h, ⟨hr, hmo⟩, hK, hH, hI, hE, hO⟩ := hR
  obtain ⟨cnt, old, a1, a2, a3, a4, a5, a6⟩ := hH
  unfold sX7_undo fX6_undo fX7_undo
  simp only [bnd]
  by_cases c0 : cnt = 0
  · have z1 : w.1 11 = 0 := by rw [a3, c0]; rfl
    have z2 : m.1 2 = 0 := by rw [a5, c0]; rfl
    rw [if_pos z1, if_pos z2]
    exact ⟨⟨fun _ => trivial, fun hh => absurd z2 hh⟩, rfl, hz_Rup hR0 (by omega)⟩
  · have z1 : ¬ w.1 11 = 0 := by rw [a3]; exact nI_ne0 (by omega) (by omega)
    have z2 : ¬ m.1 2 = 0 := by rw [a5]; exact nI_ne0 (by omega) (by omega)
    obtain ⟨c, ec⟩ : ∃ c, cnt = c + 1 := ⟨cnt - 1, by omega⟩
    have e1 : w.1 11 - 1 = nI c := by rw [a3, ec]; exact nI_pred c
    have e2 : m.1 2 - 1 = nI c := by rw [a5, ec]; exact nI_pred c
    have ep : fX1_placeOf (wS w 11 (nI c)) (nI c) = nI ((old + c) % 10) := hz_place (w := wS w 11 (nI c)) a2 (by omega) (by
      show (if 12 = 11 then nI c else w.1 12) = _
      rw [if_neg (by decide)]; exact a4)
    have hlt : (old + c) % 10 < 10 := Nat.mod_lt _ (by decide)
    have eT : fX1_takeBack_21 w = wP (wS w 11 (nI c)) 1 (fX5_copyFrom (w.2.2.1 1) (w.2.2.1 (3 + (old + c) % 10))) := by
      unfold fX1_takeBack_21
      rw [if_pos (show (0 : Int32) < w.1 11 by rw [a3]; exact nI_lt (a := 0) (by omega) (by omega)), e1, ep, if_pos ⟨nI_pos (by omega), nI_ge (a := (old + c) % 10) (b := 10) hlt (by omega)⟩, nI_clamp (by omega)]
      rfl
    have L := hz_u21 (c := c) (by omega) (fuU 146 (nI 0)) 0 (mS m 2 (nI c)) (Nat.zero_le _) (hz_f146 0 rfl) rfl
    rw [nI_0] at L
    obtain ⟨s, ⟨b1, b2, b3⟩, d, -⟩ := L
    rw [if_neg z1, if_neg z2, eT, e2]
    generalize fX7_undo_21 (fuU 146 0) 0 (mS m 2 (nI c)) = Y at *
    have q2 : Y.2.1 2 = nI c := by rw [b1]; rfl
    have qo : ∀ q, ¬ q = 2 → Y.2.1 q = m.1 q := fun q hq => by rw [b1]; exact if_neg hq
    obtain ⟨x1, x2, x3, x4, hx⟩ := a6 c (by omega)
    refine ⟨⟨fun hh => absurd hh z2, fun _ => ⟨s, trivial⟩⟩, ?_, x1, x2, x3, x4, r, ⟨b2.trans h.1, ?_⟩, ⟨by omega, hmo⟩, Or.inl rfl, ⟨c, old, by omega, a2, rfl, a4, q2, fun i hi => ?_⟩, ?_, ?_, ?_⟩
    · show nI c = Y.2.1 2
      rw [q2]
    · exact hz_cp hx (fun j hj => d j (Nat.zero_le _) hj)
    · obtain ⟨y1, y2, y3, y4, hy⟩ := a6 i (by omega)
      refine ⟨y1, y2, y3, y4, ?_⟩
      show hz_PR (if 3 + (old + i) % 10 = 1 then _ else w.2.2.1 (3 + (old + i) % 10)) (fun j => Y.2.2.1 6 (146 * i + j)) _ _ _ _
      rw [if_neg (by omega), b3 6 (by decide)]
      exact hy
    · obtain ⟨L, l1, l2, l3, l4⟩ := hI
      refine ⟨L, l1, l2, by rw [qo 3 (by decide)]; exact l3, fun j hj => ?_⟩
      rw [b3 7 (by decide)]; exact l4 j hj
    · show w.1 1 = Y.2.1 9 ∧ w.1 2 = Y.2.1 10
      rw [qo 9 (by decide), qo 10 (by decide)]; exact hE
    · obtain ⟨C, l1, l2, l3, l4, l5⟩ := hO
      refine ⟨C, l1, l2, l3, by rw [qo 12 (by decide)]; exact l4, fun j hj => ?_⟩
      rw [b3 8 (by decide)]; exact l5 j hj
theorem hp_undoCount {n : Nat} (hR : hz_R n w m) : fX7_undoCount m = fX6_undoCount w := by
  obtain ⟨ny, ns, nz, np, r, h, -, -, ⟨cnt, old, a1, a2, a3, a4, a5, a6⟩, -⟩ := hR
  unfold fX7_undoCount fX6_undoCount
  rw [a3, a5]
end HZU
