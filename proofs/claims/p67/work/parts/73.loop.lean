/-! A statement, both sides; all statements. -/
def hz_finT (r : Md) : Prop := ((fX7_good r = 0 → (sX7_goOn r ∧ True)) ∧ (¬ fX7_good r = 0 → ((r.1 7 = 3 → ((r.1 8 = 59 → (sX7_goOn r ∧ True)) ∧ (¬ r.1 8 = 59 → (sX7_goOn (fX7_fail r 1) ∧ True)))) ∧ (¬ r.1 7 = 3 → (sX7_goOn (fX7_fail r 1) ∧ True)))))
theorem hz_finTi {r : Md} (h : hz_finS r) : hz_finT r := ⟨fun _ => ⟨h.1, trivial⟩, fun _ => ⟨fun _ => ⟨fun _ => ⟨h.1, trivial⟩, fun _ => ⟨h.2, trivial⟩⟩, fun _ => ⟨h.2, trivial⟩⟩⟩
theorem hz_pStS {m : Md} (i0 : sX7_isText m mq21) (i1 : sX7_isText m mq22) (i2 : sX7_isText m mq23) (i3 : sX7_isText m mq24) (i4 : sX7_isText m mq25) (i5 : sX7_isText m mq26) (i6 : sX7_isText m mq27) (h8 : hz_finS (fX7_fail m 1)) (h7 : ¬ fX7_isText m mq27 = 0 → sX7_parsePiece m ∧ hz_finS (fX7_parsePiece m)) (h6 : ¬ fX7_isText m mq26 = 0 → sX7_parseSize m ∧ hz_finS (fX7_parseSize m)) (h5 : ¬ fX7_isText m mq25 = 0 → sX7_parseShape m ∧ hz_finS (fX7_parseShape m)) (h4 : ¬ fX7_isText m mq24 = 0 → sX7_parseYarn m ∧ hz_finS (fX7_parseYarn m)) (h3 : ¬ fX7_isText m mq23 = 0 → sX7_once m 2 ∧ sX7_number (fX7_once m 2) 1 6 ∧ (fX7_number (fX7_once m 2) 1 6).2.2.2 = (fX7_once m 2).2.2 ∧ hz_finS (hz_one1 m 2 1 6 3)) (h2 : ¬ fX7_isText m mq22 = 0 → sX7_once m 1 ∧ sX7_number (fX7_once m 1) 0 100 ∧ (fX7_number (fX7_once m 1) 0 100).2.2.2 = (fX7_once m 1).2.2 ∧ hz_finS (hz_one1 m 1 0 100 2)) (h1 : ¬ fX7_isText m mq21 = 0 → sX7_once m 0 ∧ sX7_number (fX7_once m 0) 0 500 ∧ (fX7_number (fX7_once m 0) 0 500).2.2.2 = (fX7_once m 0).2.2 ∧ sX7_number (hz_one1 m 0 0 500 0) 0 255 ∧ (fX7_number (hz_one1 m 0 0 500 0) 0 255).2.2.2 = (hz_one1 m 0 0 500 0).2.2 ∧ hz_finS (hz_tol m)) : sX7_parseStatement m := by
  unfold sX7_parseStatement
  simp only [hz_bnd]
  refine ⟨i0, fun _ => ⟨i1, fun _ => ⟨i2, fun _ => ⟨i3, fun _ => ⟨i4, fun _ => ⟨i5, fun _ => ⟨i6, fun _ => hz_finTi h8, fun c => ⟨(h7 c).1, hz_finTi (h7 c).2⟩⟩, fun c => ⟨(h6 c).1, hz_finTi (h6 c).2⟩⟩, fun c => ⟨(h5 c).1, hz_finTi (h5 c).2⟩⟩, fun c => ⟨(h4 c).1, hz_finTi (h4 c).2⟩⟩, fun c => ?_⟩, fun c => ?_⟩, fun c => ?_⟩
  · obtain ⟨a, b, d, e⟩ := h3 c
    exact ⟨a, b, d, hz_finTi e⟩
  · obtain ⟨a, b, d, e⟩ := h2 c
    exact ⟨a, b, d, hz_finTi e⟩
  · obtain ⟨a, b, d, e, f, i⟩ := h1 c
    have i' := hz_finTi i
    unfold hz_finT hz_tol hz_one1 at i'
    unfold hz_one1 at e f
    exact ⟨a, b, d, e, f, i'⟩
def hz_cs (y : Wd) : Wd := (if (fX4_spells y sq0) = 0 then (if (fX4_spells y sq1) = 0 then (if (fX4_spells y sq2) = 0 then (if (fX4_spells y sq3) = 0 then (if (fX4_spells y sq4) = 0 then (if (fX4_spells y sq5) = 0 then (if (fX4_spells y sq6) = 0 then fX4_refuse y 1 else fX4_readPiece_6 y) else fX4_readSize_6 y) else fX4_readShape_6 y) else fX4_readYarn_6 y) else fX4_readBox y) else fX4_readSteam y) else fX4_readTolerance y)
theorem hz_r48 (z1 : Int32) (fu : Nat) (x : Int32) (y : Wd) : fX4_read_48 z1 (fu + 1) x y = (if (y.1 3) ≤ x then (x, y) else (if (y.1 4) = 0 then (x, y) else (if (y.1 1) = 0 then fX4_read_48 z1 fu (x + 1) (hz_cs y) else (x, y)))) := by
  have e : fX4_read_48 z1 (fu + 1) x y = (if (y.1 3) ≤ x then (x, y) else (if (y.1 4) = 0 then (x, y) else (if (y.1 1) = 0 then (if (fX4_spells y sq0) = 0 then (if (fX4_spells y sq1) = 0 then (if (fX4_spells y sq2) = 0 then (if (fX4_spells y sq3) = 0 then (if (fX4_spells y sq4) = 0 then (if (fX4_spells y sq5) = 0 then (if (fX4_spells y sq6) = 0 then (fX4_read_48 z1 fu (x + 1) (fX4_refuse y 1)) else (fX4_read_48 z1 fu (x + 1) (fX4_readPiece_6 y))) else (fX4_read_48 z1 fu (x + 1) (fX4_readSize_6 y))) else (fX4_read_48 z1 fu (x + 1) (fX4_readShape_6 y))) else (fX4_read_48 z1 fu (x + 1) (fX4_readYarn_6 y))) else (fX4_read_48 z1 fu (x + 1) (fX4_readBox y))) else (fX4_read_48 z1 fu (x + 1) (fX4_readSteam y))) else (fX4_read_48 z1 fu (x + 1) (fX4_readTolerance y))) else (x, y)))) := rfl
  rw [e]
  unfold hz_cs
  by_cases c0 : fX4_spells y sq0 = 0
  · rw [if_pos c0, if_pos c0]
    by_cases c1 : fX4_spells y sq1 = 0
    · rw [if_pos c1, if_pos c1]
      by_cases c2 : fX4_spells y sq2 = 0
      · rw [if_pos c2, if_pos c2]
        by_cases c3 : fX4_spells y sq3 = 0
        · rw [if_pos c3, if_pos c3]
          by_cases c4 : fX4_spells y sq4 = 0
          · rw [if_pos c4, if_pos c4]
            by_cases c5 : fX4_spells y sq5 = 0
            · rw [if_pos c5, if_pos c5]
              by_cases c6 : fX4_spells y sq6 = 0
              · rw [if_pos c6, if_pos c6]
              · rw [if_neg c6, if_neg c6]
            · rw [if_neg c5, if_neg c5]
          · rw [if_neg c4, if_neg c4]
        · rw [if_neg c3, if_neg c3]
      · rw [if_neg c2, if_neg c2]
    · rw [if_neg c1, if_neg c1]
  · rw [if_neg c0, if_neg c0]
theorem pz_cs {w : Wd} (h : pzC w) : pzC (hz_cs w) := by
  have h0 := pz_R h (z := 1) (by decide)
  have h1 := pz_stP h
  have h2 := pz_stZ h
  have h3 := pz_stS h
  have h4 := pz_stY h
  have h5 := pz_stBox h
  have h6 := pz_stSteam h
  have h7 := pz_stTol h
  unfold hz_cs
  generalize fX4_refuse w 1 = Z0 at *
  generalize fX4_readPiece_6 w = Z1 at *
  generalize fX4_readSize_6 w = Z2 at *
  generalize fX4_readShape_6 w = Z3 at *
  generalize fX4_readYarn_6 w = Z4 at *
  generalize fX4_readBox w = Z5 at *
  generalize fX4_readSteam w = Z6 at *
  generalize fX4_readTolerance w = Z7 at *
  repeat' split
  all_goals assumption
theorem hz_rB (z1 : Int32) {y : Wd} (h : ¬ y.1 1 = 0) : ∀ (fu : Nat) (x : Int32), (fX4_read_48 z1 fu x y).2 = y
  | 0, x => rfl
  | fu + 1, x => by
    rw [hz_r48, if_neg h]
    repeat' split
    all_goals rfl
theorem hz_lB {m : Md} (h : ¬ m.1 9 = 0) (fv : Nat) : sX7_load_52 (fv + 1) m ∧ fX7_load_52 (fv + 1) m = m := ⟨⟨fun _ => trivial, fun g => absurd (hz_gB h) g⟩, if_pos (hz_gB h)⟩
section HZZ
variable {L : Nat} {g : Nat → Nat} {w : Wd} {m : Md} {s q k ny ns nz np : Nat}
theorem hz_sOutD {w1 : Wd} {m1 : Md} (h1 : hz_fcD w w1) (h2 : hz_fmD m m1) (hF : hz_flg w m) (h3 : hz_bad w1 m1 ∨ ∃ s1 q1 k1 ny ns nz np, q ≤ s1 ∧ hz_prs L g w1 m1 s1 q1 k1 ∧ hz_PR (w1.2.2.1 0) (m1.2.1 1) ny ns nz np) : hz_sOut L g w m q w1 m1 := ⟨hz_fcWD h1, hz_fmWD h2, hz_flgD hF h1 h2, h3⟩
theorem hz_stmt (h : hz_tx L g w m) (ho : hz_prs L g w m s q k) (h1 : m.2.2 = 1) (hP : hz_PR (w.2.2.1 0) (m.2.1 1) ny ns nz np) (hF : hz_flg w m) : sX7_parseStatement m ∧ hz_sOut L g w m q (hz_cs w) (fX7_parseStatement m) := by
  obtain ⟨i0, e0, -⟩ := hz_wr0 h ho
  obtain ⟨i1, e1, -⟩ := hz_wr1 h ho
  obtain ⟨i2, e2, -⟩ := hz_wr2 h ho
  obtain ⟨i3, e3, -⟩ := hz_wr3 h ho
  obtain ⟨i4, e4, -⟩ := hz_wr4 h ho
  obtain ⟨i5, e5, -⟩ := hz_wr5 h ho
  obtain ⟨i6, e6, -⟩ := hz_wr6 h ho
  obtain ⟨f1, f2⟩ := hz_fl ho (z := 1) (by decide)
  obtain ⟨f3, f4⟩ := hz_finB (hz_badM f1)
  obtain ⟨a1, a2, a3, a4, a5⟩ := hz_stTol h ho h1 hP hF
  obtain ⟨b1, b2, b3, b4, b5⟩ := hz_stSteam h ho h1 hP hF
  obtain ⟨c1, c2, c3, c4, c5⟩ := hz_stBox h ho h1 hP hF
  obtain ⟨y1, y2, y3, y4, y5⟩ := hz_stY h ho h1 hP
  obtain ⟨s1, s2, s3, s4, s5⟩ := hz_stS h ho h1 hP
  obtain ⟨z1, z2, z3, z4, z5⟩ := hz_stZ h ho h1 hP
  obtain ⟨p1, p2, p3, p4, p5⟩ := hz_stP h ho h1 hP
  refine ⟨hz_pStS i0 i1 i2 i3 i4 i5 i6 f4 (fun _ => ⟨p1, p2⟩) (fun _ => ⟨z1, z2⟩) (fun _ => ⟨s1, s2⟩) (fun _ => ⟨y1, y2⟩) (fun _ => ⟨c1, c2, c3, c4⟩) (fun _ => ⟨b1, b2, b3, b4⟩) (fun _ => ⟨a1, a2, a3, a4, a5.1, a5.2.1⟩), ?_⟩
  rw [hz_pSt, e0, e1, e2, e3, e4, e5, e6]
  unfold hz_cs
  by_cases d0 : fX4_spells w sq0 = 0
  · rw [if_pos d0, if_pos d0]
    by_cases d1 : fX4_spells w sq1 = 0
    · rw [if_pos d1, if_pos d1]
      by_cases d2 : fX4_spells w sq2 = 0
      · rw [if_pos d2, if_pos d2]
        by_cases d3 : fX4_spells w sq3 = 0
        · rw [if_pos d3, if_pos d3]
          by_cases d4 : fX4_spells w sq4 = 0
          · rw [if_pos d4, if_pos d4]
            by_cases d5 : fX4_spells w sq5 = 0
            · rw [if_pos d5, if_pos d5]
              by_cases d6 : fX4_spells w sq6 = 0
              · rw [if_pos d6, if_pos d6, f3]
                exact hz_sOutD (hz_fcK (hz_ckR w 1)) (hz_fmF f2) hF (Or.inl f1)
              · rw [if_neg d6, if_neg d6]
                refine hz_sOutD p3 p4 hF ?_
                rcases p5 with p5 | ⟨x1, x2, x3, x4, x5, x6, x7⟩
                · exact Or.inl p5
                · exact Or.inr ⟨x1, x2, x3, ny, ns, nz, x4, x5, x6, x7⟩
            · rw [if_neg d5, if_neg d5]
              refine hz_sOutD z3 z4 hF ?_
              rcases z5 with z5 | ⟨x1, x2, x3, x4, x5, x6, x7⟩
              · exact Or.inl z5
              · exact Or.inr ⟨x1, x2, x3, ny, ns, x4, np, x5, x6, x7⟩
          · rw [if_neg d4, if_neg d4]
            refine hz_sOutD s3 s4 hF ?_
            rcases s5 with s5 | ⟨x1, x2, x3, x4, x5, x6, x7⟩
            · exact Or.inl s5
            · exact Or.inr ⟨x1, x2, x3, ny, x4, nz, np, x5, x6, x7⟩
        · rw [if_neg d3, if_neg d3]
          refine hz_sOutD y3 y4 hF ?_
          rcases y5 with y5 | ⟨x1, x2, x3, x4, x5, x6, x7⟩
          · exact Or.inl y5
          · exact Or.inr ⟨x1, x2, x3, x4, ns, nz, np, x5, x6, x7⟩
      · rw [if_neg d2, if_neg d2]; exact c5
    · rw [if_neg d1, if_neg d1]; exact b5
  · rw [if_neg d0, if_neg d0]; exact a5.2.2
def hz_lOut (w : Wd) (m : Md) (w1 : Wd) (m1 : Md) : Prop := hz_fcW w w1 ∧ hz_fmW m m1 ∧ pzC w1 ∧ pzM m1 ∧ (hz_bad w1 m1 ∨ (w1.1 1 = 0 ∧ m1.1 9 = 0 ∧ ∃ ny ns nz np, hz_PR (w1.2.2.1 0) (m1.2.1 1) ny ns nz np))
theorem hz_loop (z1 : Int32) : ∀ (n s q k i fu fv : Nat) (w : Wd) (m : Md) (ny ns nz np : Nat), L - s ≤ n → n < fu → n + 1 < fv → i ≤ s → hz_tx L g w m → hz_prs L g w m s q k → m.2.2 = 1 → hz_PR (w.2.2.1 0) (m.2.1 1) ny ns nz np → hz_flg w m → pzC w → pzM m → sX7_load_52 fv m ∧ hz_lOut w m (fX4_read_48 z1 fu (nI i) w).2 (fX7_load_52 fv m) := by
  intro n
  induction n with
  | zero =>
    intro s q k i fu fv w m ny ns nz np hL hf hg hi ht ho h1 hP hF hw hm
    obtain ⟨fu, rfl⟩ : ∃ k, fu = k + 1 := ⟨fu - 1, by omega⟩
    obtain ⟨fv, rfl⟩ : ∃ k, fv = k + 1 := ⟨fv - 1, by omega⟩
    obtain ⟨o1, o2, t1, t2, t3, t4, t5, t6, t7, t8, t9⟩ := ho
    have hk : k = 0 := by
      rcases t9 with ⟨x, _⟩ | ⟨_, x, _⟩ | ⟨_, x, _⟩ | ⟨_, x, _⟩ <;> omega
    have c4 : w.1 4 = 0 := by rw [t5, hk, nI_0]
    have c7 : m.1 7 = 0 := by rw [t6, hk, nI_0]
    have hgd : ¬ fX7_good m = 0 := by rw [hz_gG o2]; decide
    have e1 : (fX4_read_48 z1 (fu + 1) (nI i) w).2 = w := by
      rw [hz_r48, if_pos c4]
      split <;> rfl
    have e2 : fX7_load_52 (fv + 1) m = m := (if_neg hgd).trans (if_pos c7)
    rw [e1, e2]
    exact ⟨⟨fun _ => trivial, fun _ => ⟨fun _ => trivial, fun h => absurd c7 h⟩⟩, ⟨fun _ _ _ _ _ _ _ _ _ _ => rfl, rfl, fun _ _ => rfl, rfl⟩, ⟨fun _ _ _ _ _ _ _ _ => rfl, fun _ _ => rfl, rfl⟩, hw, hm, Or.inr ⟨o1, o2, ny, ns, nz, np, hP⟩⟩
  | succ n ih =>
    intro s q k i fu fv w m ny ns nz np hL hf hg hi ht ho h1 hP hF hw hm
    obtain ⟨fu, rfl⟩ : ∃ k, fu = k + 1 := ⟨fu - 1, by omega⟩
    obtain ⟨fv, rfl⟩ : ∃ k, fv = k + 1 := ⟨fv - 1, by omega⟩
    have ho0 := ho
    obtain ⟨o1, o2, t1, t2, t3, t4, t5, t6, t7, t8, t9⟩ := ho
    have hL2 := ht.1
    have hgd : ¬ fX7_good m = 0 := by rw [hz_gG o2]; decide
    by_cases hk : k = 0
    · have c4 : w.1 4 = 0 := by rw [t5, hk, nI_0]
      have c7 : m.1 7 = 0 := by rw [t6, hk, nI_0]
      have e1 : (fX4_read_48 z1 (fu + 1) (nI i) w).2 = w := by
        rw [hz_r48, if_pos c4]
        split <;> rfl
      have e2 : fX7_load_52 (fv + 1) m = m := (if_neg hgd).trans (if_pos c7)
      rw [e1, e2]
      exact ⟨⟨fun _ => trivial, fun _ => ⟨fun _ => trivial, fun h => absurd c7 h⟩⟩, ⟨fun _ _ _ _ _ _ _ _ _ _ => rfl, rfl, fun _ _ => rfl, rfl⟩, ⟨fun _ _ _ _ _ _ _ _ => rfl, fun _ _ => rfl, rfl⟩, hw, hm, Or.inr ⟨o1, o2, ny, ns, nz, np, hP⟩⟩
    · have hsq : s < q := by
        rcases t9 with ⟨x, _⟩ | ⟨_, x, _⟩ | ⟨_, x, _⟩ | ⟨_, x, _⟩ <;> omega
      have hk3 : k ≤ 3 := by
        rcases t9 with ⟨x, _⟩ | ⟨x, _⟩ | ⟨x, _, _⟩ | ⟨x, _⟩ <;> omega
      have c4 : ¬ w.1 4 = 0 := by
        rw [t5]
        intro hh
        exact hk (hz_nIi (a := k) (b := 0) (by omega) (by omega) hh)
      have c7 : ¬ m.1 7 = 0 := by
        rw [t6]
        intro hh
        exact hk (hz_nIi (a := k) (b := 0) (by omega) (by omega) hh)
      have c3 : ¬ w.1 3 ≤ nI i := by
        rw [ht.2.1, hz_le, nI_toInt (by omega), nI_toInt (by omega)]
        omega
      have e1 : fX4_read_48 z1 (fu + 1) (nI i) w = fX4_read_48 z1 fu (nI (i + 1)) (hz_cs w) := by
        rw [hz_r48, if_neg c3, if_neg c4, if_pos o1, nI_succ]
      have e2 : fX7_load_52 (fv + 1) m = fX7_load_52 fv (fX7_parseStatement m) := (if_neg hgd).trans (if_neg c7)
      have e3 : sX7_load_52 (fv + 1) m = (((fX7_good m) = 0 → True) ∧ (¬ (fX7_good m) = 0 → (((m.1 7) = 0 → True) ∧ (¬ (m.1 7) = 0 → ((sX7_parseStatement m) ∧ (sX7_load_52 fv (fX7_parseStatement m))))))) := rfl
      obtain ⟨s1, s2, s3, s4, s5⟩ := hz_stmt ht ho0 h1 hP hF
      have pw := pz_cs hw
      have pm := qz_St hm
      rw [e1, e2, e3]
      generalize hz_cs w = w1 at *
      generalize fX7_parseStatement m = m1 at *
      rcases s5 with s5 | ⟨s6, q6, k6, ny6, ns6, nz6, np6, a1, a2, a3⟩
      · obtain ⟨fv, rfl⟩ : ∃ k, fv = k + 1 := ⟨fv - 1, by omega⟩
        obtain ⟨l1, l2⟩ := hz_lB (hz_badM s5) fv
        rw [hz_rB z1 s5.1, l2]
        exact ⟨⟨fun _ => trivial, fun _ => ⟨fun _ => trivial, fun _ => ⟨s1, l1⟩⟩⟩, s2, s3, pw, pm, Or.inl s5⟩
      · have ht1 : hz_tx L g w1 m1 := hz_txS ht (s2.1 3 (by decide) (by decide) (by decide) (by decide) (by decide) (by decide) (by decide) (by decide) (by decide)) (s3.1 4 (by decide) (by decide) (by decide) (by decide) (by decide) (by decide) (by decide)) (by rw [s2.2.1]) (s3.2.1 7 (by decide))
        obtain ⟨j1, j2, j3, j4, j5, j6⟩ := ih s6 q6 k6 (i + 1) fu fv w1 m1 ny6 ns6 nz6 np6 (by omega) (by omega) (by omega) (by omega) ht1 a2 (by rw [s3.2.2]; exact h1) a3 s4 pw pm
        exact ⟨⟨fun _ => trivial, fun _ => ⟨fun _ => trivial, fun _ => ⟨s1, j1⟩⟩⟩, hz_fcWT s2 j2, hz_fmWT s3 j3, j4, j5, j6⟩
end HZZ
