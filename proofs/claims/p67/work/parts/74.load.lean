/-! load: both sides agree. -/
theorem hz_cl2 : ∀ (fu i : Nat) (y : Md), i ≤ 146 → 146 < fu + i → sX7_clear_223_2 fu (nI i) y ∧ hz_q1 y (fX7_clear_223_2 fu (nI i) y).2 ∧ (∀ j, i ≤ j → j < 146 → (fX7_clear_223_2 fu (nI i) y).2.2.1 1 j = 0) ∧ ∀ j, j < i → (fX7_clear_223_2 fu (nI i) y).2.2.1 1 j = y.2.1 1 j := by
  intro fu
  induction fu with
  | zero => intro i y h1 h2; omega
  | succ fu ih =>
    intro i y hi hf
    have e1 : fX7_clear_223_2 (fu + 1) (nI i) y = (if 146 ≤ nI i then (nI i, y) else fX7_clear_223_2 fu (nI i + 1) (mA y 1 (upd (y.2.1 1) (nI i).toNatClampNeg 0))) := rfl
    have e2 : sX7_clear_223_2 (fu + 1) (nI i) y = ((146 ≤ nI i → True) ∧ (¬ 146 ≤ nI i → (vp_in (nI i) 146 ∧ sX7_clear_223_2 fu (nI i + 1) (mA y 1 (upd (y.2.1 1) (nI i).toNatClampNeg 0))))) := rfl
    by_cases h : (146 : Int32) ≤ nI i
    · have h9 : nI 146 ≤ nI i := h
      rw [nI_leI (by omega) (by omega)] at h9
      rw [e1, e2, if_pos h]
      exact ⟨⟨fun _ => trivial, fun h2 => absurd h h2⟩, ⟨rfl, fun _ _ => rfl, rfl⟩, fun j h1 h2 => by omega, fun _ _ => rfl⟩
    · have hi : i < 146 := hz_c (n := 146) hi (by omega) h
      rw [e1, e2, if_neg h, ← nI_succ, nI_clamp (by omega)]
      obtain ⟨a, b, d, e⟩ := ih (i + 1) (mA y 1 (upd (y.2.1 1) i 0)) hi (by omega)
      refine ⟨⟨fun h2 => absurd h2 h, fun _ => ⟨vp_in_nI hi (by omega), a⟩⟩, hz_q1T (hz_q1A y _) b, fun j h1 h2 => ?_, fun j hj => ?_⟩
      · by_cases hj : j = i
        · rw [hj, e i (by omega), hz_mAs, pk_us]
        · exact d j (by omega) h2
      · rw [e j (by omega), hz_mAs, pk_un (by omega)]
theorem hz_clE (m : Md) (F : Nat) (hF : fuU 146 0 = F) : fX7_clear_223 m = mA (mA (mA (mA (fX7_clear_223_2 F 0 m).2 1 (upd ((fX7_clear_223_2 F 0 m).2.2.1 1) 0 30)) 1 (upd (upd ((fX7_clear_223_2 F 0 m).2.2.1 1) 0 30) 1 6)) 1 (upd (upd (upd ((fX7_clear_223_2 F 0 m).2.2.1 1) 0 30) 1 6) 2 60)) 1 (upd (upd (upd (upd ((fX7_clear_223_2 F 0 m).2.2.1 1) 0 30) 1 6) 2 60) 3 2) := by
  subst hF
  unfold fX7_clear_223
  simp only [hz_bid]
  simp only [hz_bnd]
  simp only [hz_mAs]
theorem hz_clS (m : Md) (F : Nat) (hF : fuU 146 0 = F) (h : sX7_clear_223_2 F 0 m) : sX7_clear_223 m := by
  subst hF
  unfold sX7_clear_223
  simp only [hz_bnd]
  exact ⟨h, trivial⟩
theorem hz_mk (p : Pl) : (fX5_makeEmpty p).1 0 = nI 0 ∧ (fX5_makeEmpty p).1 1 = nI 0 ∧ (fX5_makeEmpty p).1 2 = nI 0 ∧ (fX5_makeEmpty p).1 3 = 30 ∧ (fX5_makeEmpty p).1 4 = 6 ∧ (fX5_makeEmpty p).1 5 = 60 ∧ (fX5_makeEmpty p).1 6 = 2 ∧ (fX5_makeEmpty p).1 7 = 0 ∧ (fX5_makeEmpty p).1 8 = nI 0 := by
  rw [nI_0]
  exact ⟨rfl, rfl, rfl, rfl, rfl, rfl, rfl, rfl, rfl⟩
theorem hz_clP (p : Pl) {f : Nat → Int32} (f0 : f 0 = 30) (f1 : f 1 = 6) (f2 : f 2 = 60) (f3 : f 3 = 2) (z : ∀ j, 4 ≤ j → j < 146 → f j = 0) : hz_PR (fX5_makeEmpty p) f 0 0 0 0 := by
  obtain ⟨p0, p1, p2, p3, p4, p5, p6, p7, p8⟩ := hz_mk p
  generalize fX5_makeEmpty p = q at *
  refine ⟨⟨p0, p1, p2, p8⟩, ⟨by omega, by omega, by omega, by omega⟩, ⟨?_, ?_, ?_, ?_⟩, ⟨?_, ?_, ?_, ?_, ?_⟩, ⟨?_, ?_, ?_, ?_⟩, fun i hi => absurd hi (by omega), fun i hi => absurd hi (by omega), fun i hi => absurd hi (by omega), fun i hi => absurd hi (by omega)⟩
  · rw [z 5 (by omega) (by omega), nI_0]
  · rw [z 6 (by omega) (by omega), nI_0]
  · rw [z 7 (by omega) (by omega), nI_0]
  · rw [z 8 (by omega) (by omega), nI_0]
  · rw [f0, p3]
  · rw [f1, p4]
  · rw [f2, p5]
  · rw [f3, p6]
  · rw [z 4 (by omega) (by omega), p7]
  · rw [p3]; exact ⟨by decide, by decide⟩
  · rw [p4]; exact ⟨by decide, by decide⟩
  · rw [p5]; exact ⟨by decide, by decide⟩
  · rw [p6]; exact ⟨by decide, by decide⟩
theorem hz_clear1 (m : Md) : ∃ R, fX7_clear_223 m = R ∧ sX7_clear_223 m ∧ hz_q1 m R ∧ ∀ p, hz_PR (fX5_makeEmpty p) (R.2.1 1) 0 0 0 0 := by
  have hf := hz_f146 0 rfl
  rw [nI_0] at hf
  obtain ⟨F, hF⟩ : ∃ F, fuU 146 0 = F := ⟨_, rfl⟩
  rw [hF] at hf
  obtain ⟨a, b, d, -⟩ := hz_cl2 F 0 m (by omega) hf
  have e := hz_clE m F hF
  have e2 := hz_clS m F hF
  rw [nI_0] at a b d
  generalize fX7_clear_223_2 F 0 m = X at *
  refine ⟨_, e, e2 a, hz_q1T b (hz_q1T (hz_q1A _ _) (hz_q1T (hz_q1A _ _) (hz_q1T (hz_q1A _ _) (hz_q1A _ _)))), fun p => ?_⟩
  rw [hz_mAs]
  refine hz_clP p ?_ ?_ ?_ ?_ (fun j h4 hj => ?_)
  · rw [pk_un (by omega), pk_un (by omega), pk_un (by omega), pk_us]
  · rw [pk_un (by omega), pk_un (by omega), pk_us]
  · rw [pk_un (by omega), pk_us]
  · rw [pk_us]
  · rw [pk_un (by omega), pk_un (by omega), pk_un (by omega), pk_un (by omega)]
    exact d j (by omega) hj
theorem hz_l97 : ∀ (fu i : Nat) (y : Md), i ≤ 146 → 146 < fu + i → sX7_load_97 fu (nI i) y ∧ ((fX7_load_97 fu (nI i) y).2.1 = y.1 ∧ (fX7_load_97 fu (nI i) y).2.2.2 = y.2.2 ∧ ∀ k, ¬ k = 0 → (fX7_load_97 fu (nI i) y).2.2.1 k = y.2.1 k) ∧ (∀ j, i ≤ j → j < 146 → (fX7_load_97 fu (nI i) y).2.2.1 0 j = y.2.1 1 j) ∧ ∀ j, j < i → (fX7_load_97 fu (nI i) y).2.2.1 0 j = y.2.1 0 j := by
  intro fu
  induction fu with
  | zero => intro i y h1 h2; omega
  | succ fu ih =>
    intro i y hi hf
    have e1 : fX7_load_97 (fu + 1) (nI i) y = (if 146 ≤ nI i then (nI i, y) else fX7_load_97 fu (nI i + 1) (mA y 0 (upd (y.2.1 0) (nI i).toNatClampNeg ((y.2.1 1) (nI i).toNatClampNeg)))) := rfl
    have e2 : sX7_load_97 (fu + 1) (nI i) y = ((146 ≤ nI i → True) ∧ (¬ 146 ≤ nI i → (vp_in (nI i) 146 ∧ (vp_in (nI i) 146 ∧ sX7_load_97 fu (nI i + 1) (mA y 0 (upd (y.2.1 0) (nI i).toNatClampNeg ((y.2.1 1) (nI i).toNatClampNeg))))))) := rfl
    by_cases h : (146 : Int32) ≤ nI i
    · have h9 : nI 146 ≤ nI i := h
      rw [nI_leI (by omega) (by omega)] at h9
      rw [e1, e2, if_pos h]
      exact ⟨⟨fun _ => trivial, fun h2 => absurd h h2⟩, ⟨rfl, rfl, fun _ _ => rfl⟩, fun j h1 h2 => by omega, fun _ _ => rfl⟩
    · have hi : i < 146 := hz_c (n := 146) hi (by omega) h
      rw [e1, e2, if_neg h, ← nI_succ, nI_clamp (by omega)]
      obtain ⟨a, ⟨b1, b2, b3⟩, d, e⟩ := ih (i + 1) (mA y 0 (upd (y.2.1 0) i (y.2.1 1 i))) hi (by omega)
      refine ⟨⟨fun h2 => absurd h2 h, fun _ => ⟨vp_in_nI hi (by omega), vp_in_nI hi (by omega), a⟩⟩, ⟨b1, b2, fun k hk => (b3 k hk).trans (if_neg hk)⟩, fun j h1 h2 => ?_, fun j hj => ?_⟩
      · by_cases hj : j = i
        · rw [hj, e i (by omega), hz_mAs, pk_us]
        · rw [d j (by omega) h2]; rfl
      · rw [e j (by omega), hz_mAs, pk_un (by omega)]
def hz_m0 (m : Md) : Md := mN (mS (mS (mS (mS (mS (mS m 4 (m.1 3)) 3 0) 5 0) 9 0) 10 (-1)) 11 0) 1
def hz_w0 (w : Wd) : Wd := wS (wS (wS (wS (wS (wS (wS (wP w 0 (fX5_makeEmpty (w.2.2.1 0))) 1 0) 2 (-1)) 8 0) 9 0) 10 0) 3 (w.1 0)) 6 0
theorem hz_ldM (m r12 r19 r35 : Md) (e12 : fX7_clear_223 (hz_m0 m) = r12) (e19 : fX7_advance r12 = r19) (F FF : Nat) (hF : 1300 = F) (hFF : fuU 146 0 = FF) (e35 : fX7_load_52 F r19 = r35) : fX7_load m = (if fX7_good (mN r35 0) = 0 then (-4, mN r35 0) else (((fX7_load_97 FF 0 (fX7_remember (mN r35 0))).2.2.1 0) 8, (fX7_load_97 FF 0 (fX7_remember (mN r35 0))).2)) := by
  subst hFF; subst hF; subst e35; subst e19; subst e12
  unfold fX7_load hz_m0
  simp only [hz_bnd]
theorem hz_ldMs (m r12 r19 r35 : Md) (e12 : fX7_clear_223 (hz_m0 m) = r12) (e19 : fX7_advance r12 = r19) (F FF : Nat) (hF : 1300 = F) (hFF : fuU 146 0 = FF) (e35 : fX7_load_52 F r19 = r35) (s0 : sX7_clear_223 (hz_m0 m)) (s1 : sX7_advance r12) (s2 : sX7_load_52 F r19) (s3 : ¬ fX7_good (mN r35 0) = 0 → sX7_remember (mN r35 0) ∧ sX7_load_97 FF 0 (fX7_remember (mN r35 0))) : sX7_load m := by
  subst hFF; subst hF; subst e35; subst e19; subst e12
  unfold sX7_load
  simp only [hz_bnd]
  exact ⟨s0, s1, s2, fun _ => trivial, fun c => ⟨(s3 c).1, (s3 c).2, trivial⟩⟩
theorem hz_ldC (w r19 r : Wd) (e19 : fX4_advance (hz_w0 w) = r19) (F : Nat) (hF : fuU 2147483647 0 = F) (er : (fX4_read_48 (w.1 0) F 0 r19).2 = r) : fX6_load w = (if r.1 1 = 0 then ((fX5_copyFrom ((fX6_beforeChange (wS r 0 0)).2.2.1 1) ((fX6_beforeChange (wS r 0 0)).2.2.1 0)).1 8, wP (fX6_beforeChange (wS r 0 0)) 1 (fX5_copyFrom ((fX6_beforeChange (wS r 0 0)).2.2.1 1) ((fX6_beforeChange (wS r 0 0)).2.2.1 0))) else (-4, wS r 0 0)) := by
  have e : fX4_read w (w.1 0) = (if r.1 1 = 0 then (1, r) else (0, r)) := by
    subst er; subst hF; subst e19
    unfold fX4_read hz_w0
    simp only [hz_bnd]
  unfold fX6_load
  simp only [hz_bnd]
  rw [e]
  by_cases c : r.1 1 = 0
  · rw [if_pos c, if_pos c, if_neg (show ¬ (1 : Int32) = 0 by decide)]
  · rw [if_neg c, if_neg c, if_pos rfl]
theorem hp_load {w : Wd} {m : Md} {n : Nat} (hR : hz_R n w m) : sX7_load m ∧ (fX6_load w).1 = (fX7_load m).1 ∧ hz_R (n + 1) (fX6_load w).2 (fX7_load m).2 := by
  obtain ⟨ny, ns, nz, np, r, ⟨h0, hP⟩, ⟨hr, hmo⟩, hK, ⟨cnt, old, o1, o2, o3, o4, o5, o6⟩, ⟨L, l1, l2, l3, l4⟩, -, ⟨C, c1, c2, c3, c4, c5⟩⟩ := hR
  obtain ⟨g, hg⟩ : ∃ g : Nat → Nat, ∀ j, j < L → g j < 256 ∧ w.2.1 0 j = nI (g j) ∧ m.2.1 7 j = (nI (g j)).toInt8.toInt32 := by
    refine ⟨fun j => if h : j < L then Classical.choose (l4 j h) else 0, fun j hj => ?_⟩
    have := Classical.choose_spec (l4 j hj)
    show (if h : j < L then Classical.choose (l4 j h) else 0) < 256 ∧ w.2.1 0 j = nI (if h : j < L then Classical.choose (l4 j h) else 0) ∧ m.2.1 7 j = (nI (if h : j < L then Classical.choose (l4 j h) else 0)).toInt8.toInt32
    rw [dif_pos hj]
    exact this
  -- the start
  obtain ⟨W0, eW0⟩ : ∃ x, hz_w0 w = x := ⟨_, rfl⟩
  obtain ⟨M0, eM0⟩ : ∃ x, hz_m0 m = x := ⟨_, rfl⟩
  have w01 : W0.1 1 = 0 := by rw [← eW0]; rfl
  have w02 : W0.1 2 = -1 := by rw [← eW0]; rfl
  have w03 : W0.1 3 = nI L := by rw [← eW0, ← l2]; rfl
  have w06 : W0.1 6 = nI 0 := by rw [← eW0, nI_0]; rfl
  have w08 : W0.1 8 = 0 := by rw [← eW0]; rfl
  have w09 : W0.1 9 = 0 := by rw [← eW0]; rfl
  have w010 : W0.1 10 = 0 := by rw [← eW0]; rfl
  have w0k : ∀ k, 10 < k → W0.1 k = w.1 k := fun k hk => by
    rw [← eW0]
    exact (if_neg (by omega)).trans ((if_neg (by omega)).trans ((if_neg (by omega)).trans ((if_neg (by omega)).trans ((if_neg (by omega)).trans ((if_neg (by omega)).trans (if_neg (by omega)))))))
  have w0A : W0.2.1 = w.2.1 := by rw [← eW0]; rfl
  have w0P : ∀ k, ¬ k = 0 → W0.2.2.1 k = w.2.2.1 k := fun k hk => by rw [← eW0]; exact if_neg hk
  have w0Q : W0.2.2.1 0 = fX5_makeEmpty (w.2.2.1 0) := by rw [← eW0]; rfl
  have w0R : W0.2.2.2 = w.2.2.2 := by rw [← eW0]; rfl
  have m04 : M0.1 4 = nI L := by rw [← eM0, ← l3]; rfl
  have m03 : M0.1 3 = 0 := by rw [← eM0]; rfl
  have m05 : M0.1 5 = nI 0 := by rw [← eM0, nI_0]; rfl
  have m09 : M0.1 9 = 0 := by rw [← eM0]; rfl
  have m010 : M0.1 10 = -1 := by rw [← eM0]; rfl
  have m011 : M0.1 11 = 0 := by rw [← eM0]; rfl
  have m0A : M0.2.1 = m.2.1 := by rw [← eM0]; rfl
  have m0N : M0.2.2 = 1 := by rw [← eM0]; rfl
  have m02 : M0.1 2 = m.1 2 := by rw [← eM0]; rfl
  have m012 : M0.1 12 = m.1 12 := by rw [← eM0]; rfl
  obtain ⟨M1, eM1, sM1, q1, pM1⟩ := hz_clear1 M0
  obtain ⟨q1a, q1b, q1c⟩ := q1
  have t1 : hz_tx L g W0 M1 := ⟨l1, w03, by rw [q1a]; exact m04, fun j hj => by
    rw [w0A, q1b 7 (by decide), m0A]
    exact hg j hj⟩
  -- the first token
  obtain ⟨sA, ⟨s, q, k, -, tok⟩, fw, fm⟩ := hl_adv t1 (q := 0) (by omega) w06 (by rw [q1a]; exact m05)
  obtain ⟨W2, eW2⟩ : ∃ x, fX4_advance W0 = x := ⟨_, rfl⟩
  obtain ⟨M2, eM2⟩ : ∃ x, fX7_advance M1 = x := ⟨_, rfl⟩
  rw [eW2] at tok fw
  rw [eM2] at tok fm
  have t2 : hz_tx L g W2 M2 := hz_txS t1 (fw.1 3 (by decide) (by decide) (by decide) (by decide)) (fm.1 4 (by decide) (by decide) (by decide) (by decide)) (by rw [fw.2]) (by rw [fm.2])
  have w21 : W2.1 1 = 0 := (fw.1 1 (by decide) (by decide) (by decide) (by decide)).trans w01
  have w22 : W2.1 2 = -1 := (fw.1 2 (by decide) (by decide) (by decide) (by decide)).trans w02
  have m29 : M2.1 9 = 0 := by rw [fm.1 9 (by decide) (by decide) (by decide) (by decide), q1a]; exact m09
  have m210 : M2.1 10 = -1 := by rw [fm.1 10 (by decide) (by decide) (by decide) (by decide), q1a]; exact m010
  have m211 : M2.1 11 = 0 := by rw [fm.1 11 (by decide) (by decide) (by decide) (by decide), q1a]; exact m011
  have m2N : M2.2.2 = 1 := by rw [fm.2, q1c]; exact m0N
  have p2 : hz_PR (W2.2.2.1 0) (M2.2.1 1) 0 0 0 0 := by
    rw [fw.2, fm.2, w0Q]
    exact pM1 _
  have hfl : hz_flg W2 M2 := fun i hi => by
    unfold hz_fg
    rw [m211, b_0]
    left
    refine ⟨?_, rfl⟩
    rw [fw.1 (8 + i) (by omega) (by omega) (by omega) (by omega)]
    rcases (show i = 0 ∨ i = 1 ∨ i = 2 by omega) with rfl | rfl | rfl
    · exact w08
    · exact w09
    · exact w010
  -- all statements
  obtain ⟨F, hF⟩ : ∃ F : Nat, 1300 = F := ⟨_, rfl⟩
  obtain ⟨FF, hFF⟩ : ∃ F : Nat, fuU 146 0 = F := ⟨_, rfl⟩
  obtain ⟨FC, hFC⟩ : ∃ F : Nat, fuU 2147483647 0 = F := ⟨_, rfl⟩
  have hFc : 1201 < FC := by
    have := hz_fuB (q := 0) (by omega)
    rw [nI_0, hFC] at this
    exact this
  have hFf : 146 < FF + 0 := by
    have := hz_f146 0 rfl
    rw [nI_0, hFF] at this
    exact this
  obtain ⟨sL, lo⟩ := hz_loop (w.1 0) L s q k 0 FC F W2 M2 0 0 0 0 (by omega) (by omega) (by omega) (by omega) t2 ⟨w21, m29, tok⟩ m2N p2 hfl (fun _ => w22) (fun _ => m210)
  rw [nI_0] at lo
  obtain ⟨W3, eW3⟩ : ∃ x, (fX4_read_48 (w.1 0) FC 0 W2).2 = x := ⟨_, rfl⟩
  obtain ⟨M3, eM3⟩ : ∃ x, fX7_load_52 F M2 = x := ⟨_, rfl⟩
  rw [eW3, eM3] at lo
  obtain ⟨lf, lm, lz, lq, lr⟩ := lo
  -- the world behind the reading
  have aw : ∀ k, 10 < k → (wS W3 0 0).1 k = w.1 k := fun k hk => (if_neg (by omega)).trans ((lf.1 k (by omega) (by omega) (by omega) (by omega) (by omega) (by omega) (by omega) (by omega) (by omega)).trans ((fw.1 k (by omega) (by omega) (by omega) (by omega)).trans (w0k k hk)))
  have aA : W3.2.1 = w.2.1 := lf.2.1.trans ((congrArg (fun x => x.1) fw.2).trans w0A)
  have aP : ∀ k, ¬ k = 0 → W3.2.2.1 k = w.2.2.1 k := fun k hk => (lf.2.2.1 k hk).trans ((congrArg (fun x => x.2.1 k) fw.2).trans (w0P k hk))
  have aR : W3.2.2.2 = w.2.2.2 := lf.2.2.2.trans ((congrArg (fun x => x.2.2) fw.2).trans w0R)
  have b2 : (mN M3 0).1 2 = m.1 2 := (lm.1 2 (by decide) (by decide) (by decide) (by decide) (by decide) (by decide) (by decide)).trans ((fm.1 2 (by decide) (by decide) (by decide) (by decide)).trans ((congrFun q1a 2).trans m02))
  have b12 : (mN M3 0).1 12 = m.1 12 := (lm.1 12 (by decide) (by decide) (by decide) (by decide) (by decide) (by decide) (by decide)).trans ((fm.1 12 (by decide) (by decide) (by decide) (by decide)).trans ((congrFun q1a 12).trans m012))
  have b3 : (mN M3 0).1 3 = 0 := (lm.1 3 (by decide) (by decide) (by decide) (by decide) (by decide) (by decide) (by decide)).trans ((fm.1 3 (by decide) (by decide) (by decide) (by decide)).trans ((congrFun q1a 3).trans m03))
  have bA : ∀ k, ¬ k = 1 → (mN M3 0).2.1 k = m.2.1 k := fun k hk => (lm.2.1 k hk).trans ((congrArg (fun x => x.1 k) fm.2).trans ((q1b k hk).trans (congrFun m0A k)))
  have hR2 : hz_R n (wS W3 0 0) (mN M3 0) := by
    refine ⟨ny, ns, nz, np, r, ⟨rfl, ?_⟩, ⟨hr, ?_⟩, ?_, ⟨cnt, old, o1, o2, by rw [aw 11 (by omega)]; exact o3, by rw [aw 12 (by omega)]; exact o4, by rw [b2]; exact o5, fun i hi => ?_⟩, ⟨0, by omega, ?_, ?_, fun j hj => absurd hj (by omega)⟩, ?_, ⟨C, c1, ?_, by rw [aw 16 (by omega)]; exact c3, by rw [b12]; exact c4, fun j hj => ?_⟩⟩
    · show hz_PR (W3.2.2.1 1) ((mN M3 0).2.1 0) ny ns nz np
      rw [aP 1 (by decide), bA 0 (by decide)]
      exact hP
    · show W3.2.2.2.2.1 = lN r ∧ ∀ q, q < 8192 → (lshr (W3.2.2.2.1 q) 20).toInt ≤ (r : Int)
      rw [aR]; exact hmo
    · unfold hz_RK hz_kn
      rw [aw 13 (by omega), aw 14 (by omega), aw 15 (by omega)]
      show w.1 13 = 0 ∨ (¬ w.1 13 = 0 ∧ ((∀ j, j < 14 → W3.2.1 3 j = (hz_B (W3.2.2.1 1) np).1 j) ∧ w.1 14 = nI (hz_B (W3.2.2.1 1) np).2.1 ∧ (w.1 15).toInt = (hz_B (W3.2.2.1 1) np).2.2))
      rw [aA, aP 1 (by decide)]
      exact hK
    · obtain ⟨x1, x2, x3, x4, hx⟩ := o6 i hi
      refine ⟨x1, x2, x3, x4, ?_⟩
      show hz_PR (W3.2.2.1 (3 + (old + i) % 10)) (fun j => (mN M3 0).2.1 6 (146 * i + j)) _ _ _ _
      rw [aP _ (by omega), bA 6 (by decide)]
      exact hx
    · rw [nI_0]; rfl
    · rw [nI_0]; exact b3
    · show W3.1 1 = M3.1 9 ∧ W3.1 2 = M3.1 10
      rcases lr with lr | ⟨lr1, lr2, -⟩
      · exact ⟨lr.2.1.symm, lr.2.2.symm⟩
      · exact ⟨lr1.trans lr2.symm, (lz lr1).trans (lq lr2).symm⟩
    · show hz_bb C W3.2.2.2.2.2
      rw [aR]; exact c2
    · show ∃ b, b < 128 ∧ W3.2.2.2.2.2.2.2 j = nI b ∧ (mN M3 0).2.1 8 j = nI b
      rw [aR, bA 8 (by decide)]
      exact c5 j hj
  have eC := hz_ldC w W2 W3 (by rw [eW0]; exact eW2) FC hFC eW3
  have eM := hz_ldM m M1 M2 M3 (by rw [eM0]; exact eM1) eM2 F FF hF hFF eM3
  have eS := hz_ldMs m M1 M2 M3 (by rw [eM0]; exact eM1) eM2 F FF hF hFF eM3 (by rw [eM0]; exact sM1) sA sL
  rcases lr with lr | ⟨lr1, lr2, ny1, ns1, nz1, np1, lr3⟩
  · have hb : fX7_good (mN M3 0) = 0 := hz_gB (m := mN M3 0) (hz_badM lr)
    rw [if_neg lr.1] at eC
    rw [if_pos hb] at eM
    rw [eC, eM]
    exact ⟨eS (fun c => absurd hb c), rfl, hz_Rup hR2 (by omega)⟩
  · have hb : ¬ fX7_good (mN M3 0) = 0 := by rw [hz_gG (m := mN M3 0) lr2]; decide
    rw [if_pos lr1] at eC
    rw [if_neg hb] at eM
    have hR2' := hR2
    obtain ⟨_, _, _, _, _, ⟨-, hP2⟩, -, -, hH2, -, -, -⟩ := hR2'
    obtain ⟨r1, ⟨r2, r3, r4⟩, ⟨r5, r6, r7, r8, r9⟩, -⟩ := hz_rmb hP2 hH2
    obtain ⟨x1, ⟨x2, x3, x4⟩, x5, -⟩ := hz_l97 FF 0 (fX7_remember (mN M3 0)) (by omega) hFf
    rw [nI_0] at x1 x2 x3 x4 x5
    obtain ⟨Y, eY⟩ : ∃ x, fX7_load_97 FF 0 (fX7_remember (mN M3 0)) = x := ⟨_, rfl⟩
    rw [eY] at x2 x3 x4 x5 eM
    have hPn : hz_PR (fX5_copyFrom ((fX6_beforeChange (wS W3 0 0)).2.2.1 1) ((fX6_beforeChange (wS W3 0 0)).2.2.1 0)) (Y.2.2.1 0) ny1 ns1 nz1 np1 := by
      refine hz_cp (f := M3.2.1 1) ?_ (fun j hj => ?_)
      · rw [r8 0 (by omega)]
        exact lr3
      · rw [x5 j (by omega) hj, r4 1 (by decide)]
        rfl
    have hch : hz_ch (fX7_remember (mN M3 0)) Y.2 := by
      have e0 : (fX7_remember (mN M3 0)).2.2 = 0 := r3
      refine ⟨x2, x3, fun k hk => ?_⟩
      rw [e0] at hk
      exact x4 k hk
    rw [eC, eM]
    refine ⟨eS (fun _ => ⟨r1, x1⟩), ?_, hz_Rup (hz_chg hR2 rfl hch hPn) (by omega)⟩
    exact hPn.1.2.2.2.trans hPn.2.2.1.2.2.2.symm
