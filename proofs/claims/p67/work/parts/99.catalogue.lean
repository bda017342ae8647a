/-! Reading a right text, the class alone: yarn, shape, size, piece. -/
theorem put_nI {n i : Nat} (f : Nat → Int32) (v : Int32) (hi : i < n) (hn : n < 100000) : fX6_put n f (nI i) v = upd f i v := by
  unfold fX6_put
  rw [if_neg (nI_pos (by omega)), if_neg (by rw [nI_leI (by omega) (by omega)]; omega), nI_clamp (by omega)]
theorem nm_ne {L : List Nat} (hL : hz_nmL L) : ¬ nI (hz_e5 L) = -1 := fun e => by
  have h := e5_lt hL
  have := congrArg Int32.toInt e
  rw [nI_toInt (by omega)] at this
  have h1 : (-1 : Int32).toInt = -1 := by decide
  rw [h1] at this
  omega
theorem nlt_32' (R : List Int32) : nlet (nI 32 :: R) := nlt_32 R
section RC
variable {T R : List Int32} {w : Wd}
theorem rs_yarn {X : List Int32} {L : List Nat} {i a b : Nat} (h : TW T w X (nI 32 :: (nmW L ++ (nI 32 :: (numB a ++ (nI 32 :: (numB b ++ (nI 59 :: R)))))))) (hc : w.1 1 = 0) (hi : i < 6) (hn : (w.2.2.1 0).1 0 = nI i) (hL : hz_nmL L) (hk : ∀ k, k ∈ kwL → ¬ nmW L = k) (hd : ∀ j, j < i → ¬ (w.2.2.1 0).2 0 j = nI (hz_e5 L)) (ha : 1 ≤ a ∧ a ≤ 100) (hb : 0 ≤ b ∧ b ≤ 50) : ∃ w1, fX4_readYarn_6 w = w1 ∧ NT T w1 R ∧ RF w w1 ∧ (∀ k, 8 ≤ k → k ≤ 10 → w1.1 k = w.1 k) ∧ (w1.2.2.1 0).1 0 = nI (i + 1) ∧ (∀ k, ¬ k = 0 → (w1.2.2.1 0).1 k = (w.2.2.1 0).1 k) ∧ (w1.2.2.1 0).2 0 = upd ((w.2.2.1 0).2 0) i (nI (hz_e5 L)) ∧ (w1.2.2.1 0).2 1 = upd ((w.2.2.1 0).2 1) i (nI a) ∧ (w1.2.2.1 0).2 2 = upd ((w.2.2.1 0).2 2) i (nI b) ∧ (∀ r, ¬ r = 0 → ¬ r = 1 → ¬ r = 2 → (w1.2.2.1 0).2 r = (w.2.2.1 0).2 r) := by
  obtain ⟨a1, f1⟩ := w_32 h.1 (nmW_L hL).1 (nmW_L hL).2 (nlt_32 _)
  have e5 : fX4_startStatement w (if ((w.2.2.1 0).1 0) < 6 then 0 else 1) 5 = fX4_advance w := by rw [hn, if_pos (by rw [show (6 : Int32) = nI 6 from rfl, nI_ltI (by omega) (by decide)]; exact hi)]; exact sS_0 w 5
  generalize hr5 : fX4_advance w = r5 at a1 f1 e5
  have p5 : r5.2 = w.2 := f1.2
  have en := nh_w hL hk a1
  obtain ⟨a2, f2⟩ := n_32 a1.1 (by omega) (ndg_32 _)
  have e14 : fX4_takeNewName_7 r5 (fX4_nameHere r5) ((r5.2.2.1 0).1 0) = (nI (hz_e5 L), fX4_advance r5) := by
    unfold fX4_takeNewName_7
    rw [en, if_neg (nm_ne hL), p5, hn, ix_no (by omega) (by decide) hd, if_pos rfl]
    rfl
  generalize hr14 : fX4_advance r5 = r14 at a2 f2 e14
  have e20 := sN_ok a2 (a := 1) (b := 100) ha.1 ha.2 (by decide)
  obtain ⟨a3, f3⟩ := n_32 a2.1 (by omega) (ndg_59 _)
  generalize hr20 : fX4_advance r14 = r20 at a3 f3 e20
  have e26 := sN_ok a3 (a := 0) (b := 50) hb.1 hb.2 (by decide)
  obtain ⟨a4, f4⟩ := y_59 a3.1
  generalize hr26 : fX4_advance r20 = r26 at a4 f4 e26
  have e32 := sE_ok a4
  have fE := adv_fw r26
  have hN : NT T (fX4_advance r26) R := ⟨r26, a4.1, fun _ _ _ => rfl, rfl⟩
  generalize hrE : fX4_advance r26 = rE at fE hN e32
  have er := hz_rY w r5 rE (nI (hz_e5 L), r14) (nI a, r20) (nI b, r26) e5 e14 e20 e26 e32
  have fA : hz_fw w rE := fw_T (fw_T (fw_T (fw_T f1 f2) (f3)) (f4)) fE
  have pE : rE.2 = w.2 := fA.2
  have cE : rE.1 1 = 0 := (fA.1 1 (by decide) (by decide) (by decide) (by decide)).trans hc
  rw [if_pos cE] at er
  have hnE : (rE.2.2.1 0).1 0 = nI i := by rw [pE]; exact hn
  refine ⟨_, er, ?_⟩
  simp only [bnd]
  refine ⟨?_, ?_, ?_, ?_, ?_, ?_, ?_, ?_, ?_⟩
  · obtain ⟨w0, b1, b2⟩ := hN
    exact ⟨w0, b1, b2.1, b2.2⟩
  · refine ⟨fun k hk => ?_, ?_, fun q hq => ?_, ?_⟩
    · exact (rf_fw fA).1 k hk
    · exact (rf_fw fA).2.1
    · have e := (rf_fw fA).2.2.1 q hq
      simp only [wP, if_neg hq]
      exact e
    · exact (rf_fw fA).2.2.2
  · exact fun k h1 h2 => fA.1 k (by omega) (by omega) (by omega) (by omega)
  · show (rE.2.2.1 0).1 0 + 1 = _
    rw [hnE, nI_1]
  · intro k hk
    rw [← pE]
    exact if_neg hk
  · rw [← pE]
    show fX6_put 6 _ ((rE.2.2.1 0).1 0) _ = _
    rw [hnE, put_nI _ _ (by omega) (by decide)]
  · rw [← pE]
    show fX6_put 6 _ ((rE.2.2.1 0).1 0) _ = _
    rw [hnE, put_nI _ _ (by omega) (by decide)]
    rfl
  · rw [← pE]
    show fX6_put 6 _ ((rE.2.2.1 0).1 0) _ = _
    rw [hnE, put_nI _ _ (by omega) (by decide)]
    rfl
  · intro r q0 q1 q2
    rw [← pE]
    simp only [wP, upS, upR, if_pos, if_neg q0, if_neg q1, if_neg q2]
theorem rs_shape {X : List Int32} {L : List Nat} {i a : Nat} (h : TW T w X (nI 32 :: (nmW L ++ (nI 32 :: (numB a ++ (nI 59 :: R)))))) (hc : w.1 1 = 0) (hi : i < 8) (hn : (w.2.2.1 0).1 1 = nI i) (hL : hz_nmL L) (hk : ∀ k, k ∈ kwL → ¬ nmW L = k) (hd : ∀ j, j < i → ¬ (w.2.2.1 0).2 3 j = nI (hz_e5 L)) (ha : 500 ≤ a ∧ a ≤ 9999) : ∃ w1, fX4_readShape_6 w = w1 ∧ NT T w1 R ∧ RF w w1 ∧ (∀ k, 8 ≤ k → k ≤ 10 → w1.1 k = w.1 k) ∧ (w1.2.2.1 0).1 1 = nI (i + 1) ∧ (∀ k, ¬ k = 1 → (w1.2.2.1 0).1 k = (w.2.2.1 0).1 k) ∧ (w1.2.2.1 0).2 3 = upd ((w.2.2.1 0).2 3) i (nI (hz_e5 L)) ∧ (w1.2.2.1 0).2 4 = upd ((w.2.2.1 0).2 4) i (nI a) ∧ (∀ r, ¬ r = 3 → ¬ r = 4 → (w1.2.2.1 0).2 r = (w.2.2.1 0).2 r) := by
  obtain ⟨a1, f1⟩ := w_32 h.1 (nmW_L hL).1 (nmW_L hL).2 (nlt_32 _)
  have e5 : fX4_startStatement w (if ((w.2.2.1 0).1 1) < 8 then 0 else 1) 5 = fX4_advance w := by rw [hn, if_pos (by rw [show (8 : Int32) = nI 8 from rfl, nI_ltI (by omega) (by decide)]; exact hi)]; exact sS_0 w 5
  generalize hr5 : fX4_advance w = r5 at a1 f1 e5
  have p5 : r5.2 = w.2 := f1.2
  have en := nh_w hL hk a1
  obtain ⟨a2, f2⟩ := n_32 a1.1 (by omega) (ndg_59 _)
  have e14 : fX4_takeNewName_10 r5 (fX4_nameHere r5) ((r5.2.2.1 0).1 1) = (nI (hz_e5 L), fX4_advance r5) := by
    unfold fX4_takeNewName_10
    rw [en, if_neg (nm_ne hL), p5, hn, ix_no (by omega) (by decide) hd, if_pos rfl]
    rfl
  generalize hr14 : fX4_advance r5 = r14 at a2 f2 e14
  have e20 := sN_ok a2 (a := 500) (b := 9999) ha.1 ha.2 (by decide)
  obtain ⟨a3, f3⟩ := y_59 a2.1
  generalize hr20 : fX4_advance r14 = r20 at a3 f3 e20
  have e26 := sE_ok a3
  have fE := adv_fw r20
  have hN : NT T (fX4_advance r20) R := ⟨r20, a3.1, fun _ _ _ => rfl, rfl⟩
  generalize hrE : fX4_advance r20 = rE at fE hN e26
  have er := hz_rS w r5 rE (nI (hz_e5 L), r14) (nI a, r20) e5 e14 e20 e26
  have fA : hz_fw w rE := fw_T (fw_T (fw_T f1 f2) (f3)) fE
  have pE : rE.2 = w.2 := fA.2
  have cE : rE.1 1 = 0 := (fA.1 1 (by decide) (by decide) (by decide) (by decide)).trans hc
  rw [if_pos cE] at er
  have hnE : (rE.2.2.1 0).1 1 = nI i := by rw [pE]; exact hn
  refine ⟨_, er, ?_⟩
  simp only [bnd]
  refine ⟨?_, ?_, ?_, ?_, ?_, ?_, ?_, ?_⟩
  · obtain ⟨w0, b1, b2⟩ := hN
    exact ⟨w0, b1, b2.1, b2.2⟩
  · refine ⟨fun k hk => ?_, ?_, fun q hq => ?_, ?_⟩
    · exact (rf_fw fA).1 k hk
    · exact (rf_fw fA).2.1
    · have e := (rf_fw fA).2.2.1 q hq
      simp only [wP, if_neg hq]
      exact e
    · exact (rf_fw fA).2.2.2
  · exact fun k h1 h2 => fA.1 k (by omega) (by omega) (by omega) (by omega)
  · show (rE.2.2.1 0).1 1 + 1 = _
    rw [hnE, nI_1]
  · intro k hk
    rw [← pE]
    exact if_neg hk
  · rw [← pE]
    show fX6_put 8 _ ((rE.2.2.1 0).1 1) _ = _
    rw [hnE, put_nI _ _ (by omega) (by decide)]
  · rw [← pE]
    show fX6_put 8 _ ((rE.2.2.1 0).1 1) _ = _
    rw [hnE, put_nI _ _ (by omega) (by decide)]
    rfl
  · intro r q3 q4
    rw [← pE]
    simp only [wP, upS, upR, if_pos, if_neg q3, if_neg q4]
theorem rs_size {X : List Int32} {L : List Nat} {i a b : Nat} (h : TW T w X (nI 32 :: (nmW L ++ (nI 32 :: (numB a ++ (nI 32 :: (numB b ++ (nI 59 :: R)))))))) (hc : w.1 1 = 0) (hi : i < 6) (hn : (w.2.2.1 0).1 2 = nI i) (hL : hz_nmL L) (hk : ∀ k, k ∈ kwL → ¬ nmW L = k) (hd : ∀ j, j < i → ¬ (w.2.2.1 0).2 5 j = nI (hz_e5 L)) (ha : 500 ≤ a ∧ a ≤ 9999) (hb : a ≤ b ∧ b ≤ 9999) : ∃ w1, fX4_readSize_6 w = w1 ∧ NT T w1 R ∧ RF w w1 ∧ (∀ k, 8 ≤ k → k ≤ 10 → w1.1 k = w.1 k) ∧ (w1.2.2.1 0).1 2 = nI (i + 1) ∧ (∀ k, ¬ k = 2 → (w1.2.2.1 0).1 k = (w.2.2.1 0).1 k) ∧ (w1.2.2.1 0).2 5 = upd ((w.2.2.1 0).2 5) i (nI (hz_e5 L)) ∧ (w1.2.2.1 0).2 6 = upd ((w.2.2.1 0).2 6) i (nI a) ∧ (w1.2.2.1 0).2 7 = upd ((w.2.2.1 0).2 7) i (nI b) ∧ (∀ r, ¬ r = 5 → ¬ r = 6 → ¬ r = 7 → (w1.2.2.1 0).2 r = (w.2.2.1 0).2 r) := by
  obtain ⟨a1, f1⟩ := w_32 h.1 (nmW_L hL).1 (nmW_L hL).2 (nlt_32 _)
  have e5 : fX4_startStatement w (if ((w.2.2.1 0).1 2) < 6 then 0 else 1) 5 = fX4_advance w := by rw [hn, if_pos (by rw [show (6 : Int32) = nI 6 from rfl, nI_ltI (by omega) (by decide)]; exact hi)]; exact sS_0 w 5
  generalize hr5 : fX4_advance w = r5 at a1 f1 e5
  have p5 : r5.2 = w.2 := f1.2
  have en := nh_w hL hk a1
  obtain ⟨a2, f2⟩ := n_32 a1.1 (by omega) (ndg_32 _)
  have e14 : fX4_takeNewName_12 r5 (fX4_nameHere r5) ((r5.2.2.1 0).1 2) = (nI (hz_e5 L), fX4_advance r5) := by
    unfold fX4_takeNewName_12
    rw [en, if_neg (nm_ne hL), p5, hn, ix_no (by omega) (by decide) hd, if_pos rfl]
    rfl
  generalize hr14 : fX4_advance r5 = r14 at a2 f2 e14
  have e20 := sN_ok a2 (a := 500) (b := 9999) ha.1 ha.2 (by decide)
  obtain ⟨a3, f3⟩ := n_32 a2.1 (by omega) (ndg_59 _)
  generalize hr20 : fX4_advance r14 = r20 at a3 f3 e20
  have e26 := sN_ok a3 (a := a) (b := 9999) hb.1 hb.2 (by decide)
  obtain ⟨a4, f4⟩ := y_59 a3.1
  generalize hr26 : fX4_advance r20 = r26 at a4 f4 e26
  have e32 := sE_ok a4
  have fE := adv_fw r26
  have hN : NT T (fX4_advance r26) R := ⟨r26, a4.1, fun _ _ _ => rfl, rfl⟩
  generalize hrE : fX4_advance r26 = rE at fE hN e32
  have er := hz_rZ w r5 rE (nI (hz_e5 L), r14) (nI a, r20) (nI b, r26) e5 e14 e20 e26 e32
  have fA : hz_fw w rE := fw_T (fw_T (fw_T (fw_T f1 f2) (f3)) (f4)) fE
  have pE : rE.2 = w.2 := fA.2
  have cE : rE.1 1 = 0 := (fA.1 1 (by decide) (by decide) (by decide) (by decide)).trans hc
  rw [if_pos cE] at er
  have hnE : (rE.2.2.1 0).1 2 = nI i := by rw [pE]; exact hn
  refine ⟨_, er, ?_⟩
  simp only [bnd]
  refine ⟨?_, ?_, ?_, ?_, ?_, ?_, ?_, ?_, ?_⟩
  · obtain ⟨w0, b1, b2⟩ := hN
    exact ⟨w0, b1, b2.1, b2.2⟩
  · refine ⟨fun k hk => ?_, ?_, fun q hq => ?_, ?_⟩
    · exact (rf_fw fA).1 k hk
    · exact (rf_fw fA).2.1
    · have e := (rf_fw fA).2.2.1 q hq
      simp only [wP, if_neg hq]
      exact e
    · exact (rf_fw fA).2.2.2
  · exact fun k h1 h2 => fA.1 k (by omega) (by omega) (by omega) (by omega)
  · show (rE.2.2.1 0).1 2 + 1 = _
    rw [hnE, nI_1]
  · intro k hk
    rw [← pE]
    exact if_neg hk
  · rw [← pE]
    show fX6_put 6 _ ((rE.2.2.1 0).1 2) _ = _
    rw [hnE, put_nI _ _ (by omega) (by decide)]
  · rw [← pE]
    show fX6_put 6 _ ((rE.2.2.1 0).1 2) _ = _
    rw [hnE, put_nI _ _ (by omega) (by decide)]
    rfl
  · rw [← pE]
    show fX6_put 6 _ ((rE.2.2.1 0).1 2) _ = _
    rw [hnE, put_nI _ _ (by omega) (by decide)]
    rfl
  · intro r q5 q6 q7
    rw [← pE]
    simp only [wP, upS, upR, if_pos, if_neg q5, if_neg q6, if_neg q7]
end RC
