/-! The piece's statement: both sides agree. -/
section HZZ
variable {L : Nat} {g : Nat → Nat} {w : Wd} {m : Md} {s q k ny ns nz np : Nat}
theorem hz_txQ {m1 : Md} (h : hz_tx L g w m) (b : hz_q1 m m1) : hz_tx L g w m1 := hz_txE h (hz_fcK (hz_ck0 w)) (hz_q1F b)
theorem hz_prsQ {m1 : Md} (h : hz_prs L g w m s q k) (b : hz_q1 m m1) : hz_prs L g w m1 s q k := by
  unfold hz_prs hz_tok at *
  rw [b.1]
  exact h
theorem hz_0ck {w w1 : Wd} (k : hz_ck w w1) (h : w1.1 1 = 0) : w.1 1 = 0 := by
  by_cases c : w.1 1 = 0
  · exact c
  · exact absurd ((k.2 c).1.symm.trans h) c
theorem hz_fuS (x : Int32) : ∃ n, fuU x 0 = n + 1 := ⟨_, rfl⟩
theorem hz_stP (h : hz_tx L g w m) (ho : hz_prs L g w m s q k) (h1 : m.2.2 = 1) (hP : hz_PR (w.2.2.1 0) (m.2.1 1) ny ns nz np) : sX7_parsePiece m ∧ hz_finS (fX7_parsePiece m) ∧ hz_fcD w (fX4_readPiece_6 w) ∧ hz_fmD m (hz_fin (fX7_parsePiece m)) ∧ (hz_bad (fX4_readPiece_6 w) (hz_fin (fX7_parsePiece m)) ∨ ∃ s1 q1 k1 np1, q ≤ s1 ∧ hz_prs L g (fX4_readPiece_6 w) (hz_fin (fX7_parsePiece m)) s1 q1 k1 ∧ hz_PR ((fX4_readPiece_6 w).2.2.1 0) ((hz_fin (fX7_parsePiece m)).2.1 1) ny ns nz np1) := by
  have hnp : np ≤ 14 := hP.2.1.2.2.2
  have hny : ny ≤ 6 := hP.2.1.1
  have hcn : (w.2.2.1 0).1 8 = nI np := hP.1.2.2.2
  have hcm : m.2.1 1 8 = nI np := hP.2.2.1.2.2.2
  obtain ⟨en1, en2, en3⟩ := hz_enter h ho h1 (N := np) (cap := 14) (z := 8) (by omega) hnp (by omega) hcm
  obtain ⟨r5, e5⟩ : ∃ r, fX4_startStatement w (if ((w.2.2.1 0).1 8) < 14 then 0 else 1) 5 = r := ⟨_, rfl⟩
  obtain ⟨r14, e14⟩ : ∃ r, fX4_takeKnownYarn_6 r5 (fX4_nameHere r5) = r := ⟨_, rfl⟩
  obtain ⟨r20, e20⟩ : ∃ r, fX4_readKind r14.2 = r := ⟨_, rfl⟩
  obtain ⟨r26, e26⟩ : ∃ r, fX4_readNumber r20.2 500 9999 = r := ⟨_, rfl⟩
  obtain ⟨r32, e32⟩ : ∃ r, fX4_readNumber r26.2 0 255 = r := ⟨_, rfl⟩
  obtain ⟨r62, e62⟩ : ∃ r, hz_xt r32.2 = r := ⟨_, rfl⟩
  obtain ⟨r68, e68⟩ : ∃ r, fX4_endStatement r62.2 = r := ⟨_, rfl⟩
  obtain ⟨M5, d5⟩ : ∃ r, fX7_enter m 8 14 = r := ⟨_, rfl⟩
  obtain ⟨M12, d12⟩ : ∃ r, fX7_nameHere M5 = r := ⟨_, rfl⟩
  obtain ⟨Y, dY⟩ : ∃ r, fX7_findIn M12.2 10 3 ((M5.2.1 (M5.2.2)) 5) M12.1 = r := ⟨_, rfl⟩
  obtain ⟨M27, d27⟩ : ∃ r, hz_pA M12.2 Y 4 = r := ⟨_, rfl⟩
  obtain ⟨M42, d42⟩ : ∃ r, hz_pA M27 (fX7_kindHere M27) 1 = r := ⟨_, rfl⟩
  obtain ⟨M49, d49⟩ : ∃ r, fX7_number M42 500 9999 = r := ⟨_, rfl⟩
  obtain ⟨M56, d56⟩ : ∃ r, fX7_number M49.2 0 255 = r := ⟨_, rfl⟩
  obtain ⟨M92, d92⟩ : ∃ r, hz_tm M56.2 = r := ⟨_, rfl⟩
  have k5 : hz_ck w r5 := e5 ▸ hz_ckS w _ 5
  have k14 : hz_ck r5 r14.2 := e14 ▸ hz_ckKY r5 _
  have k20 : hz_ck r14.2 r20.2 := e20 ▸ hz_ckK r14.2
  have k26 : hz_ck r20.2 r26.2 := e26 ▸ hz_ckN r20.2 500 9999
  have k32 : hz_ck r26.2 r32.2 := e32 ▸ hz_ckN r26.2 0 255
  have k62 : hz_ck r32.2 r62.2 := e62 ▸ hz_ckXt r32.2
  have k68 : hz_ck r62.2 r68 := e68 ▸ hz_ckE r62.2
  have k5z : hz_ck r5 r62.2 := hz_ckT k14 (hz_ckT k20 (hz_ckT k26 (hz_ckT k32 k62)))
  have kw62 : hz_ck w r62.2 := hz_ckT k5 k5z
  have kAll : hz_ck w r68 := hz_ckT kw62 k68
  obtain ⟨n62, hf62⟩ := hz_fuS r62.1
  obtain ⟨n92, hf92⟩ := hz_fuS M92.1
  have eC : fX7_parsePiece m = (fX7_parsePiece_117 M92.1 M56.1 M49.1 (fX7_kindHere M27) Y (n92 + 1) 0 M92.2).2 := by
    rw [hz_pP m M5 M12 Y d5 d12 dY, d27, d42]
    unfold hz_pC
    rw [d49, d56, d92, hf92]
  have eR : fX4_readPiece_6 w = (fX4_readPiece_6_85 r62.1 r32.1 r26.1 r20.1 r14.1 (n62 + 1) 0 r68).2 := by
    rw [hz_rP w r5 r68 r14 r20 r26 r32 r62 e5 e14 e20 e26 e32 e62 e68, hf62]
  have frC : hz_fcD w (fX4_readPiece_6 w) := by
    rw [eR]
    exact hz_fcT (hz_fcK kAll) (hz_p0F (hl_p0 _ _ _ _ _ _ _ r68))
  -- what stands before the end
  have main : sX7_enter m 8 14 ∧ sX7_nameHere M5 ∧ sX7_findIn M12.2 10 3 ((M5.2.1 (M5.2.2)) 5) M12.1 ∧ hz_pAS M12.2 Y 4 ∧ sX7_kindHere M27 ∧ hz_pAS M27 (fX7_kindHere M27) 1 ∧ sX7_number M42 500 9999 ∧ sX7_number M49.2 0 255 ∧ hz_tmS M56.2 ∧ hz_mf m M92.2 ∧ (hz_bad r62.2 M92.2 ∨ ∃ s1 q1 k1 ya kd va vb t, q ≤ s1 ∧ hz_prs L g r62.2 M92.2 s1 q1 k1 ∧ r14.1 = nI ya ∧ Y = nI ya ∧ ya < ny ∧ r20.1 = nI kd ∧ fX7_kindHere M27 = nI kd ∧ kd < 3 ∧ r26.1 = nI va ∧ M49.1 = nI va ∧ 500 ≤ va ∧ va ≤ 9999 ∧ r32.1 = nI vb ∧ M56.1 = nI vb ∧ vb ≤ 255 ∧ r62.1 = nI t ∧ M92.1 = nI t ∧ np + t ≤ 14) := by
    have d5' : fX7_enter m (nI 8) (nI 14) = M5 := d5
    by_cases c14 : np = 14
    · obtain ⟨x1, x2, x3⟩ := en2 c14
      have hM : M5 = fX7_fail m 5 := d5'.symm.trans x1
      have hb5 : hz_bad r5 M5 := by
        rw [hM, ← e5, hcn, if_neg (by rw [c14]; decide)]
        exact x2
      have hbm := hz_badM hb5
      have e12 : M12 = (0, M5) := by
        rw [← d12]
        exact if_pos (hz_gB hbm)
      have s12 : sX7_nameHere M5 := ⟨fun _ => trivial, fun h => absurd (hz_gB hbm) h⟩
      have e122 : M12.2 = M5 := by rw [e12]
      have hc5 : (M5.2.1 (M5.2.2)) 5 = nI ny := by
        rw [hM, x3.2, h1]
        exact hP.2.2.1.1
      have sf : sX7_findIn M12.2 10 3 ((M5.2.1 (M5.2.2)) 5) M12.1 := by
        rw [hc5]
        exact hz_fiS (z1 := 10) (z2 := 3) (N := ny) (by omega) (by omega)
      obtain ⟨a1, a2⟩ := hz_pAB hbm Y 4
      rw [e122, a2] at d27
      subst d27
      obtain ⟨b1, b2⟩ := hz_pAB hbm (fX7_kindHere M5) 1
      rw [b2] at d42
      subst d42
      obtain ⟨n1, n2⟩ := hz_numB hbm 500 9999
      have e49 : M49.2 = M5 := by rw [← d49, n2]
      obtain ⟨n3, n4⟩ := hz_numB hbm 0 255
      have e56 : M56.2 = M5 := by rw [← d56, e49, n4]
      obtain ⟨i1, i2⟩ := hz_itB hbm mq31 (by decide)
      have e92 : M92.2 = M5 := by rw [← d92, e56, show hz_tm M5 = (1, M5) from if_pos i2]
      refine ⟨en1, s12, sf, by rw [e122]; exact a1, hz_kindB hbm, b1, n1, by rw [e49]; exact n3, by rw [e56]; exact ⟨i1, fun h => absurd i2 h⟩, by rw [e92, hM]; exact x3, Or.inl ?_⟩
      rw [e92]
      exact hz_badC hb5 k5z
    · obtain ⟨x1, x2, s5, q5, k5', x3, x4⟩ := en3 (by omega)
      have hM : M5 = fX7_advance m := d5'.symm.trans x1
      rw [← hM] at x2 x4
      have x4' : hz_prs L g r5 M5 s5 q5 k5' := by
        rw [← e5, hcn, if_pos (show nI np < 14 from by
          show nI np < nI 14
          rw [nI_ltI (by omega) (by omega)]; omega)]
        exact x4
      have t5 : hz_tx L g r5 M5 := hz_txE h (hz_fcK k5) (hz_fmF x2)
      have h51 : M5.2.2 = 1 := by rw [x2.2]; exact h1
      have hP5 : hz_PR (r5.2.2.1 0) (M5.2.1 1) ny ns nz np := by rw [k5.1.2, x2.2]; exact hP
      have hsq5 : s5 ≤ q5 := x4'.2.2.2.2.2.2.2.2.1
      -- the yarn
      obtain ⟨y1, y2, y3, y4, y5⟩ := hz_yarnE t5 x4' h51 hP5 d12 dY
      rw [d27] at y4 y5
      rw [e14] at y5
      have t14 : hz_tx L g r14.2 M27 := hz_txE t5 (hz_fcK k14) (hz_fmF y4)
      have E14 : hz_either L g r14.2 M27 q := by
        rcases y5 with y5 | ⟨s1, q1, k1, a, a1, a2, a3⟩
        · exact Or.inl y5
        · exact Or.inr ⟨s1, q1, k1, by omega, a2⟩
      -- the kind
      obtain ⟨z1, z2, z3, z4⟩ := hz_kindE t14 E14
      rw [d42] at z3 z4
      rw [e20] at z4
      have t20 : hz_tx L g r20.2 M42 := hz_txE t14 (hz_fcK k20) (hz_fmF z3)
      have E20 : hz_either L g r20.2 M42 q := by
        rcases z4 with z4 | ⟨s1, q1, k1, c, a1, a2, a3⟩
        · exact Or.inl z4
        · exact Or.inr ⟨s1, q1, k1, a1, a2⟩
      -- the length
      obtain ⟨n1, n2, n3⟩ := hz_numE t20 E20 (a := 500) (b := 9999) (by omega) (by omega)
      have d49' : fX7_number M42 (nI 500) (nI 9999) = M49 := d49
      have e26' : fX4_readNumber r20.2 (nI 500) (nI 9999) = r26 := e26
      rw [d49', e26'] at n3
      rw [d49'] at n2
      have t26 : hz_tx L g r26.2 M49.2 := hz_txE t20 (hz_fcK k26) (hz_fmF n2)
      have E26 : hz_either L g r26.2 M49.2 q := by
        rcases n3 with n3 | ⟨s1, q1, k1, v, a1, a2, a3⟩
        · exact Or.inl n3
        · exact Or.inr ⟨s1, q1, k1, a1, a2⟩
      -- the shade
      obtain ⟨o1, o2, o3⟩ := hz_numE t26 E26 (a := 0) (b := 255) (by omega) (by omega)
      have d56' : fX7_number M49.2 (nI 0) (nI 255) = M56 := d56
      have e32' : fX4_readNumber r26.2 (nI 0) (nI 255) = r32 := e32
      rw [d56', e32'] at o3
      rw [d56'] at o2
      have t32 : hz_tx L g r32.2 M56.2 := hz_txE t26 (hz_fcK k32) (hz_fmF o2)
      have E32 : hz_either L g r32.2 M56.2 q := by
        rcases o3 with o3 | ⟨s1, q1, k1, v, a1, a2, a3⟩
        · exact Or.inl o3
        · exact Or.inr ⟨s1, q1, k1, a1, a2⟩
      -- how many
      have f56 : hz_mf m M56.2 := hz_mfT x2 (hz_mfT y4 (hz_mfT z3 (hz_mfT n2 o2)))
      have kw32 : hz_ck w r32.2 := hz_ckT k5 (hz_ckT k14 (hz_ckT k20 (hz_ckT k26 k32)))
      obtain ⟨p1, p2, p3⟩ := hz_timesE t32 E32 (np := np) (by rw [kw32.1.2]; exact hcn) (by rw [f56.2, h1]; exact hcm) (fun _ => by omega)
      rw [d92] at p2 p3
      rw [e62] at p3
      refine ⟨en1, y1, y2, y3, z1, z2, n1, o1, p1, hz_mfT f56 p2, ?_⟩
      rcases p3 with p3 | ⟨s1, q1, k1, t, a1, a2, a3, a4, a5⟩
      · exact Or.inl p3
      · right
        have z62 := a2.1
        have z32 := hz_0ck k62 z62
        have z26 := hz_0ck k32 z32
        have z20 := hz_0ck k26 z26
        have z14 := hz_0ck k20 z20
        rcases y5 with y5 | ⟨_, _, _, ya, _, _, b3, b4, b5⟩
        · exact absurd z14 y5.1
        rcases z4 with z4 | ⟨_, _, _, kd, _, _, c3, c4, c5⟩
        · exact absurd z20 z4.1
        rcases n3 with n3 | ⟨_, _, _, va, _, _, v3, v4, v5, v6⟩
        · exact absurd z26 n3.1
        rcases o3 with o3 | ⟨_, _, _, vb, _, _, u3, u4, u5, u6⟩
        · exact absurd z32 o3.1
        exact ⟨s1, q1, k1, ya, kd, va, vb, t, a1, a2, b3, b4, b5, c4, c5, c3, v3, v4, v5, v6, u3, u4, u6, a3, a4, a5⟩
  obtain ⟨m1, m2, m3, m4, m5, m6, m7, m8, m9, m10, m11⟩ := main
  have h92 : M92.2.2.2 = 1 := by rw [m10.2]; exact h1
  -- the rest, once the adding is known to be safe
  have safe : sX7_parsePiece_117 M92.1 M56.1 M49.1 (fX7_kindHere M27) Y (fuU M92.1 0) 0 M92.2 → sX7_parsePiece m := fun hs => by
    refine hz_pPs m M5 M12 Y d5 d12 dY m1 m2 m3 m4 ?_
    rw [d27]
    refine hz_pBSi m5 m6 ?_
    rw [d42]
    exact hz_pCSi Y (fX7_kindHere M27) M42 M49 M56 M92 d49 d56 d92 m7 m8 m9 hs
  rcases m11 with hb | ⟨s1, q1, k1, ya, kd, va, vb, t, a1, a2, b1, b2, b3, b4, b5, b6, b7, b8, b9, b10, b11, b12, b13, b14, b15, b16⟩
  · obtain ⟨l1, l2⟩ := hz_p117 M92.1 M56.1 M49.1 (fX7_kindHere M27) Y n92 0 (hz_gB (hz_badM hb))
    rw [l2] at eC
    obtain ⟨f1, f2⟩ := hz_finB (hz_badM hb)
    have hb2 := hz_badC hb k68
    refine ⟨safe (by rw [hf92]; exact l1), ?_, frC, ?_, Or.inl ?_⟩
    · rw [eC]; exact f2
    · rw [eC, f1]; exact hz_fmF m10
    · rw [eC, f1, eR, hz_p85 _ _ _ _ _ _ _ hb2.1]
      exact hb2
  · have hT : t < n92 + 1 ∧ t < n62 + 1 := by
      have x1 : fuU M92.1 0 = t + 1 := by rw [b15]; exact hz_fu0 (by omega)
      have x2 : fuU r62.1 0 = t + 1 := by rw [b14]; exact hz_fu0 (by omega)
      omega
    have hPz : hz_PR (r62.2.2.2.1 0) (M92.2.2.1 1) ny ns nz np := by rw [kw62.1.2, m10.2]; exact hP
    have rva : hz_rg 500 9999 (nI va) := ⟨by rw [nI_toInt (by omega)]; omega, by rw [nI_toInt (by omega)]; omega⟩
    have rvb : hz_rg 0 255 (nI vb) := ⟨by rw [nI_toInt (by omega)]; omega, by rw [nI_toInt (by omega)]; omega⟩
    obtain ⟨j1, j2, j3⟩ := hz_adds b3 b6 rva rvb (T := t) (by omega) t 0 (n62 + 1) (n92 + 1) np r62.2 M92.2 (by omega) hT.2 hT.1 a2.1 a2.2.1 h92 b16 hPz
    have i3 : r68.1 1 = 0 → hz_PR ((fX4_readPiece_6_85 (nI t) (nI vb) (nI va) (nI kd) (nI ya) (n62 + 1) (nI 0) r68).2.2.2.1 0) ((fX7_parsePiece_117 (nI t) (nI vb) (nI va) (nI kd) (nI ya) (n92 + 1) (nI 0) M92.2).2.2.1 1) ny ns nz (np + t) := fun hz68 => (hz_adds b3 b6 rva rvb (T := t) (by omega) t 0 (n62 + 1) (n92 + 1) np r68 M92.2 (by omega) hT.2 hT.1 hz68 a2.2.1 h92 b16 (by rw [k68.1.2]; exact hPz)).2.2
    rw [b15, b12, b8, b5, b2] at eC safe
    rw [nI_0] at j1 j2 i3
    have hf92' : fuU (nI t) 0 = n92 + 1 := by rw [← b15]; exact hf92
    have s1' := safe (by rw [hf92']; exact j1)
    obtain ⟨MR, eMR⟩ : ∃ r, fX7_parsePiece_117 (nI t) (nI vb) (nI va) (nI kd) (nI ya) (n92 + 1) 0 M92.2 = r := ⟨_, rfl⟩
    rw [eMR] at eC j2 i3
    have tx62 : hz_tx L g r62.2 M92.2 := hz_txE h (hz_fcK kw62) (hz_fmF m10)
    obtain ⟨p1, p2, p3⟩ := hz_end (hz_txQ tx62 j2) (hz_prsQ a2 j2)
    rw [e68] at p3
    rw [eC]
    refine ⟨s1', p1, frC, hz_fmT (hz_fmF m10) (hz_fmT (hz_q1F j2) (hz_fmF p2)), ?_⟩
    rcases p3 with p3 | ⟨s2, q2, k2, c1, c2⟩
    · left
      rw [eR, hz_p85 _ _ _ _ _ _ _ p3.1]
      exact p3
    · right
      refine ⟨s2, q2, k2, np + t, ?_, ?_, ?_⟩
      · have := a2.2.2.2.2.2.2.2.2.1
        omega
      · have pf := hl_p0 r62.1 r32.1 r26.1 r20.1 r14.1 (n62 + 1) 0 r68
        rw [eR]
        unfold hz_prs hz_tok at *
        rw [pf.1]
        exact c2
      · rw [eR, b14, b11, b7, b4, b1, p2.2]
        exact i3 c2.1
end HZZ
