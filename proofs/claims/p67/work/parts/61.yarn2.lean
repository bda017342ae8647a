/-! The yarn's statement: both sides agree. -/
section HZZ
variable {L : Nat} {g : Nat → Nat} {w : Wd} {m : Md} {s q k ny ns nz np : Nat}
theorem hz_stY (h : hz_tx L g w m) (ho : hz_prs L g w m s q k) (h1 : m.2.2 = 1) (hP : hz_PR (w.2.2.1 0) (m.2.1 1) ny ns nz np) : sX7_parseYarn m ∧ hz_finS (fX7_parseYarn m) ∧ hz_fcD w (fX4_readYarn_6 w) ∧ hz_fmD m (hz_fin (fX7_parseYarn m)) ∧ (hz_bad (fX4_readYarn_6 w) (hz_fin (fX7_parseYarn m)) ∨ ∃ s1 q1 k1 ny1, q ≤ s1 ∧ hz_prs L g (fX4_readYarn_6 w) (hz_fin (fX7_parseYarn m)) s1 q1 k1 ∧ hz_PR ((fX4_readYarn_6 w).2.2.1 0) ((hz_fin (fX7_parseYarn m)).2.1 1) ny1 ns nz np) := by
  have hny : ny ≤ 6 := hP.2.1.1
  have hcn : (w.2.2.1 0).1 0 = nI ny := hP.1.1
  have hcm : m.2.1 1 5 = nI ny := hP.2.2.1.1
  obtain ⟨en1, en2, en3⟩ := hz_enter h ho h1 (N := ny) (cap := 6) (z := 5) (by omega) hny (by omega) hcm
  obtain ⟨r5, e5⟩ : ∃ r, fX4_startStatement w (if ((w.2.2.1 0).1 0) < 6 then 0 else 1) 5 = r := ⟨_, rfl⟩
  obtain ⟨r14, e14⟩ : ∃ r, fX4_takeNewName_7 r5 (fX4_nameHere r5) ((r5.2.2.1 0).1 0) = r := ⟨_, rfl⟩
  obtain ⟨r20, e20⟩ : ∃ r, fX4_readNumber r14.2 1 100 = r := ⟨_, rfl⟩
  obtain ⟨r26, e26⟩ : ∃ r, fX4_readNumber r20.2 0 50 = r := ⟨_, rfl⟩
  obtain ⟨r32, e32⟩ : ∃ r, fX4_endStatement r26.2 = r := ⟨_, rfl⟩
  obtain ⟨M5, d5⟩ : ∃ r, fX7_enter m 5 6 = r := ⟨_, rfl⟩
  obtain ⟨M16, d16⟩ : ∃ r, fX7_newName M5 10 3 5 = r := ⟨_, rfl⟩
  obtain ⟨M23, d23⟩ : ∃ r, fX7_number M16.2 1 100 = r := ⟨_, rfl⟩
  obtain ⟨M29, d29⟩ : ∃ r, mA M23.2 (M16.2.2.2) (upd (M23.2.2.1 (M16.2.2.2)) (M16.1 + 1).toNatClampNeg M23.1) = r := ⟨_, rfl⟩
  obtain ⟨M36, d36⟩ : ∃ r, fX7_number M29 0 50 = r := ⟨_, rfl⟩
  obtain ⟨M42, d42⟩ : ∃ r, mA M36.2 (M29.2.2) (upd (M36.2.2.1 (M29.2.2)) (M16.1 + 2).toNatClampNeg M36.1) = r := ⟨_, rfl⟩
  have k5 : hz_ck w r5 := e5 ▸ hz_ckS w _ 5
  have k14 : hz_ck r5 r14.2 := e14 ▸ hz_ckT7 r5 _ _
  have k20 : hz_ck r14.2 r20.2 := e20 ▸ hz_ckN r14.2 1 100
  have k26 : hz_ck r20.2 r26.2 := e26 ▸ hz_ckN r20.2 0 50
  have k32 : hz_ck r26.2 r32 := e32 ▸ hz_ckE r26.2
  have kAll : hz_ck w r32 := hz_ckT k5 (hz_ckT k14 (hz_ckT k20 (hz_ckT k26 k32)))
  rw [hz_rY w r5 r32 r14 r20 r26 e5 e14 e20 e26 e32, hz_pY m M5 M29 M42 M16 M23 M36 d5 d16 d23 d29 d36 d42]
  have d5' : fX7_enter m (nI 5) (nI 6) = M5 := d5
  by_cases c6 : ny = 6
  · obtain ⟨x1, x2, x3⟩ := en2 c6
    have hM : M5 = fX7_fail m 5 := d5'.symm.trans x1
    have hb5 : hz_bad r5 M5 := by
      rw [hM, ← e5, hcn, if_neg (by rw [c6]; decide)]
      exact x2
    have hb : hz_bad r32 M5 := hz_badC hb5 (hz_ckT k14 (hz_ckT k20 (hz_ckT k26 k32)))
    have hg := hz_gB (hz_badM hb5)
    obtain ⟨f1, f2⟩ := hz_finB (hz_badM hb5)
    rw [if_pos hg, if_neg hb.1, f1]
    refine ⟨hz_pYs m M5 M29 M16 M23 M36 d5 d16 d23 d29 d36 en1 (fun hh => absurd hg hh), f2, hz_fcK kAll, ?_, Or.inl hb⟩
    rw [hM]; exact hz_fmF x3
  · obtain ⟨x1, x2, s5, q5, k5', x3, x4⟩ := en3 (by omega)
    have hM : M5 = fX7_advance m := d5'.symm.trans x1
    rw [← hM] at x2 x4
    have x4' : hz_prs L g r5 M5 s5 q5 k5' := by
      rw [← e5, hcn, if_pos (show nI ny < 6 from by
        show nI ny < nI 6
        rw [nI_ltI (by omega) (by omega)]; omega)]
      exact x4
    have hg : ¬ fX7_good M5 = 0 := by rw [hz_gG x4'.2.1]; decide
    have t5 : hz_tx L g r5 M5 := hz_txE h (hz_fcK k5) (hz_fmF x2)
    have h51 : M5.2.2 = 1 := by rw [x2.2]; exact h1
    have hP5 : hz_PR (r5.2.2.1 0) (M5.2.1 1) ny ns nz np := by rw [k5.1.2, x2.2]; exact hP
    obtain ⟨w1, w2, w3⟩ := hz_newName t5 x4' h51 (cap := 6) (N := ny) (z1 := 10) (z2 := 3) (z3 := 5) (A := (r5.2.2.1 0).2 0) (F := M5.2.1 1) rfl (by omega) (by omega) (by omega) (by omega) (by omega) hP5.2.2.1.1 (fun i hi => (hP5.2.2.2.2.2.1 i hi).1) (fun x => fX4_takeNewName_7 r5 x ((r5.2.2.1 0).1 0)) (fun x => by
      unfold fX4_takeNewName_7
      rw [hP5.1.1]
      simp only [hz_bnd])
    have d16' : fX7_newName M5 (nI 10) (nI 3) (nI 5) = M16 := d16
    rw [d16'] at w2 w3
    rw [e14] at w3
    have w1' : sX7_newName M5 10 3 5 := w1
    -- after the name
    have v1 : hz_fmD M5 M16.2 ∧ hz_either L g r14.2 M16.2 q ∧ (hz_bad r14.2 M16.2 ∨ ∃ y, hz_nm r14.1 y ∧ ∃ X : Md, X.2 = M5.2 ∧ M16.2.2 = (mA X 1 (upd (M5.2.1 1) (10 + 3 * ny) y)).2) := by
      have := x4'.2.2.2.2.2.2.2.2.1
      rcases w3 with ⟨b1, b2⟩ | ⟨s1, q1, k1, x, y, a1, a2, a3, a4, a5, a6⟩
      · exact ⟨hz_fmF b2, Or.inl b1, Or.inl b1⟩
      · generalize fX7_advance M5 = AD at *
        rw [a5]
        exact ⟨hz_fmT (hz_fmF a6) (hz_fmA _ _), Or.inr ⟨s1, q1, k1, by omega, a4⟩, Or.inr ⟨y, by rw [a2]; exact a3, AD, a6.2, rfl⟩⟩
    obtain ⟨v2, v3, v4⟩ := v1
    have t14 : hz_tx L g r14.2 M16.2 := hz_txE t5 (hz_fcK k14) v2
    obtain ⟨n1, n2, n3⟩ := hz_numE t14 v3 (a := 1) (b := 100) (by omega) (by omega)
    have d23' : fX7_number M16.2 (nI 1) (nI 100) = M23 := d23
    have e20' : fX4_readNumber r14.2 (nI 1) (nI 100) = r20 := e20
    rw [d23', e20'] at n3
    rw [d23'] at n2
    have h161 : M16.2.2.2 = 1 := by rw [v2.2.2]; exact h51
    have h231 : M23.2.2.2 = 1 := by rw [n2.2]; exact h161
    have q29 : M29 = mA M23.2 1 (upd (M23.2.2.1 1) (11 + 3 * ny) M23.1) := by
      rw [← d29, h161, w2, show nI (10 + 3 * ny) + 1 = nI (10 + 3 * ny + 1) from (nI_succ _).symm, nI_clamp (by omega), show 10 + 3 * ny + 1 = 11 + 3 * ny by omega]
    have f29 : hz_fmD M16.2 M29 := by rw [q29]; exact hz_fmT (hz_fmF n2) (hz_fmA _ _)
    have t20 : hz_tx L g r20.2 M29 := hz_txE t14 (hz_fcK k20) f29
    have v5 : hz_either L g r20.2 M29 q := by
      rw [q29]
      rcases n3 with n3 | ⟨s1, q1, k1, v, a1, a2, a3, a4, a5, a6⟩
      · exact Or.inl n3
      · exact Or.inr ⟨s1, q1, k1, a1, a2⟩
    obtain ⟨o1, o2, o3⟩ := hz_numE t20 v5 (a := 0) (b := 50) (by omega) (by omega)
    have d36' : fX7_number M29 (nI 0) (nI 50) = M36 := d36
    have e26' : fX4_readNumber r20.2 (nI 0) (nI 50) = r26 := e26
    rw [d36', e26'] at o3
    rw [d36'] at o2
    have h291 : M29.2.2 = 1 := by rw [f29.2.2]; exact h161
    have h361 : M36.2.2.2 = 1 := by rw [o2.2]; exact h291
    have q42 : M42 = mA M36.2 1 (upd (M36.2.2.1 1) (12 + 3 * ny) M36.1) := by
      rw [← d42, h291, w2, show nI (10 + 3 * ny) + 2 = nI (12 + 3 * ny) from by rw [show (2 : Int32) = nI 2 from rfl, nI_add, show 10 + 3 * ny + 2 = 12 + 3 * ny by omega], nI_clamp (by omega)]
    have hS : sX7_parseYarn m := hz_pYs m M5 M29 M16 M23 M36 d5 d16 d23 d29 d36 en1 (fun _ => ⟨w1', n1, h231.trans h161.symm, by rw [w2, show nI (10 + 3 * ny) + 1 = nI (10 + 3 * ny + 1) from (nI_succ _).symm]; exact vp_in_nI (by omega) (by omega), o1, h361.trans h291.symm, by rw [w2, show nI (10 + 3 * ny) + 2 = nI (12 + 3 * ny) from by rw [show (2 : Int32) = nI 2 from rfl, nI_add, show 10 + 3 * ny + 2 = 12 + 3 * ny by omega]]; exact vp_in_nI (by omega) (by omega)⟩)
    have h421 : M42.2.2 = 1 := by rw [q42]; exact h361
    obtain ⟨MF, qF⟩ : ∃ MF, mA M42 (M42.2.2) (upd (M42.2.1 (M42.2.2)) 5 (((M42.2.1 (M42.2.2)) 5) + 1)) = MF := ⟨_, rfl⟩
    rw [if_neg hg, qF]
    rw [h421] at qF
    have fF : hz_fmD M29 MF := by rw [← qF, q42]; exact hz_fmT (hz_fmF o2) (hz_fmT (hz_fmA _ _) (hz_fmA _ _))
    have fF0 : hz_fmD m MF := hz_fmT (hz_fmF x2) (hz_fmT v2 (hz_fmT f29 fF))
    have t26 : hz_tx L g r26.2 MF := hz_txE t20 (hz_fcK k26) fF
    have v6 : hz_either L g r26.2 MF q := by
      rw [← qF, q42]
      rcases o3 with o3 | ⟨s1, q1, k1, v, a1, a2, a3, a4, a5, a6⟩
      · exact Or.inl o3
      · exact Or.inr ⟨s1, q1, k1, a1, a2⟩
    obtain ⟨p1, p2, p3⟩ := hz_endE t26 v6
    rw [e32] at p3
    refine ⟨hS, p1, ?_, hz_fmT fF0 (hz_fmF p2), ?_⟩
    · by_cases ce : r32.1 1 = 0
      · rw [if_pos ce]
        simp only [hz_bnd]
        refine hz_fcT (hz_fcK kAll) ⟨fun _ _ _ _ _ _ _ => rfl, rfl, fun j hj => ?_, rfl⟩
        exact (if_neg hj).trans ((if_neg hj).trans ((if_neg hj).trans (if_neg hj)))
      · rw [if_neg ce]; exact hz_fcK kAll
    · rcases p3 with p3 | ⟨s1, q1, k1, a1, a2⟩
      · rw [if_neg p3.1]; exact Or.inl p3
      · right
        have ce : r32.1 1 = 0 := a2.1
        rw [if_pos ce]
        simp only [hz_bnd]
        refine ⟨s1, q1, k1, ny + 1, a1, a2, ?_⟩
        -- nothing was refused on the way
        have b26 : ¬ hz_bad r26.2 M36.2 := fun hh => (hz_badC hh k32).1 ce
        have b20 : ¬ hz_bad r20.2 M23.2 := fun hh => by
          have h2 := hh.1
          obtain ⟨u1, -⟩ := (hz_ckT k26 k32).2 h2
          exact h2 (u1.symm.trans ce)
        have b14 : ¬ hz_bad r14.2 M16.2 := fun hh => by
          have h2 := hh.1
          obtain ⟨u1, -⟩ := (hz_ckT k20 (hz_ckT k26 k32)).2 h2
          exact h2 (u1.symm.trans ce)
        rcases v4 with v4 | ⟨y, y1, X, y2, y3⟩
        · exact absurd v4 b14
        rcases n3 with n3 | ⟨_, _, _, va, _, _, va1, va2, va3, va4⟩
        · exact absurd n3 b20
        rcases o3 with o3 | ⟨_, _, _, vb, _, _, vb1, vb2, vb3, vb4⟩
        · exact absurd o3 b26
        have hr : r32.2 = w.2 := kAll.1.2
        have hrow : ∀ j, (hz_fin MF).2.1 1 j = upd (upd (upd (upd (m.2.1 1) (10 + 3 * ny) y) (11 + 3 * ny) (nI va)) (12 + 3 * ny) (nI vb)) 5 (nI (ny + 1)) j := fun j => by
          have z16 : M16.2.2.1 1 = upd (m.2.1 1) (10 + 3 * ny) y := by
            rw [y3]
            show upd (M5.2.1 1) (10 + 3 * ny) y = _
            rw [x2.2]
          have z29 : M29.2.1 1 = upd (upd (m.2.1 1) (10 + 3 * ny) y) (11 + 3 * ny) (nI va) := by
            rw [q29]
            show upd (M23.2.2.1 1) (11 + 3 * ny) M23.1 = _
            rw [n2.2, z16, va2]
          have z42 : M42.2.1 1 = upd (upd (upd (m.2.1 1) (10 + 3 * ny) y) (11 + 3 * ny) (nI va)) (12 + 3 * ny) (nI vb) := by
            rw [q42]
            show upd (M36.2.2.1 1) (12 + 3 * ny) M36.1 = _
            rw [o2.2, z29, vb2]
          rw [p2.2, ← qF]
          show upd (M42.2.1 1) 5 (((M42.2.1 1) 5) + 1) j = _
          rw [z42, pk_un (show ¬ 5 = 12 + 3 * ny by omega), pk_un (show ¬ 5 = 11 + 3 * ny by omega), pk_un (show ¬ 5 = 10 + 3 * ny by omega), hcm, ← nI_succ]
        refine hz_addY (p := w.2.2.1 0) (f := m.2.1 1) hP (by omega) (x := r14.1) (y := y) (a := nI va) (b := nI vb) y1 ⟨by rw [nI_toInt (by omega)]; omega, by rw [nI_toInt (by omega)]; omega⟩ ⟨by rw [nI_toInt (by omega)]; omega, by rw [nI_toInt (by omega)]; omega⟩ ?_ (fun j hj => ?_) ?_ ?_ ?_ (fun j hj => ?_) ?_ ?_ ?_ ?_ (fun j h5 hj => ?_)
        · show (r32.2.2.1 0).1 0 + 1 = _
          rw [hr, hcn, ← nI_succ]
        · show (if j = 0 then _ else (r32.2.2.1 0).1 j) = _
          rw [if_neg hj, hr]
        · show fX6_put 6 ((r32.2.2.1 0).2 0) ((r32.2.2.1 0).1 0) r14.1 = _
          rw [hr, hcn, hz_put _ _ (by omega) (by decide)]
        · show fX6_put 6 ((r32.2.2.1 0).2 1) ((r32.2.2.1 0).1 0) r20.1 = _
          rw [hr, hcn, hz_put _ _ (by omega) (by decide), va1]
        · show fX6_put 6 ((r32.2.2.1 0).2 2) ((r32.2.2.1 0).1 0) r26.1 = _
          rw [hr, hcn, hz_put _ _ (by omega) (by decide), vb1]
        · show (if j = 2 then _ else (if j = 1 then _ else (if j = 0 then _ else (r32.2.2.1 0).2 j))) = _
          rw [if_neg (by omega), if_neg (by omega), if_neg (by omega), hr]
        · rw [hrow, pk_us]
        · rw [hrow, pk_un (by omega), pk_un (by omega), pk_un (by omega), pk_us]
        · rw [hrow, pk_un (by omega), pk_un (by omega), pk_us]
        · rw [hrow, pk_un (by omega), pk_us]
        · rw [hrow, pk_un h5, pk_un (by omega), pk_un (by omega), pk_un (by omega)]
end HZZ
