/-! The size's statement: both sides agree. -/
theorem hz_numE2 {L : Nat} {g : Nat → Nat} {w : Wd} {m : Md} {p : Nat} {z z2 : Int32} (h : hz_tx L g w m) (hE : hz_bad w m ∨ ∃ a, a ≤ 9999 ∧ z = nI a ∧ z2 = nI a ∧ ∃ s q k, p ≤ s ∧ hz_prs L g w m s q k) : sX7_number m z2 9999 ∧ hz_mf m (fX7_number m z2 9999).2 ∧ (hz_bad (fX4_readNumber w z 9999).2 (fX7_number m z2 9999).2 ∨ ∃ s q k v a, p ≤ s ∧ hz_prs L g (fX4_readNumber w z 9999).2 (fX7_number m z2 9999).2 s q k ∧ (fX4_readNumber w z 9999).1 = nI v ∧ (fX7_number m z2 9999).1 = nI v ∧ z = nI a ∧ a ≤ v ∧ v ≤ 9999) := by
  rcases hE with hB | ⟨a, ha, rfl, rfl, s, q, k, hp, ho⟩
  · obtain ⟨n1, n2⟩ := hz_numB (hz_badM hB) z2 9999
    refine ⟨n1, ?_, Or.inl ?_⟩
    · rw [n2]; exact hz_mf0 m
    · rw [n2]; exact hz_badC hB (hz_ckN w _ _)
  · obtain ⟨n1, n2, n3⟩ := hz_num h ho (a := a) (b := 9999) (by omega) (by omega)
    have e9 : nI 9999 = 9999 := rfl
    rw [e9] at n1 n2 n3
    refine ⟨n1, n2, ?_⟩
    rcases n3 with n3 | ⟨s1, q1, k1, v, v1, v2, v3, v4, v5, v6⟩
    · exact Or.inl n3
    · have := ho.2.2.2.2.2.2.2.2.1
      exact Or.inr ⟨s1, q1, k1, v, a, by omega, v2, v3, v4, rfl, v5, v6⟩
theorem hz_pZ (m r5 r29 r42 : Md) (r16 r23 r36 : Int32 × Md) (e5 : fX7_enter m 7 6 = r5) (e16 : fX7_newName r5 44 3 7 = r16) (e23 : fX7_number r16.2 500 9999 = r23) (e29 : mA r23.2 (r16.2.2.2) (upd (r23.2.2.1 (r16.2.2.2)) (r16.1 + 1).toNatClampNeg r23.1) = r29) (e36 : fX7_number r29 ((r29.2.1 (r29.2.2)) (r16.1 + 1).toNatClampNeg) 9999 = r36) (e42 : mA r36.2 (r29.2.2) (upd (r36.2.2.1 (r29.2.2)) (r16.1 + 2).toNatClampNeg r36.1) = r42) : fX7_parseSize m = (if (fX7_good r5) = 0 then r5 else mA r42 (r42.2.2) (upd (r42.2.1 (r42.2.2)) 7 (((r42.2.1 (r42.2.2)) 7) + 1))) := by
  subst e42; subst e36; subst e29; subst e23; subst e16; subst e5
  unfold fX7_parseSize
  simp only [hz_bid]
  simp only [hz_bnd, hz_sl]
theorem hz_pZs (m r5 r29 : Md) (r16 r23 r36 : Int32 × Md) (e5 : fX7_enter m 7 6 = r5) (e16 : fX7_newName r5 44 3 7 = r16) (e23 : fX7_number r16.2 500 9999 = r23) (e29 : mA r23.2 (r16.2.2.2) (upd (r23.2.2.1 (r16.2.2.2)) (r16.1 + 1).toNatClampNeg r23.1) = r29) (e36 : fX7_number r29 ((r29.2.1 (r29.2.2)) (r16.1 + 1).toNatClampNeg) 9999 = r36) (s5 : sX7_enter m 7 6) (hs : ¬ fX7_good r5 = 0 → sX7_newName r5 44 3 7 ∧ sX7_number r16.2 500 9999 ∧ r23.2.2.2 = r16.2.2.2 ∧ vp_in (r16.1 + 1) 146 ∧ sX7_number r29 ((r29.2.1 (r29.2.2)) (r16.1 + 1).toNatClampNeg) 9999 ∧ r36.2.2.2 = r29.2.2 ∧ vp_in (r16.1 + 2) 146) : sX7_parseSize m := by
  subst e36; subst e29; subst e23; subst e16; subst e5
  unfold sX7_parseSize
  simp only [hz_bnd, hz_sl]
  refine ⟨s5, fun _ => trivial, fun hg => ?_⟩
  obtain ⟨h1, h2, h3, h4, h5, h6, h7⟩ := hs hg
  exact ⟨h1, hz_slS h2, h3, h4, h4, hz_slS h5, h6, h7, trivial⟩
theorem hz_rZ (w r5 r32 : Wd) (r14 r20 r26 : Int32 × Wd) (e5 : fX4_startStatement w (if ((w.2.2.1 0).1 2) < 6 then 0 else 1) 5 = r5) (e14 : fX4_takeNewName_12 r5 (fX4_nameHere r5) ((r5.2.2.1 0).1 2) = r14) (e20 : fX4_readNumber r14.2 500 9999 = r20) (e26 : fX4_readNumber r20.2 r20.1 9999 = r26) (e32 : fX4_endStatement r26.2 = r32) : fX4_readSize_6 w = (if (r32.1 1) = 0 then (bnd (wP (wP r32 0 (upR (r32.2.2.1 0) 5 (fX6_put 6 ((r32.2.2.1 0).2 5) ((r32.2.2.1 0).1 2) r14.1))) 0 (upR (upR (r32.2.2.1 0) 5 (fX6_put 6 ((r32.2.2.1 0).2 5) ((r32.2.2.1 0).1 2) r14.1)) 6 (fX6_put 6 ((upR (r32.2.2.1 0) 5 (fX6_put 6 ((r32.2.2.1 0).2 5) ((r32.2.2.1 0).1 2) r14.1)).2 6) ((upR (r32.2.2.1 0) 5 (fX6_put 6 ((r32.2.2.1 0).2 5) ((r32.2.2.1 0).1 2) r14.1)).1 2) r20.1))) (fun r44 => (bnd (wP (wP r44 0 (upR (r44.2.2.1 0) 7 (fX6_put 6 ((r44.2.2.1 0).2 7) ((r44.2.2.1 0).1 2) r26.1))) 0 (upS (upR (r44.2.2.1 0) 7 (fX6_put 6 ((r44.2.2.1 0).2 7) ((r44.2.2.1 0).1 2) r26.1)) 2 (((upR (r44.2.2.1 0) 7 (fX6_put 6 ((r44.2.2.1 0).2 7) ((r44.2.2.1 0).1 2) r26.1)).1 2) + 1))) (fun r52 => r52)))) else r32) := by
  subst e32; subst e26; subst e20; subst e14; subst e5
  unfold fX4_readSize_6
  by_cases c : ((w.2.2.1 0).1 2) < 6
  · rw [if_pos c, if_pos c]
    simp only [hz_bnd]
  · rw [if_neg c, if_neg c]
    simp only [hz_bnd]
section HZZ
variable {L : Nat} {g : Nat → Nat} {w : Wd} {m : Md} {s q k ny ns nz np : Nat}
theorem hz_stZ (h : hz_tx L g w m) (ho : hz_prs L g w m s q k) (h1 : m.2.2 = 1) (hP : hz_PR (w.2.2.1 0) (m.2.1 1) ny ns nz np) : sX7_parseSize m ∧ hz_finS (fX7_parseSize m) ∧ hz_fcD w (fX4_readSize_6 w) ∧ hz_fmD m (hz_fin (fX7_parseSize m)) ∧ (hz_bad (fX4_readSize_6 w) (hz_fin (fX7_parseSize m)) ∨ ∃ s1 q1 k1 nz1, q ≤ s1 ∧ hz_prs L g (fX4_readSize_6 w) (hz_fin (fX7_parseSize m)) s1 q1 k1 ∧ hz_PR ((fX4_readSize_6 w).2.2.1 0) ((hz_fin (fX7_parseSize m)).2.1 1) ny ns nz1 np) := by
  have hny : nz ≤ 6 := hP.2.1.2.2.1
  have hcn : (w.2.2.1 0).1 2 = nI nz := hP.1.2.2.1
  have hcm : m.2.1 1 7 = nI nz := hP.2.2.1.2.2.1
  obtain ⟨en1, en2, en3⟩ := hz_enter h ho h1 (N := nz) (cap := 6) (z := 7) (by omega) hny (by omega) hcm
  obtain ⟨r5, e5⟩ : ∃ r, fX4_startStatement w (if ((w.2.2.1 0).1 2) < 6 then 0 else 1) 5 = r := ⟨_, rfl⟩
  obtain ⟨r14, e14⟩ : ∃ r, fX4_takeNewName_12 r5 (fX4_nameHere r5) ((r5.2.2.1 0).1 2) = r := ⟨_, rfl⟩
  obtain ⟨r20, e20⟩ : ∃ r, fX4_readNumber r14.2 500 9999 = r := ⟨_, rfl⟩
  obtain ⟨r26, e26⟩ : ∃ r, fX4_readNumber r20.2 r20.1 9999 = r := ⟨_, rfl⟩
  obtain ⟨r32, e32⟩ : ∃ r, fX4_endStatement r26.2 = r := ⟨_, rfl⟩
  obtain ⟨M5, d5⟩ : ∃ r, fX7_enter m 7 6 = r := ⟨_, rfl⟩
  obtain ⟨M16, d16⟩ : ∃ r, fX7_newName M5 44 3 7 = r := ⟨_, rfl⟩
  obtain ⟨M23, d23⟩ : ∃ r, fX7_number M16.2 500 9999 = r := ⟨_, rfl⟩
  obtain ⟨M29, d29⟩ : ∃ r, mA M23.2 (M16.2.2.2) (upd (M23.2.2.1 (M16.2.2.2)) (M16.1 + 1).toNatClampNeg M23.1) = r := ⟨_, rfl⟩
  obtain ⟨M36, d36⟩ : ∃ r, fX7_number M29 ((M29.2.1 (M29.2.2)) (M16.1 + 1).toNatClampNeg) 9999 = r := ⟨_, rfl⟩
  obtain ⟨M42, d42⟩ : ∃ r, mA M36.2 (M29.2.2) (upd (M36.2.2.1 (M29.2.2)) (M16.1 + 2).toNatClampNeg M36.1) = r := ⟨_, rfl⟩
  have k5 : hz_ck w r5 := e5 ▸ hz_ckS w _ 5
  have k14 : hz_ck r5 r14.2 := e14 ▸ hz_ckT12 r5 _ _
  have k20 : hz_ck r14.2 r20.2 := e20 ▸ hz_ckN r14.2 500 9999
  have k26 : hz_ck r20.2 r26.2 := e26 ▸ hz_ckN r20.2 r20.1 9999
  have k32 : hz_ck r26.2 r32 := e32 ▸ hz_ckE r26.2
  have kAll : hz_ck w r32 := hz_ckT k5 (hz_ckT k14 (hz_ckT k20 (hz_ckT k26 k32)))
  rw [hz_rZ w r5 r32 r14 r20 r26 e5 e14 e20 e26 e32, hz_pZ m M5 M29 M42 M16 M23 M36 d5 d16 d23 d29 d36 d42]
  have d5' : fX7_enter m (nI 7) (nI 6) = M5 := d5
  by_cases c6 : nz = 6
  · obtain ⟨x1, x2, x3⟩ := en2 c6
    have hM : M5 = fX7_fail m 5 := d5'.symm.trans x1
    have hb5 : hz_bad r5 M5 := by
      rw [hM, ← e5, hcn, if_neg (by rw [c6]; decide)]
      exact x2
    have hb : hz_bad r32 M5 := hz_badC hb5 (hz_ckT k14 (hz_ckT k20 (hz_ckT k26 k32)))
    have hg := hz_gB (hz_badM hb5)
    obtain ⟨f1, f2⟩ := hz_finB (hz_badM hb5)
    rw [if_pos hg, if_neg hb.1, f1]
    refine ⟨hz_pZs m M5 M29 M16 M23 M36 d5 d16 d23 d29 d36 en1 (fun hh => absurd hg hh), f2, hz_fcK kAll, ?_, Or.inl hb⟩
    rw [hM]; exact hz_fmF x3
  · obtain ⟨x1, x2, s5, q5, k5', x3, x4⟩ := en3 (by omega)
    have hM : M5 = fX7_advance m := d5'.symm.trans x1
    rw [← hM] at x2 x4
    have x4' : hz_prs L g r5 M5 s5 q5 k5' := by
      rw [← e5, hcn, if_pos (show nI nz < 6 from by
        show nI nz < nI 6
        rw [nI_ltI (by omega) (by omega)]; omega)]
      exact x4
    have hg : ¬ fX7_good M5 = 0 := by rw [hz_gG x4'.2.1]; decide
    have t5 : hz_tx L g r5 M5 := hz_txE h (hz_fcK k5) (hz_fmF x2)
    have h51 : M5.2.2 = 1 := by rw [x2.2]; exact h1
    have hP5 : hz_PR (r5.2.2.1 0) (M5.2.1 1) ny ns nz np := by rw [k5.1.2, x2.2]; exact hP
    obtain ⟨w1, w2, w3⟩ := hz_newName t5 x4' h51 (cap := 6) (N := nz) (z1 := 44) (z2 := 3) (z3 := 7) (A := (r5.2.2.1 0).2 5) (F := M5.2.1 1) rfl (by omega) (by omega) (by omega) (by omega) (by omega) hP5.2.2.1.2.2.1 (fun i hi => (hP5.2.2.2.2.2.2.2.1 i hi).1) (fun x => fX4_takeNewName_12 r5 x ((r5.2.2.1 0).1 2)) (fun x => by
      unfold fX4_takeNewName_12
      rw [hP5.1.2.2.1]
      simp only [hz_bnd])
    have d16' : fX7_newName M5 (nI 44) (nI 3) (nI 7) = M16 := d16
    rw [d16'] at w2 w3
    rw [e14] at w3
    have w1' : sX7_newName M5 44 3 7 := w1
    -- after the name
    have v1 : hz_fmD M5 M16.2 ∧ hz_either L g r14.2 M16.2 q ∧ (hz_bad r14.2 M16.2 ∨ ∃ y, hz_nm r14.1 y ∧ ∃ X : Md, X.2 = M5.2 ∧ M16.2.2 = (mA X 1 (upd (M5.2.1 1) (44 + 3 * nz) y)).2) := by
      have := x4'.2.2.2.2.2.2.2.2.1
      rcases w3 with ⟨b1, b2⟩ | ⟨s1, q1, k1, x, y, a1, a2, a3, a4, a5, a6⟩
      · exact ⟨hz_fmF b2, Or.inl b1, Or.inl b1⟩
      · generalize fX7_advance M5 = AD at *
        rw [a5]
        exact ⟨hz_fmT (hz_fmF a6) (hz_fmA _ _), Or.inr ⟨s1, q1, k1, by omega, a4⟩, Or.inr ⟨y, by rw [a2]; exact a3, AD, a6.2, rfl⟩⟩
    obtain ⟨v2, v3, v4⟩ := v1
    have t14 : hz_tx L g r14.2 M16.2 := hz_txE t5 (hz_fcK k14) v2
    obtain ⟨n1, n2, n3⟩ := hz_numE t14 v3 (a := 500) (b := 9999) (by omega) (by omega)
    have d23' : fX7_number M16.2 (nI 500) (nI 9999) = M23 := d23
    have e20' : fX4_readNumber r14.2 (nI 500) (nI 9999) = r20 := e20
    rw [d23', e20'] at n3
    rw [d23'] at n2
    have h161 : M16.2.2.2 = 1 := by rw [v2.2.2]; exact h51
    have h231 : M23.2.2.2 = 1 := by rw [n2.2]; exact h161
    have q29 : M29 = mA M23.2 1 (upd (M23.2.2.1 1) (45 + 3 * nz) M23.1) := by
      rw [← d29, h161, w2, show nI (44 + 3 * nz) + 1 = nI (44 + 3 * nz + 1) from (nI_succ _).symm, nI_clamp (by omega), show 44 + 3 * nz + 1 = 45 + 3 * nz by omega]
    have f29 : hz_fmD M16.2 M29 := by rw [q29]; exact hz_fmT (hz_fmF n2) (hz_fmA _ _)
    have t20 : hz_tx L g r20.2 M29 := hz_txE t14 (hz_fcK k20) f29
    have v5 : hz_either L g r20.2 M29 q := by
      rw [q29]
      rcases n3 with n3 | ⟨s1, q1, k1, v, a1, a2, a3, a4, a5, a6⟩
      · exact Or.inl n3
      · exact Or.inr ⟨s1, q1, k1, a1, a2⟩
    have hz29 : (M29.2.1 (M29.2.2)) (M16.1 + 1).toNatClampNeg = M23.1 := by
      rw [f29.2.2, h161, w2, show nI (44 + 3 * nz) + 1 = nI (44 + 3 * nz + 1) from (nI_succ _).symm, nI_clamp (by omega), show 44 + 3 * nz + 1 = 45 + 3 * nz by omega, q29]
      exact pk_us ..
    rw [hz29] at d36
    have v7 : hz_bad r20.2 M29 ∨ ∃ a, a ≤ 9999 ∧ r20.1 = nI a ∧ M23.1 = nI a ∧ ∃ s q0 k, q ≤ s ∧ hz_prs L g r20.2 M29 s q0 k := by
      rw [q29]
      rcases n3 with n3 | ⟨s1, q1, k1, v, a1, a2, a3, a4, a5, a6⟩
      · exact Or.inl n3
      · exact Or.inr ⟨v, a6, a3, a4, s1, q1, k1, a1, a2⟩
    obtain ⟨o1, o2, o3⟩ := hz_numE2 t20 v7
    rw [d36, e26] at o3
    rw [d36] at o2
    have h291 : M29.2.2 = 1 := by rw [f29.2.2]; exact h161
    have h361 : M36.2.2.2 = 1 := by rw [o2.2]; exact h291
    have q42 : M42 = mA M36.2 1 (upd (M36.2.2.1 1) (46 + 3 * nz) M36.1) := by
      rw [← d42, h291, w2, show nI (44 + 3 * nz) + 2 = nI (46 + 3 * nz) from by rw [show (2 : Int32) = nI 2 from rfl, nI_add, show 44 + 3 * nz + 2 = 46 + 3 * nz by omega], nI_clamp (by omega)]
    have hS : sX7_parseSize m := hz_pZs m M5 M29 M16 M23 M36 d5 d16 d23 d29 (by rw [hz29]; exact d36) en1 (fun _ => ⟨w1', n1, h231.trans h161.symm, by rw [w2, show nI (44 + 3 * nz) + 1 = nI (44 + 3 * nz + 1) from (nI_succ _).symm]; exact vp_in_nI (by omega) (by omega), by rw [hz29]; exact o1, h361.trans h291.symm, by rw [w2, show nI (44 + 3 * nz) + 2 = nI (46 + 3 * nz) from by rw [show (2 : Int32) = nI 2 from rfl, nI_add, show 44 + 3 * nz + 2 = 46 + 3 * nz by omega]]; exact vp_in_nI (by omega) (by omega)⟩)
    have h421 : M42.2.2 = 1 := by rw [q42]; exact h361
    obtain ⟨MF, qF⟩ : ∃ MF, mA M42 (M42.2.2) (upd (M42.2.1 (M42.2.2)) 7 (((M42.2.1 (M42.2.2)) 7) + 1)) = MF := ⟨_, rfl⟩
    rw [if_neg hg, qF]
    rw [h421] at qF
    have fF : hz_fmD M29 MF := by rw [← qF, q42]; exact hz_fmT (hz_fmF o2) (hz_fmT (hz_fmA _ _) (hz_fmA _ _))
    have fF0 : hz_fmD m MF := hz_fmT (hz_fmF x2) (hz_fmT v2 (hz_fmT f29 fF))
    have t26 : hz_tx L g r26.2 MF := hz_txE t20 (hz_fcK k26) fF
    have v6 : hz_either L g r26.2 MF q := by
      rw [← qF, q42]
      rcases o3 with o3 | ⟨s1, q1, k1, v, b0, a1, a2, a3, a4, a5, a6⟩
      · exact Or.inl o3
      · exact Or.inr ⟨s1, q1, k1, a1, a2⟩
    obtain ⟨p1, p2, p3⟩ := hz_endE t26 v6
    rw [e32] at p3
    refine ⟨hS, p1, ?_, hz_fmT fF0 (hz_fmF p2), ?_⟩
    · by_cases ce : r32.1 1 = 0
      · rw [if_pos ce]
        simp only [hz_bnd]
        refine hz_fcT (hz_fcK kAll) ⟨fun _ _ _ _ _ _ _ => rfl, rfl, fun j hj => ?_, rfl⟩
        exact (if_neg hj).trans ((if_neg hj).trans ((if_neg hj).trans (if_neg hj)))
      · rw [if_neg ce]; exact hz_fcK kAll
    · rcases p3 with p3 | ⟨s1, q1, k1, a1, a2⟩
      · rw [if_neg p3.1]; exact Or.inl p3
      · right
        have ce : r32.1 1 = 0 := a2.1
        rw [if_pos ce]
        simp only [hz_bnd]
        refine ⟨s1, q1, k1, nz + 1, a1, a2, ?_⟩
        -- nothing was refused on the way
        have b26 : ¬ hz_bad r26.2 M36.2 := fun hh => (hz_badC hh k32).1 ce
        have b20 : ¬ hz_bad r20.2 M23.2 := fun hh => by
          have h2 := hh.1
          obtain ⟨u1, -⟩ := (hz_ckT k26 k32).2 h2
          exact h2 (u1.symm.trans ce)
        have b14 : ¬ hz_bad r14.2 M16.2 := fun hh => by
          have h2 := hh.1
          obtain ⟨u1, -⟩ := (hz_ckT k20 (hz_ckT k26 k32)).2 h2
          exact h2 (u1.symm.trans ce)
        rcases v4 with v4 | ⟨y, y1, X, y2, y3⟩
        · exact absurd v4 b14
        rcases n3 with n3 | ⟨_, _, _, va, _, _, va1, va2, va3, va4⟩
        · exact absurd n3 b20
        rcases o3 with o3 | ⟨_, _, _, vb, va0, _, _, vb1, vb2, vb0, vb3, vb4⟩
        · exact absurd o3 b26
        have hr : r32.2 = w.2 := kAll.1.2
        have hrow : ∀ j, (hz_fin MF).2.1 1 j = upd (upd (upd (upd (m.2.1 1) (44 + 3 * nz) y) (45 + 3 * nz) (nI va)) (46 + 3 * nz) (nI vb)) 7 (nI (nz + 1)) j := fun j => by
          have z16 : M16.2.2.1 1 = upd (m.2.1 1) (44 + 3 * nz) y := by
            rw [y3]
            show upd (M5.2.1 1) (44 + 3 * nz) y = _
            rw [x2.2]
          have z29 : M29.2.1 1 = upd (upd (m.2.1 1) (44 + 3 * nz) y) (45 + 3 * nz) (nI va) := by
            rw [q29]
            show upd (M23.2.2.1 1) (45 + 3 * nz) M23.1 = _
            rw [n2.2, z16, va2]
          have z42 : M42.2.1 1 = upd (upd (upd (m.2.1 1) (44 + 3 * nz) y) (45 + 3 * nz) (nI va)) (46 + 3 * nz) (nI vb) := by
            rw [q42]
            show upd (M36.2.2.1 1) (46 + 3 * nz) M36.1 = _
            rw [o2.2, z29, vb2]
          rw [p2.2, ← qF]
          show upd (M42.2.1 1) 7 (((M42.2.1 1) 7) + 1) j = _
          rw [z42, pk_un (show ¬ 7 = 46 + 3 * nz by omega), pk_un (show ¬ 7 = 45 + 3 * nz by omega), pk_un (show ¬ 7 = 44 + 3 * nz by omega), hcm, ← nI_succ]
        have hvb : 500 ≤ vb := by
          have e := va1.symm.trans vb0
          rw [hz_inj, nI_toInt (by omega)] at e
          by_cases k9 : va0 < 2147483648
          · rw [nI_toInt k9] at e; omega
          · omega
        refine hz_addZ (p := w.2.2.1 0) (f := m.2.1 1) hP (by omega) (x := r14.1) (y := y) (a := nI va) (b := nI vb) y1 ⟨by rw [nI_toInt (by omega)]; omega, by rw [nI_toInt (by omega)]; omega⟩ ⟨by rw [nI_toInt (by omega)]; omega, by rw [nI_toInt (by omega)]; omega⟩ ?_ (fun j hj => ?_) ?_ ?_ ?_ (fun j hj hk hl => ?_) ?_ ?_ ?_ ?_ (fun j h5 hj => ?_)
        · show (r32.2.2.1 0).1 2 + 1 = _
          rw [hr, hcn, ← nI_succ]
        · show (if j = 2 then _ else (r32.2.2.1 0).1 j) = _
          rw [if_neg hj, hr]
        · show fX6_put 6 ((r32.2.2.1 0).2 5) ((r32.2.2.1 0).1 2) r14.1 = _
          rw [hr, hcn, hz_put _ _ (by omega) (by decide)]
        · show fX6_put 6 ((r32.2.2.1 0).2 6) ((r32.2.2.1 0).1 2) r20.1 = _
          rw [hr, hcn, hz_put _ _ (by omega) (by decide), va1]
        · show fX6_put 6 ((r32.2.2.1 0).2 7) ((r32.2.2.1 0).1 2) r26.1 = _
          rw [hr, hcn, hz_put _ _ (by omega) (by decide), vb1]
        · show (if j = 7 then _ else (if j = 6 then _ else (if j = 5 then _ else (r32.2.2.1 0).2 j))) = _
          rw [if_neg hl, if_neg hk, if_neg hj, hr]
        · rw [hrow, pk_us]
        · rw [hrow, pk_un (by omega), pk_un (by omega), pk_un (by omega), pk_us]
        · rw [hrow, pk_un (by omega), pk_un (by omega), pk_us]
        · rw [hrow, pk_un (by omega), pk_us]
        · rw [hrow, pk_un h5, pk_un (by omega), pk_un (by omega), pk_un (by omega)]
end HZZ
