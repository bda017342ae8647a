/-! The shape's statement: both sides agree. -/
theorem hz_eta {α β : Type} (x : α × β) : (x.1, x.2) = x := rfl
theorem hz_sl (m : Md) (z : Int32) : fX7_someLength m z = fX7_number m z 9999 := by
  unfold fX7_someLength
  rw [hz_bnd, hz_eta]
theorem hz_slS {m : Md} {z : Int32} (h : sX7_number m z 9999) : sX7_someLength m z := by
  unfold sX7_someLength
  rw [hz_bnd]
  exact ⟨h, trivial⟩
theorem hz_pS (m r5 r29 : Md) (r16 r23 : Int32 × Md) (e5 : fX7_enter m 6 8 = r5) (e16 : fX7_newName r5 28 2 6 = r16) (e23 : fX7_number r16.2 500 9999 = r23) (e29 : mA r23.2 (r16.2.2.2) (upd (r23.2.2.1 (r16.2.2.2)) (r16.1 + 1).toNatClampNeg r23.1) = r29) : fX7_parseShape m = (if (fX7_good r5) = 0 then r5 else mA r29 (r29.2.2) (upd (r29.2.1 (r29.2.2)) 6 (((r29.2.1 (r29.2.2)) 6) + 1))) := by
  subst e29; subst e23; subst e16; subst e5
  unfold fX7_parseShape
  simp only [hz_bid]
  simp only [hz_bnd, hz_sl]
theorem hz_pSs (m r5 : Md) (r16 r23 : Int32 × Md) (e5 : fX7_enter m 6 8 = r5) (e16 : fX7_newName r5 28 2 6 = r16) (e23 : fX7_number r16.2 500 9999 = r23) (s5 : sX7_enter m 6 8) (hs : ¬ fX7_good r5 = 0 → sX7_newName r5 28 2 6 ∧ sX7_number r16.2 500 9999 ∧ r23.2.2.2 = r16.2.2.2 ∧ vp_in (r16.1 + 1) 146) : sX7_parseShape m := by
  subst e23; subst e16; subst e5
  unfold sX7_parseShape
  simp only [hz_bnd, hz_sl]
  refine ⟨s5, fun _ => trivial, fun hg => ?_⟩
  obtain ⟨h1, h2, h3, h4⟩ := hs hg
  exact ⟨h1, hz_slS h2, h3, h4, trivial⟩
theorem hz_rS (w r5 r26 : Wd) (r14 r20 : Int32 × Wd) (e5 : fX4_startStatement w (if ((w.2.2.1 0).1 1) < 8 then 0 else 1) 5 = r5) (e14 : fX4_takeNewName_10 r5 (fX4_nameHere r5) ((r5.2.2.1 0).1 1) = r14) (e20 : fX4_readNumber r14.2 500 9999 = r20) (e26 : fX4_endStatement r20.2 = r26) : fX4_readShape_6 w = (if (r26.1 1) = 0 then (bnd (wP (wP r26 0 (upR (r26.2.2.1 0) 3 (fX6_put 8 ((r26.2.2.1 0).2 3) ((r26.2.2.1 0).1 1) r14.1))) 0 (upR (upR (r26.2.2.1 0) 3 (fX6_put 8 ((r26.2.2.1 0).2 3) ((r26.2.2.1 0).1 1) r14.1)) 4 (fX6_put 8 ((upR (r26.2.2.1 0) 3 (fX6_put 8 ((r26.2.2.1 0).2 3) ((r26.2.2.1 0).1 1) r14.1)).2 4) ((upR (r26.2.2.1 0) 3 (fX6_put 8 ((r26.2.2.1 0).2 3) ((r26.2.2.1 0).1 1) r14.1)).1 1) r20.1))) (fun r38 => (wP r38 0 (upS (r38.2.2.1 0) 1 (((r38.2.2.1 0).1 1) + 1))))) else r26) := by
  subst e26; subst e20; subst e14; subst e5
  unfold fX4_readShape_6
  by_cases c : ((w.2.2.1 0).1 1) < 8
  · rw [if_pos c, if_pos c]
    simp only [hz_bnd]
  · rw [if_neg c, if_neg c]
    simp only [hz_bnd]
section HZZ
variable {L : Nat} {g : Nat → Nat} {w : Wd} {m : Md} {s q k ny ns nz np : Nat}
theorem hz_stS (h : hz_tx L g w m) (ho : hz_prs L g w m s q k) (h1 : m.2.2 = 1) (hP : hz_PR (w.2.2.1 0) (m.2.1 1) ny ns nz np) : sX7_parseShape m ∧ hz_finS (fX7_parseShape m) ∧ hz_fcD w (fX4_readShape_6 w) ∧ hz_fmD m (hz_fin (fX7_parseShape m)) ∧ (hz_bad (fX4_readShape_6 w) (hz_fin (fX7_parseShape m)) ∨ ∃ s1 q1 k1 ns1, q ≤ s1 ∧ hz_prs L g (fX4_readShape_6 w) (hz_fin (fX7_parseShape m)) s1 q1 k1 ∧ hz_PR ((fX4_readShape_6 w).2.2.1 0) ((hz_fin (fX7_parseShape m)).2.1 1) ny ns1 nz np) := by
  have hny : ns ≤ 8 := hP.2.1.2.1
  have hcn : (w.2.2.1 0).1 1 = nI ns := hP.1.2.1
  have hcm : m.2.1 1 6 = nI ns := hP.2.2.1.2.1
  obtain ⟨en1, en2, en3⟩ := hz_enter h ho h1 (N := ns) (cap := 8) (z := 6) (by omega) hny (by omega) hcm
  obtain ⟨r5, e5⟩ : ∃ r, fX4_startStatement w (if ((w.2.2.1 0).1 1) < 8 then 0 else 1) 5 = r := ⟨_, rfl⟩
  obtain ⟨r14, e14⟩ : ∃ r, fX4_takeNewName_10 r5 (fX4_nameHere r5) ((r5.2.2.1 0).1 1) = r := ⟨_, rfl⟩
  obtain ⟨r20, e20⟩ : ∃ r, fX4_readNumber r14.2 500 9999 = r := ⟨_, rfl⟩
  obtain ⟨r32, e32⟩ : ∃ r, fX4_endStatement r20.2 = r := ⟨_, rfl⟩
  obtain ⟨M5, d5⟩ : ∃ r, fX7_enter m 6 8 = r := ⟨_, rfl⟩
  obtain ⟨M16, d16⟩ : ∃ r, fX7_newName M5 28 2 6 = r := ⟨_, rfl⟩
  obtain ⟨M23, d23⟩ : ∃ r, fX7_number M16.2 500 9999 = r := ⟨_, rfl⟩
  obtain ⟨M29, d29⟩ : ∃ r, mA M23.2 (M16.2.2.2) (upd (M23.2.2.1 (M16.2.2.2)) (M16.1 + 1).toNatClampNeg M23.1) = r := ⟨_, rfl⟩
  have k5 : hz_ck w r5 := e5 ▸ hz_ckS w _ 5
  have k14 : hz_ck r5 r14.2 := e14 ▸ hz_ckT10 r5 _ _
  have k20 : hz_ck r14.2 r20.2 := e20 ▸ hz_ckN r14.2 500 9999
  have k32 : hz_ck r20.2 r32 := e32 ▸ hz_ckE r20.2
  have kAll : hz_ck w r32 := hz_ckT k5 (hz_ckT k14 (hz_ckT k20 k32))
  rw [hz_rS w r5 r32 r14 r20 e5 e14 e20 e32, hz_pS m M5 M29 M16 M23 d5 d16 d23 d29]
  have d5' : fX7_enter m (nI 6) (nI 8) = M5 := d5
  by_cases c6 : ns = 8
  · obtain ⟨x1, x2, x3⟩ := en2 c6
    have hM : M5 = fX7_fail m 5 := d5'.symm.trans x1
    have hb5 : hz_bad r5 M5 := by
      rw [hM, ← e5, hcn, if_neg (by rw [c6]; decide)]
      exact x2
    have hb : hz_bad r32 M5 := hz_badC hb5 (hz_ckT k14 (hz_ckT k20 k32))
    have hg := hz_gB (hz_badM hb5)
    obtain ⟨f1, f2⟩ := hz_finB (hz_badM hb5)
    rw [if_pos hg, if_neg hb.1, f1]
    refine ⟨hz_pSs m M5 M16 M23 d5 d16 d23 en1 (fun hh => absurd hg hh), f2, hz_fcK kAll, ?_, Or.inl hb⟩
    rw [hM]; exact hz_fmF x3
  · obtain ⟨x1, x2, s5, q5, k5', x3, x4⟩ := en3 (by omega)
    have hM : M5 = fX7_advance m := d5'.symm.trans x1
    rw [← hM] at x2 x4
    have x4' : hz_prs L g r5 M5 s5 q5 k5' := by
      rw [← e5, hcn, if_pos (show nI ns < 8 from by
        show nI ns < nI 8
        rw [nI_ltI (by omega) (by omega)]; omega)]
      exact x4
    have hg : ¬ fX7_good M5 = 0 := by rw [hz_gG x4'.2.1]; decide
    have t5 : hz_tx L g r5 M5 := hz_txE h (hz_fcK k5) (hz_fmF x2)
    have h51 : M5.2.2 = 1 := by rw [x2.2]; exact h1
    have hP5 : hz_PR (r5.2.2.1 0) (M5.2.1 1) ny ns nz np := by rw [k5.1.2, x2.2]; exact hP
    obtain ⟨w1, w2, w3⟩ := hz_newName t5 x4' h51 (cap := 8) (N := ns) (z1 := 28) (z2 := 2) (z3 := 6) (A := (r5.2.2.1 0).2 3) (F := M5.2.1 1) rfl (by omega) (by omega) (by omega) (by omega) (by omega) hP5.2.2.1.2.1 (fun i hi => (hP5.2.2.2.2.2.2.1 i hi).1) (fun x => fX4_takeNewName_10 r5 x ((r5.2.2.1 0).1 1)) (fun x => by
      unfold fX4_takeNewName_10
      rw [hP5.1.2.1]
      simp only [hz_bnd])
    have d16' : fX7_newName M5 (nI 28) (nI 2) (nI 6) = M16 := d16
    rw [d16'] at w2 w3
    rw [e14] at w3
    have w1' : sX7_newName M5 28 2 6 := w1
    -- after the name
    have v1 : hz_fmD M5 M16.2 ∧ hz_either L g r14.2 M16.2 q ∧ (hz_bad r14.2 M16.2 ∨ ∃ y, hz_nm r14.1 y ∧ ∃ X : Md, X.2 = M5.2 ∧ M16.2.2 = (mA X 1 (upd (M5.2.1 1) (28 + 2 * ns) y)).2) := by
      have := x4'.2.2.2.2.2.2.2.2.1
      rcases w3 with ⟨b1, b2⟩ | ⟨s1, q1, k1, x, y, a1, a2, a3, a4, a5, a6⟩
      · exact ⟨hz_fmF b2, Or.inl b1, Or.inl b1⟩
      · generalize fX7_advance M5 = AD at *
        rw [a5]
        exact ⟨hz_fmT (hz_fmF a6) (hz_fmA _ _), Or.inr ⟨s1, q1, k1, by omega, a4⟩, Or.inr ⟨y, by rw [a2]; exact a3, AD, a6.2, rfl⟩⟩
    obtain ⟨v2, v3, v4⟩ := v1
    have t14 : hz_tx L g r14.2 M16.2 := hz_txE t5 (hz_fcK k14) v2
    obtain ⟨n1, n2, n3⟩ := hz_numE t14 v3 (a := 500) (b := 9999) (by omega) (by omega)
    have d23' : fX7_number M16.2 (nI 500) (nI 9999) = M23 := d23
    have e20' : fX4_readNumber r14.2 (nI 500) (nI 9999) = r20 := e20
    rw [d23', e20'] at n3
    rw [d23'] at n2
    have h161 : M16.2.2.2 = 1 := by rw [v2.2.2]; exact h51
    have h231 : M23.2.2.2 = 1 := by rw [n2.2]; exact h161
    have q29 : M29 = mA M23.2 1 (upd (M23.2.2.1 1) (29 + 2 * ns) M23.1) := by
      rw [← d29, h161, w2, show nI (28 + 2 * ns) + 1 = nI (28 + 2 * ns + 1) from (nI_succ _).symm, nI_clamp (by omega), show 28 + 2 * ns + 1 = 29 + 2 * ns by omega]
    have f29 : hz_fmD M16.2 M29 := by rw [q29]; exact hz_fmT (hz_fmF n2) (hz_fmA _ _)
    have t20 : hz_tx L g r20.2 M29 := hz_txE t14 (hz_fcK k20) f29
    have v5 : hz_either L g r20.2 M29 q := by
      rw [q29]
      rcases n3 with n3 | ⟨s1, q1, k1, v, a1, a2, a3, a4, a5, a6⟩
      · exact Or.inl n3
      · exact Or.inr ⟨s1, q1, k1, a1, a2⟩
    have hS : sX7_parseShape m := hz_pSs m M5 M16 M23 d5 d16 d23 en1 (fun _ => ⟨w1', n1, h231.trans h161.symm, by rw [w2, show nI (28 + 2 * ns) + 1 = nI (28 + 2 * ns + 1) from (nI_succ _).symm]; exact vp_in_nI (by omega) (by omega)⟩)
    have h291 : M29.2.2 = 1 := by rw [f29.2.2]; exact h161
    obtain ⟨MF, qF⟩ : ∃ MF, mA M29 (M29.2.2) (upd (M29.2.1 (M29.2.2)) 6 (((M29.2.1 (M29.2.2)) 6) + 1)) = MF := ⟨_, rfl⟩
    rw [if_neg hg, qF]
    rw [h291] at qF
    have fF : hz_fmD M29 MF := by rw [← qF]; exact hz_fmA _ _
    have fF0 : hz_fmD m MF := hz_fmT (hz_fmF x2) (hz_fmT v2 (hz_fmT f29 fF))
    have t26 : hz_tx L g r20.2 MF := hz_txE t20 ⟨fun _ _ _ _ _ _ _ => rfl, rfl, fun _ _ => rfl, rfl⟩ fF
    have v6 : hz_either L g r20.2 MF q := by
      rw [← qF]
      rcases v5 with v5 | ⟨s1, q1, k1, a1, a2⟩
      · exact Or.inl v5
      · exact Or.inr ⟨s1, q1, k1, a1, a2⟩
    obtain ⟨p1, p2, p3⟩ := hz_endE t26 v6
    rw [e32] at p3
    refine ⟨hS, p1, ?_, hz_fmT fF0 (hz_fmF p2), ?_⟩
    · by_cases ce : r32.1 1 = 0
      · rw [if_pos ce]
        simp only [hz_bnd]
        refine hz_fcT (hz_fcK kAll) ⟨fun _ _ _ _ _ _ _ => rfl, rfl, fun j hj => ?_, rfl⟩
        exact (if_neg hj).trans ((if_neg hj).trans (if_neg hj))
      · rw [if_neg ce]; exact hz_fcK kAll
    · rcases p3 with p3 | ⟨s1, q1, k1, a1, a2⟩
      · rw [if_neg p3.1]; exact Or.inl p3
      · right
        have ce : r32.1 1 = 0 := a2.1
        rw [if_pos ce]
        simp only [hz_bnd]
        refine ⟨s1, q1, k1, ns + 1, a1, a2, ?_⟩
        -- nothing was refused on the way
        have b20 : ¬ hz_bad r20.2 M23.2 := fun hh => (hz_badC hh k32).1 ce
        have b14 : ¬ hz_bad r14.2 M16.2 := fun hh => by
          have h2 := hh.1
          obtain ⟨u1, -⟩ := (hz_ckT k20 k32).2 h2
          exact h2 (u1.symm.trans ce)
        rcases v4 with v4 | ⟨y, y1, X, y2, y3⟩
        · exact absurd v4 b14
        rcases n3 with n3 | ⟨_, _, _, va, _, _, va1, va2, va3, va4⟩
        · exact absurd n3 b20
        have hr : r32.2 = w.2 := kAll.1.2
        have hrow : ∀ j, (hz_fin MF).2.1 1 j = upd (upd (upd (m.2.1 1) (28 + 2 * ns) y) (29 + 2 * ns) (nI va)) 6 (nI (ns + 1)) j := fun j => by
          have z16 : M16.2.2.1 1 = upd (m.2.1 1) (28 + 2 * ns) y := by
            rw [y3]
            show upd (M5.2.1 1) (28 + 2 * ns) y = _
            rw [x2.2]
          have z29 : M29.2.1 1 = upd (upd (m.2.1 1) (28 + 2 * ns) y) (29 + 2 * ns) (nI va) := by
            rw [q29]
            show upd (M23.2.2.1 1) (29 + 2 * ns) M23.1 = _
            rw [n2.2, z16, va2]
          rw [p2.2, ← qF]
          show upd (M29.2.1 1) 6 (((M29.2.1 1) 6) + 1) j = _
          rw [z29, pk_un (show ¬ 6 = 29 + 2 * ns by omega), pk_un (show ¬ 6 = 28 + 2 * ns by omega), hcm, ← nI_succ]
        refine hz_addS (p := w.2.2.1 0) (f := m.2.1 1) hP (by omega) (x := r14.1) (y := y) (a := nI va) y1 ⟨by rw [nI_toInt (by omega)]; omega, by rw [nI_toInt (by omega)]; omega⟩ ?_ (fun j hj => ?_) ?_ ?_ (fun j hj hk => ?_) ?_ ?_ ?_ (fun j h5 hj => ?_)
        · show (r32.2.2.1 0).1 1 + 1 = _
          rw [hr, hcn, ← nI_succ]
        · show (if j = 1 then _ else (r32.2.2.1 0).1 j) = _
          rw [if_neg hj, hr]
        · show fX6_put 8 ((r32.2.2.1 0).2 3) ((r32.2.2.1 0).1 1) r14.1 = _
          rw [hr, hcn, hz_put _ _ (by omega) (by decide)]
        · show fX6_put 8 ((r32.2.2.1 0).2 4) ((r32.2.2.1 0).1 1) r20.1 = _
          rw [hr, hcn, hz_put _ _ (by omega) (by decide), va1]
        · show (if j = 4 then _ else (if j = 3 then _ else (r32.2.2.1 0).2 j)) = _
          rw [if_neg hk, if_neg hj, hr]
        · rw [hrow, pk_us]
        · rw [hrow, pk_un (by omega), pk_un (by omega), pk_us]
        · rw [hrow, pk_un (by omega), pk_us]
        · rw [hrow, pk_un h5, pk_un (by omega), pk_un (by omega)]
end HZZ
