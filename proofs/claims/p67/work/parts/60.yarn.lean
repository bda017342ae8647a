/-! Reading: either side of an error. -/
def hz_fcD (w w1 : Wd) : Prop := (∀ k, ¬ k = 1 → ¬ k = 2 → ¬ k = 4 → ¬ k = 5 → ¬ k = 6 → ¬ k = 7 → w1.1 k = w.1 k) ∧ w1.2.1 = w.2.1 ∧ (∀ k, ¬ k = 0 → w1.2.2.1 k = w.2.2.1 k) ∧ w1.2.2.2 = w.2.2.2
def hz_fmD (m m1 : Md) : Prop := (∀ k, ¬ k = 5 → ¬ k = 6 → ¬ k = 7 → ¬ k = 8 → ¬ k = 9 → ¬ k = 10 → m1.1 k = m.1 k) ∧ (∀ k, ¬ k = 1 → m1.2.1 k = m.2.1 k) ∧ m1.2.2 = m.2.2
theorem hz_fcT {a b c : Wd} (h : hz_fcD a b) (g : hz_fcD b c) : hz_fcD a c := ⟨fun k a1 a2 a3 a4 a5 a6 => (g.1 k a1 a2 a3 a4 a5 a6).trans (h.1 k a1 a2 a3 a4 a5 a6), g.2.1.trans h.2.1, fun k hk => (g.2.2.1 k hk).trans (h.2.2.1 k hk), g.2.2.2.trans h.2.2.2⟩
theorem hz_fmT {a b c : Md} (h : hz_fmD a b) (g : hz_fmD b c) : hz_fmD a c := ⟨fun k a1 a2 a3 a4 a5 a6 => (g.1 k a1 a2 a3 a4 a5 a6).trans (h.1 k a1 a2 a3 a4 a5 a6), fun k hk => (g.2.1 k hk).trans (h.2.1 k hk), g.2.2.trans h.2.2⟩
theorem hz_fcK {w w1 : Wd} (h : hz_ck w w1) : hz_fcD w w1 := ⟨h.1.1, by rw [h.1.2], fun k _ => by rw [h.1.2], by rw [h.1.2]⟩
theorem hz_fmF {m m1 : Md} (h : hz_mf m m1) : hz_fmD m m1 := ⟨h.1, fun k _ => by rw [h.2], by rw [h.2]⟩
theorem hz_fmA (m : Md) (f : Nat → Int32) : hz_fmD m (mA m 1 f) := ⟨fun _ _ _ _ _ _ _ => rfl, fun _ hk => if_neg hk, rfl⟩
section HZZ
variable {L : Nat} {g : Nat → Nat} {w : Wd} {m : Md}
theorem hz_txE {w1 : Wd} {m1 : Md} (h : hz_tx L g w m) (a : hz_fcD w w1) (b : hz_fmD m m1) : hz_tx L g w1 m1 := hz_txS h (a.1 3 (by decide) (by decide) (by decide) (by decide) (by decide) (by decide)) (b.1 4 (by decide) (by decide) (by decide) (by decide) (by decide) (by decide)) (by rw [a.2.1]) (b.2.1 7 (by decide))
/-- in error on both sides, or before the same token -/
def hz_either (L : Nat) (g : Nat → Nat) (w : Wd) (m : Md) (p : Nat) : Prop := hz_bad w m ∨ ∃ s q k, p ≤ s ∧ hz_prs L g w m s q k
theorem hz_numE {p : Nat} (h : hz_tx L g w m) (hE : hz_either L g w m p) {a b : Nat} (ha : a < 99999) (hb : b < 99999) : sX7_number m (nI a) (nI b) ∧ hz_mf m (fX7_number m (nI a) (nI b)).2 ∧ (hz_bad (fX4_readNumber w (nI a) (nI b)).2 (fX7_number m (nI a) (nI b)).2 ∨ ∃ s q k v, p ≤ s ∧ hz_prs L g (fX4_readNumber w (nI a) (nI b)).2 (fX7_number m (nI a) (nI b)).2 s q k ∧ (fX4_readNumber w (nI a) (nI b)).1 = nI v ∧ (fX7_number m (nI a) (nI b)).1 = nI v ∧ a ≤ v ∧ v ≤ b) := by
  rcases hE with hB | ⟨s, q, k, hp, ho⟩
  · obtain ⟨n1, n2⟩ := hz_numB (hz_badM hB) (nI a) (nI b)
    refine ⟨n1, ?_, Or.inl ?_⟩
    · rw [n2]; exact hz_mf0 m
    · rw [n2]; exact hz_badC hB (hz_ckN w _ _)
  · obtain ⟨n1, n2, n3⟩ := hz_num h ho ha hb
    refine ⟨n1, n2, ?_⟩
    rcases n3 with n3 | ⟨s1, q1, k1, v, v1, v2, v3, v4, v5, v6⟩
    · exact Or.inl n3
    · have := ho.2.2.2.2.2.2.2.2.1
      exact Or.inr ⟨s1, q1, k1, v, by omega, v2, v3, v4, v5, v6⟩
theorem hz_endE {p : Nat} (h : hz_tx L g w m) (hE : hz_either L g w m p) : hz_finS m ∧ hz_mf m (hz_fin m) ∧ hz_either L g (fX4_endStatement w) (hz_fin m) p := by
  rcases hE with hB | ⟨s, q, k, hp, ho⟩
  · obtain ⟨n1, n2⟩ := hz_finB (hz_badM hB)
    refine ⟨n2, ?_, Or.inl ?_⟩
    · rw [n1]; exact hz_mf0 m
    · rw [n1]; exact hz_badC hB (hz_ckE w)
  · obtain ⟨n1, n2, n3⟩ := hz_end h ho
    refine ⟨n1, n2, ?_⟩
    rcases n3 with n3 | ⟨s1, q1, k1, v1, v2⟩
    · exact Or.inl n3
    · have := ho.2.2.2.2.2.2.2.2.1
      exact Or.inr ⟨s1, q1, k1, by omega, v2⟩
end HZZ
/-! The yarn's statement, both sides in steps. -/
theorem hz_pY (m r5 r29 r42 : Md) (r16 r23 r36 : Int32 × Md) (e5 : fX7_enter m 5 6 = r5) (e16 : fX7_newName r5 10 3 5 = r16) (e23 : fX7_number r16.2 1 100 = r23) (e29 : mA r23.2 (r16.2.2.2) (upd (r23.2.2.1 (r16.2.2.2)) (r16.1 + 1).toNatClampNeg r23.1) = r29) (e36 : fX7_number r29 0 50 = r36) (e42 : mA r36.2 (r29.2.2) (upd (r36.2.2.1 (r29.2.2)) (r16.1 + 2).toNatClampNeg r36.1) = r42) : fX7_parseYarn m = (if (fX7_good r5) = 0 then r5 else mA r42 (r42.2.2) (upd (r42.2.1 (r42.2.2)) 5 (((r42.2.1 (r42.2.2)) 5) + 1))) := by
  subst e42; subst e36; subst e29; subst e23; subst e16; subst e5
  unfold fX7_parseYarn
  simp only [hz_bid]
  simp only [hz_bnd]
theorem hz_pYs (m r5 r29 : Md) (r16 r23 r36 : Int32 × Md) (e5 : fX7_enter m 5 6 = r5) (e16 : fX7_newName r5 10 3 5 = r16) (e23 : fX7_number r16.2 1 100 = r23) (e29 : mA r23.2 (r16.2.2.2) (upd (r23.2.2.1 (r16.2.2.2)) (r16.1 + 1).toNatClampNeg r23.1) = r29) (e36 : fX7_number r29 0 50 = r36) (s5 : sX7_enter m 5 6) (hs : ¬ fX7_good r5 = 0 → sX7_newName r5 10 3 5 ∧ sX7_number r16.2 1 100 ∧ r23.2.2.2 = r16.2.2.2 ∧ vp_in (r16.1 + 1) 146 ∧ sX7_number r29 0 50 ∧ r36.2.2.2 = r29.2.2 ∧ vp_in (r16.1 + 2) 146) : sX7_parseYarn m := by
  subst e36; subst e29; subst e23; subst e16; subst e5
  unfold sX7_parseYarn
  simp only [hz_bnd]
  refine ⟨s5, fun _ => trivial, fun hg => ?_⟩
  obtain ⟨h1, h2, h3, h4, h5, h6, h7⟩ := hs hg
  exact ⟨h1, h2, h3, h4, h5, h6, h7, trivial⟩
theorem hz_rY (w r5 r32 : Wd) (r14 r20 r26 : Int32 × Wd) (e5 : fX4_startStatement w (if ((w.2.2.1 0).1 0) < 6 then 0 else 1) 5 = r5) (e14 : fX4_takeNewName_7 r5 (fX4_nameHere r5) ((r5.2.2.1 0).1 0) = r14) (e20 : fX4_readNumber r14.2 1 100 = r20) (e26 : fX4_readNumber r20.2 0 50 = r26) (e32 : fX4_endStatement r26.2 = r32) : fX4_readYarn_6 w = (if (r32.1 1) = 0 then (bnd (wP (wP r32 0 (upR (r32.2.2.1 0) 0 (fX6_put 6 ((r32.2.2.1 0).2 0) ((r32.2.2.1 0).1 0) r14.1))) 0 (upR (upR (r32.2.2.1 0) 0 (fX6_put 6 ((r32.2.2.1 0).2 0) ((r32.2.2.1 0).1 0) r14.1)) 1 (fX6_put 6 ((upR (r32.2.2.1 0) 0 (fX6_put 6 ((r32.2.2.1 0).2 0) ((r32.2.2.1 0).1 0) r14.1)).2 1) ((upR (r32.2.2.1 0) 0 (fX6_put 6 ((r32.2.2.1 0).2 0) ((r32.2.2.1 0).1 0) r14.1)).1 0) r20.1))) (fun r44 => (bnd (wP (wP r44 0 (upR (r44.2.2.1 0) 2 (fX6_put 6 ((r44.2.2.1 0).2 2) ((r44.2.2.1 0).1 0) r26.1))) 0 (upS (upR (r44.2.2.1 0) 2 (fX6_put 6 ((r44.2.2.1 0).2 2) ((r44.2.2.1 0).1 0) r26.1)) 0 (((upR (r44.2.2.1 0) 2 (fX6_put 6 ((r44.2.2.1 0).2 2) ((r44.2.2.1 0).1 0) r26.1)).1 0) + 1))) (fun r52 => r52)))) else r32) := by
  subst e32; subst e26; subst e20; subst e14; subst e5
  unfold fX4_readYarn_6
  by_cases c : ((w.2.2.1 0).1 0) < 6
  · rw [if_pos c, if_pos c]
    simp only [hz_bnd]
  · rw [if_neg c, if_neg c]
    simp only [hz_bnd]
