/-! What changes the plant, and what brings it back: the history's newest plant is known. -/
/-- the newest plant that is kept has the row f -/
def HT (w : Wd) (f : Nat → Int32) (ny ns nz np : Nat) : Prop := ∃ cnt old : Nat, 1 ≤ cnt ∧ cnt ≤ 10 ∧ old < 10 ∧ w.1 11 = nI cnt ∧ w.1 12 = nI old ∧ (∀ i, i < cnt → ∃ g a b c d, hz_PR (w.2.2.1 (3 + (old + i) % 10)) g a b c d) ∧ hz_PR (w.2.2.1 (3 + (old + (cnt - 1)) % 10)) f ny ns nz np
section CHG
variable {w w1 : Wd} {f g : Nat → Int32} {ny ns nz np n a b c d : Nat} {p : Pl}
theorem ht_hi (h : HT w f ny ns nz np) : HI w := by
  obtain ⟨cnt, old, h1, h2, h3, h4, h5, h6, h7⟩ := h
  exact ⟨cnt, old, h2, h3, h4, h5, h6⟩
theorem bc_t (hP : hz_PR (w.2.2.1 1) f ny ns nz np) (hH : HI w) : hz_bc w (fX6_beforeChange w) ∧ HT (fX6_beforeChange w) f ny ns nz np := by
  obtain ⟨cnt, old, a1, a2, a3, a4, a6⟩ := hH
  have ep := hz_place (w := w) a2 a1 a4
  have hlt : (old + cnt) % 10 < 10 := Nat.mod_lt _ (by decide)
  have eK : fX1_keep_21 w = (if 10 ≤ w.1 11 then wS (wP w (3 + (old + cnt) % 10) (fX5_copyFrom (w.2.2.1 (3 + (old + cnt) % 10)) (w.2.2.1 1))) 12 (((w.1 12) + 1) - ((w.1 12) + 1) / 10 * 10) else wS (wP w (3 + (old + cnt) % 10) (fX5_copyFrom (w.2.2.1 (3 + (old + cnt) % 10)) (w.2.2.1 1))) 11 ((w.1 11) + 1)) := by
    unfold fX1_keep_21
    rw [a3, ep, if_pos ⟨nI_pos (by omega), nI_ge (a := (old + cnt) % 10) (b := 10) hlt (by omega)⟩, nI_clamp (by omega)]
    simp only [bnd]
    show (if 10 ≤ w.1 11 then wS (wP w _ _) 12 (((w.1 12) + 1) - ((w.1 12) + 1) / 10 * 10) else wS (wP w _ _) 11 ((w.1 11) + 1)) = _
    rw [a3]
  unfold fX6_beforeChange
  simp only [bnd]
  rw [eK, a3, a4]
  by_cases c10 : cnt = 10
  · have e12 : (nI old + 1) - (nI old + 1) / 10 * 10 = nI ((old + 1) % 10) := by
      rw [← nI_succ, show (10 : Int32) = nI 10 from rfl, pk_rem (by omega) (by omega) (by omega)]
    have eo : (old + 10) % 10 = old := by omega
    rw [c10, eo, if_pos (show (10 : Int32) ≤ nI 10 from Int32.le_refl _), e12]
    refine ⟨⟨rfl, fun q h1 h2 h3 => ?_, rfl, fun q hq => if_neg (by omega), rfl⟩, 10, (old + 1) % 10, by decide, Nat.le_refl _, Nat.mod_lt _ (by decide), ?_, rfl, fun i hi => ?_, ?_⟩
    · show (if q = 13 then _ else if q = 12 then _ else w.1 q) = _
      rw [if_neg h3, if_neg h2]
    · show w.1 11 = _
      rw [a3, c10]
    · show ∃ g a b c d, hz_PR (if 3 + ((old + 1) % 10 + i) % 10 = 3 + old then _ else w.2.2.1 (3 + ((old + 1) % 10 + i) % 10)) g a b c d
      by_cases h9i : i = 9
      · rw [if_pos (show 3 + ((old + 1) % 10 + i) % 10 = 3 + old by omega)]
        exact ⟨f, ny, ns, nz, np, hz_cp hP (fun _ _ => rfl)⟩
      · rw [if_neg (show ¬ 3 + ((old + 1) % 10 + i) % 10 = 3 + old by omega)]
        have hx := a6 (i + 1) (by omega)
        rw [show (old + (i + 1)) % 10 = ((old + 1) % 10 + i) % 10 by omega] at hx
        exact hx
    · show hz_PR (if 3 + ((old + 1) % 10 + (10 - 1)) % 10 = 3 + old then _ else w.2.2.1 (3 + ((old + 1) % 10 + (10 - 1)) % 10)) f ny ns nz np
      rw [if_pos (show 3 + ((old + 1) % 10 + (10 - 1)) % 10 = 3 + old by omega)]
      exact hz_cp hP (fun _ _ => rfl)
  · have hlt10 : cnt < 10 := by omega
    rw [if_neg (show ¬ (10 : Int32) ≤ nI cnt from nI_ge (a := cnt) (b := 10) hlt10 (by omega)), ← nI_succ]
    refine ⟨⟨rfl, fun q h1 h2 h3 => ?_, rfl, fun q hq => if_neg (by omega), rfl⟩, cnt + 1, old, by omega, by omega, a2, rfl, a4, fun i hi => ?_, ?_⟩
    · show (if q = 13 then _ else if q = 11 then _ else w.1 q) = _
      rw [if_neg h3, if_neg h1]
    · show ∃ g a b c d, hz_PR (if 3 + (old + i) % 10 = 3 + (old + cnt) % 10 then _ else w.2.2.1 (3 + (old + i) % 10)) g a b c d
      by_cases hc : i = cnt
      · rw [if_pos (show 3 + (old + i) % 10 = 3 + (old + cnt) % 10 by rw [hc])]
        exact ⟨f, ny, ns, nz, np, hz_cp hP (fun _ _ => rfl)⟩
      · rw [if_neg (show ¬ 3 + (old + i) % 10 = 3 + (old + cnt) % 10 by omega)]
        exact a6 i (by omega)
    · show hz_PR (if 3 + (old + (cnt + 1 - 1)) % 10 = 3 + (old + cnt) % 10 then _ else w.2.2.1 (3 + (old + (cnt + 1 - 1)) % 10)) f ny ns nz np
      rw [if_pos (show 3 + (old + (cnt + 1 - 1)) % 10 = 3 + (old + cnt) % 10 by rw [Nat.add_sub_cancel])]
      exact hz_cp hP (fun _ _ => rfl)
/-- what undoing leaves alone -/
def bk (w w1 : Wd) : Prop := w1.1 13 = 0 ∧ (∀ q, ¬ q = 11 → ¬ q = 12 → ¬ q = 13 → w1.1 q = w.1 q) ∧ w1.2.1 = w.2.1 ∧ w1.2.2.2 = w.2.2.2
theorem un_t (h : HT w f ny ns nz np) : ∃ k w1, fX6_undo w = (nI k, w1) ∧ k ≤ 9 ∧ hz_PR (w1.2.2.1 1) f ny ns nz np ∧ HI w1 ∧ bk w w1 := by
  obtain ⟨cnt, old, a0, a1, a2, a3, a4, a6, a7⟩ := h
  obtain ⟨c, ec⟩ : ∃ c, cnt = c + 1 := ⟨cnt - 1, by omega⟩
  have z1 : ¬ w.1 11 = 0 := by rw [a3]; exact nI_ne0 (by omega) (by omega)
  have e1 : w.1 11 - 1 = nI c := by rw [a3, ec]; exact nI_pred c
  have ep : fX1_placeOf (wS w 11 (nI c)) (nI c) = nI ((old + c) % 10) := hz_place (w := wS w 11 (nI c)) a2 (by omega) (by
    show (if 12 = 11 then nI c else w.1 12) = _
    rw [if_neg (by decide)]; exact a4)
  have hlt : (old + c) % 10 < 10 := Nat.mod_lt _ (by decide)
  have eT : fX1_takeBack_21 w = wP (wS w 11 (nI c)) 1 (fX5_copyFrom (w.2.2.1 1) (w.2.2.1 (3 + (old + c) % 10))) := by
    unfold fX1_takeBack_21
    rw [if_pos (show (0 : Int32) < w.1 11 by rw [a3]; exact nI_lt (a := 0) (by omega) (by omega)), e1, ep, if_pos ⟨nI_pos (by omega), nI_ge (a := (old + c) % 10) (b := 10) hlt (by omega)⟩, nI_clamp (by omega)]
    rfl
  have ea : 3 + (old + (cnt - 1)) % 10 = 3 + (old + c) % 10 := by rw [ec, Nat.add_sub_cancel]
  rw [ea] at a7
  refine ⟨c, wS (wP (wS w 11 (nI c)) 1 (fX5_copyFrom (w.2.2.1 1) (w.2.2.1 (3 + (old + c) % 10)))) 13 0, ?_, by omega, hz_cp a7 (fun _ _ => rfl), ⟨c, old, by omega, a2, rfl, a4, fun i hi => ?_⟩, rfl, fun q h1 h2 h3 => ?_, rfl, rfl⟩
  · unfold fX6_undo
    simp only [bnd]
    rw [if_neg z1, eT]
    rfl
  · show ∃ g a b c d, hz_PR (if 3 + (old + i) % 10 = 1 then _ else w.2.2.1 (3 + (old + i) % 10)) g a b c d
    rw [if_neg (by omega)]
    exact a6 i (by omega)
  · show (if q = 13 then _ else if q = 11 then _ else w.1 q) = _
    rw [if_neg h3, if_neg h1]
theorem o_un {f1 : Nat → Int32} (h : CI n w f1 a b c d) (hT : HT w f ny ns nz np) : ∃ k w1, fX6_undo w = (nI k, w1) ∧ k ≤ 9 ∧ CI n w1 f ny ns nz np ∧ w1.1 0 = w.1 0 := by
  obtain ⟨k, w1, e, k9, g1, g2, b1, b2, b3, b4⟩ := un_t hT
  obtain ⟨-, ⟨r, r1, r2⟩, -, -, L, l1, l2⟩ := h
  have e0 : w1.1 0 = w.1 0 := b2 0 (by decide) (by decide) (by decide)
  refine ⟨k, w1, e, k9, ⟨g1, ⟨r, r1, ?_⟩, Or.inl b1, g2, L, l1, e0.trans l2⟩, e0⟩
  unfold hz_mo at r2 ⊢
  rw [b4]
  exact r2
/-- a change of the plant, kept -/
theorem ci_ch {f1 : Nat → Int32} (h : CI n w f ny ns nz np) (hp : hz_PR p f1 a b c d) : CI n (wP (fX6_beforeChange w) 1 p) f1 a b c d ∧ HT (wP (fX6_beforeChange w) 1 p) f ny ns nz np ∧ (wP (fX6_beforeChange w) 1 p).1 0 = w.1 0 := by
  obtain ⟨⟨b1, b2, b3, b4, b5⟩, t⟩ := bc_t h.1 h.2.2.2.1
  obtain ⟨-, ⟨r, r1, r2⟩, -, -, L, l1, l2⟩ := h
  have e0 : (fX6_beforeChange w).1 0 = w.1 0 := b2 0 (by decide) (by decide) (by decide)
  have t2 : HT (wP (fX6_beforeChange w) 1 p) f ny ns nz np := by
    obtain ⟨cnt, old, a0, a1, a2, a3, a4, a6, a7⟩ := t
    refine ⟨cnt, old, a0, a1, a2, a3, a4, fun i hi => ?_, ?_⟩
    · show ∃ g a b c d, hz_PR (if 3 + (old + i) % 10 = 1 then _ else (fX6_beforeChange w).2.2.1 (3 + (old + i) % 10)) g a b c d
      rw [if_neg (by omega)]
      exact a6 i hi
    · show hz_PR (if 3 + (old + (cnt - 1)) % 10 = 1 then _ else (fX6_beforeChange w).2.2.1 (3 + (old + (cnt - 1)) % 10)) f ny ns nz np
      rw [if_neg (by omega)]
      exact a7
  refine ⟨⟨hp, ⟨r, r1, ?_⟩, Or.inl b1, ht_hi t2, L, l1, e0.trans l2⟩, t2, e0⟩
  show hz_mo (fX6_beforeChange w) r
  unfold hz_mo at r2 ⊢
  rw [b5]
  exact r2
theorem bc_1 (h : CI n w f ny ns nz np) : (fX6_beforeChange w).2.2.1 1 = w.2.2.1 1 := (bc_t h.1 h.2.2.2.1).1.2.2.2.1 1 (by decide)
theorem btw_0c {v c : Nat} (h : v ≤ c) (hc : c < 100000) : ¬ fX6_isBetween (nI v) 0 (nI c) = 0 := btw_ok (a := 0) (b := c) (Nat.zero_le _) h hc
/-- setSteam -/
theorem o_ss (h : CI n w f ny ns nz np) {g : Nat} (hg : g ≤ 100) : ∃ w1, fX6_setSteam w (nI g) = (f 2, w1) ∧ CI n w1 (upd f 2 (nI g)) ny ns nz np ∧ w1.1 0 = w.1 0 := by
  have e5 : (w.2.2.1 1).1 5 = f 2 := h.1.2.2.2.1.2.2.1.symm
  unfold fX6_setSteam
  simp only [bnd]
  rw [if_neg (show ¬ fX6_isBetween (nI g) 0 100 = 0 from btw_0c hg (by decide)), e5]
  by_cases c : f 2 = nI g
  · rw [if_pos c, upd_id f 2 c]
    exact ⟨w, rfl, h, rfl⟩
  · rw [if_neg c, bc_1 h]
    obtain ⟨x, -, y⟩ := ci_ch h (st_pr h.1 hg)
    exact ⟨_, rfl, x, y⟩
/-- setTolerance -/
theorem o_sl (h : CI n w f ny ns nz np) {x y : Nat} (hx : x ≤ 500) (hy : y ≤ 255) : ∃ w1, fX6_setTolerance w (nI x) (nI y) = (f 0, w1) ∧ CI n w1 (upd (upd f 0 (nI x)) 1 (nI y)) ny ns nz np ∧ w1.1 0 = w.1 0 := by
  have e3 : (w.2.2.1 1).1 3 = f 0 := h.1.2.2.2.1.1.symm
  have e4 : (w.2.2.1 1).1 4 = f 1 := h.1.2.2.2.1.2.1.symm
  have ht : ¬ fX6_areTolerances (nI x) (nI y) = 0 := by
    unfold fX6_areTolerances
    rw [if_neg (show ¬ fX6_isBetween (nI x) 0 500 = 0 from btw_0c hx (by decide)), if_neg (show ¬ fX6_isBetween (nI y) 0 255 = 0 from btw_0c hy (by decide))]
    decide
  obtain ⟨z1, -, z2⟩ := ci_ch h (tl_pr h.1 hx hy)
  unfold fX6_setTolerance
  simp only [bnd]
  rw [if_neg ht, e3, e4, bc_1 h]
  by_cases c : f 0 = nI x
  · rw [if_pos c]
    by_cases c2 : f 1 = nI y
    · rw [if_pos c2, upd_id f 0 c, upd_id f 1 c2]
      exact ⟨w, rfl, h, rfl⟩
    · rw [if_neg c2]
      exact ⟨_, by rw [hz_wPP], z1, z2⟩
  · rw [if_neg c]
    exact ⟨_, by rw [hz_wPP], z1, z2⟩
/-- day -/
theorem o_da (h : CI n w f ny ns nz np) : ∃ w1, fX6_day w = ((fX5_passDay (w.2.2.1 1)).1, w1) ∧ CI n w1 (gDy f) ny ns nz np := by
  unfold fX6_day
  simp only [bnd]
  rw [bc_1 h]
  exact ⟨_, rfl, (ci_ch h (d_pr h.1)).1⟩
end CHG
