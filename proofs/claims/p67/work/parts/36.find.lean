/-! The class finds the best pairing. -/
/-- a pairing's partners fit each other; as many pairs as counted -/
def hz_cnt (P : Nat → Int32) : Nat → Nat
  | 0 => 0
  | n + 1 => hz_cnt P n + (if P n ≤ nI n then 0 else 1)
def hz_vp (np : Nat) (P : Nat → Int32) : Prop := ∀ j, j < 14 → P j = -1 ∨ ∃ q, q < np ∧ j < np ∧ q ≠ j ∧ P j = nI q ∧ P q = nI j
theorem hz_cntC {P Q : Nat → Int32} : ∀ n, (∀ j, j < n → (P j ≤ nI j ↔ Q j ≤ nI j)) → hz_cnt P n = hz_cnt Q n
  | 0, _ => rfl
  | n + 1, h => by
    simp only [hz_cnt]
    rw [hz_cntC n (fun j hj => h j (by omega))]
    by_cases hq : Q n ≤ nI n
    · rw [if_pos hq, if_pos ((h n (by omega)).mpr hq)]
    · rw [if_neg hq, if_neg (fun e => hq ((h n (by omega)).mp e))]
theorem hz_cntU {P Q : Nat → Int32} {i : Nat} (h1 : P i ≤ nI i) (h2 : ¬ Q i ≤ nI i) : ∀ n, (∀ j, j < n → j ≠ i → (P j ≤ nI j ↔ Q j ≤ nI j)) → i < n → hz_cnt Q n = hz_cnt P n + 1
  | 0, _, h => absurd h (Nat.not_lt_zero _)
  | n + 1, h, hi => by
    simp only [hz_cnt]
    by_cases e : i = n
    · subst e
      rw [hz_cntC i (fun j hj => h j (by omega) (by omega)), if_pos h1, if_neg h2]
    · have ih := hz_cntU h1 h2 n (fun j hj hne => h j (by omega) hne) (by omega)
      rw [ih]
      have := h n (by omega) (by omega)
      by_cases hq : Q n ≤ nI n
      · rw [if_pos hq, if_pos (this.mpr hq)]
      · rw [if_neg hq, if_neg (fun e => hq (this.mp e))]
theorem hz_m1le {j : Nat} (h : j < 1000000) : (-1 : Int32) ≤ nI j := by
  rw [hz_le, nI_toInt (by omega), show (-1 : Int32).toInt = -1 from rfl]
  omega
/-- the counted pairing is a pairing -/
theorem hz_Gv {A : Nat → Nat → Bool} {g : Nat → Nat → Int} {np : Nat} (hnp : np ≤ 14) (hA : ∀ i j, A i j = true → i < np ∧ j < np) : ∀ (k : Nat) (S : Nat → Bool) (t : hz_GT), k ≤ 14 → (∀ j, S j = true → j < np) → (∀ j, j < 14 → S j = true → t.1 j = -1) → hz_vp np t.1 → hz_cnt t.1 14 = t.2.1 → hz_vp np (hz_G A g k S t).1 ∧ hz_cnt (hz_G A g k S t).1 14 = (hz_G A g k S t).2.1
  | 0, _, _, _, _, _, h1, h2 => ⟨h1, h2⟩
  | k + 1, S, t, hk, hS, hP, h1, h2 => by
    simp only [hz_G]
    have r1 : ∀ (U : Nat → Bool) q, (∀ j, U j = true → j < np) → ∀ j, hz_rm U q j = true → j < np := fun U q hU j hj => by
      simp only [hz_rm, Bool.and_eq_true] at hj
      exact hU j hj.1
    by_cases hSi : S (13 - k) = true
    · rw [if_pos hSi]
      have hPi := hP (13 - k) (by omega) hSi
      by_cases hn : hz_nd (hz_cS A g S (13 - k)) 14 = -1
      · rw [if_pos hn]
        have eu : upd t.1 (13 - k) (-1) = t.1 := by
          funext j
          by_cases hj : j = 13 - k
          · rw [hj, pk_us, hPi]
          · rw [pk_un hj]
        rw [eu]
        refine hz_Gv hnp hA k _ _ (by omega) (r1 _ _ hS) (fun j hj hjS => ?_) h1 h2
        simp only [hz_rm, Bool.and_eq_true] at hjS
        exact hP j hj hjS.1
      · obtain ⟨q, q1, q2, q3, q4, q5, q6⟩ := hz_some hn
        have hq := hA _ _ q5
        have hPq := hP q q1 q4
        rw [if_neg hn, q2, nI_clamp (by omega)]
        generalize hI : 13 - k = i at *
        have ui : upd (upd t.1 i (nI q)) q (nI i) i = nI q := by rw [pk_un (by omega), pk_us]
        have uq : upd (upd t.1 i (nI q)) q (nI i) q = nI i := pk_us
        have un : ∀ j, j ≠ i → j ≠ q → upd (upd t.1 i (nI q)) q (nI i) j = t.1 j := fun j e1 e2 => by rw [pk_un e2, pk_un e1]
        refine hz_Gv hnp hA k _ _ (by omega) (r1 _ _ (r1 _ _ hS)) (fun j hj hjS => ?_) (fun j hj => ?_) ?_
        · simp only [hz_rm, Bool.and_eq_true, Bool.not_eq_true', decide_eq_false_iff_not] at hjS
          show upd (upd t.1 i (nI q)) q (nI i) j = -1
          rw [un j hjS.1.2 hjS.2]
          exact hP j hj hjS.1.1
        · show upd (upd t.1 i (nI q)) q (nI i) j = -1 ∨ ∃ q1, q1 < np ∧ j < np ∧ q1 ≠ j ∧ upd (upd t.1 i (nI q)) q (nI i) j = nI q1 ∧ upd (upd t.1 i (nI q)) q (nI i) q1 = nI j
          by_cases e1 : j = i
          · right
            rw [e1]
            exact ⟨q, hq.2, hq.1, by omega, ui, uq⟩
          · by_cases e2 : j = q
            · right
              rw [e2]
              exact ⟨i, hq.1, hq.2, by omega, uq, ui⟩
            · rw [un j e1 e2]
              rcases h1 j hj with h | ⟨s, s1, s2, s3, s4, s5⟩
              · exact Or.inl h
              · right
                have n1 : s ≠ i := fun e => by
                  rw [e, hPi] at s5
                  exact hz_nIm1 (by omega) s5.symm
                have n2 : s ≠ q := fun e => by
                  rw [e, hPq] at s5
                  exact hz_nIm1 (by omega) s5.symm
                exact ⟨s, s1, s2, s3, s4, by rw [un s n1 n2]; exact s5⟩
        · show hz_cnt (upd (upd t.1 i (nI q)) q (nI i)) 14 = t.2.1 + 1
          rw [← h2]
          refine hz_cntU (i := i) (by rw [hPi]; exact hz_m1le (by omega)) (by rw [ui]; exact nI_ge q3 (by omega)) 14 (fun j hj hne => ?_) (by omega)
          by_cases e2 : j = q
          · rw [e2, uq, hPq]
            exact ⟨fun _ => nI_le (by omega) (by omega), fun _ => hz_m1le (by omega)⟩
          · rw [un j hne e2]
    · rw [if_neg hSi]
      exact hz_Gv hnp hA k S t (by omega) hS hP h1 h2
section HZM
variable {p : Pl} {f : Nat → Int32} {ny ns nz np : Nat}
theorem hz_Bv (hP : hz_PR p f ny ns nz np) : hz_vp np (hz_B p np).1 ∧ hz_cnt (hz_B p np).1 14 = (hz_B p np).2.1 := by
  unfold hz_B
  refine hz_Gv hP.2.1.2.2.2 (hz_An p np) 14 (hz_aS np) _ (Nat.le_refl _) (fun j hj => by unfold hz_aS at hj; simpa using hj) (fun _ _ _ => rfl) (fun _ _ => Or.inl rfl) ?_
  have : ∀ n, n ≤ 14 → hz_cnt (fun _ => (-1 : Int32)) n = 0 := by
    intro n
    induction n with
    | zero => intro _; rfl
    | succ n ih =>
      intro h
      simp only [hz_cnt]
      rw [ih (by omega), if_pos (hz_m1le (by omega))]
  exact this 14 (Nat.le_refl _)
theorem hz_Bn (hP : hz_PR p f ny ns nz np) : (hz_B p np).2.1 ≤ 7 ∧ 0 ≤ (hz_B p np).2.2 ∧ (hz_B p np).2.2 ≤ 100000 ∧ 100000 * ((hz_B p np).2.1 : Int) - (hz_B p np).2.2 = hz_W (hz_A p np) (hz_g p np) (hz_aS np) := by
  obtain ⟨g0, g1⟩ := hz_gg hP
  obtain ⟨d, w, b1, b2, b3, b4⟩ := hz_GW (A := hz_A p np) g0 g1 14 (hz_aS np) (fun _ => -1, 0, 0) (Nat.le_refl _) (fun j hj => absurd hj (by omega))
  have eB1 : (hz_B p np).2.1 = d := by
    unfold hz_B
    rw [b1]; exact Nat.zero_add d
  have eB2 : (hz_B p np).2.2 = w := by
    unfold hz_B
    rw [b1]; exact Int.zero_add w
  have r := hz_Wr hP (hz_aS np)
  rw [eB1, eB2]
  omega
/-- the pairing is dissolved -/
theorem hz_disL : ∀ (fu i : Nat) (y : Wd), i ≤ 14 → 14 < fu + i → hz_ws (fun k => k = 3) y (fX3_dissolve_12 fu (nI i) y).2 ∧ (∀ j, j < i → (fX3_dissolve_12 fu (nI i) y).2.2.1 3 j = y.2.1 3 j) ∧ (∀ j, i ≤ j → j < 14 → (fX3_dissolve_12 fu (nI i) y).2.2.1 3 j = -1) := by
  intro fu
  induction fu with
  | zero => intro i y h1 h2; omega
  | succ fu ih =>
    intro i y hi hf
    simp only [fX3_dissolve_12]
    by_cases h : (14 : Int32) ≤ nI i
    · rw [if_pos h]
      have h' : nI 14 ≤ nI i := h
      rw [nI_leI (by omega) (by omega)] at h'
      exact ⟨hz_ws0 y, fun _ _ => rfl, fun j h1 h2 => by omega⟩
    · have hi : i < 14 := hz_c (n := 14) hi (by omega) h
      rw [if_neg h, ← nI_succ, hz_put _ _ hi (by decide)]
      obtain ⟨a1, a2, a3⟩ := ih (i + 1) (wA y 3 (upd (y.2.1 3) i (-1))) hi (by omega)
      refine ⟨hz_wsT (hz_wsA (R := fun k => k = 3) y (k := 3) rfl _) a1, fun j hj => ?_, fun j h1 h2 => ?_⟩
      · rw [a2 j (by omega), hz_wAs, pk_un (by omega)]
      · by_cases e : j = i
        · rw [e, a2 i (by omega), hz_wAs, pk_us]
        · exact a3 j (by omega) h2
/-- the partners, from the lowest piece on -/
theorem hz_puL (hP : hz_PR p f ny ns nz np) {r : Nat} (hr : r < 2 ^ 40) : ∀ (k fu S : Nat) (y : Wd) (t : hz_GT), k ≤ 14 → k < fu → S < 2 ^ np → (∀ j, j < 14 - k → bt (nI S) j = false) → 2 * t.2.1 + hz_pop 14 (bt (nI S)) ≤ 14 → y.2.2.2.2.1 = lN r → hz_fr8 (hz_A p np) np (y.2.1 1) → hz_gp (hz_A p np) (hz_g p np) (y.2.1 2) → hz_me (hz_A p np) (hz_g p np) y.2.2.2.1 y.2.2.2.2.1 → y.2.1 3 = t.1 → (∀ j, j < 14 → bt (nI S) j = true → t.1 j = -1) → y.1 14 = nI t.2.1 → (y.1 15).toInt = t.2.2 → 0 ≤ t.2.2 → t.2.2 ≤ 12049 * (t.2.1 : Int) →
    ∃ w1, (fX2_pairUp_21_219_14 fu (nI (14 - k)) (nI S) y).2.2 = w1 ∧ w1.2.1 3 = (hz_G (hz_A p np) (hz_g p np) k (bt (nI S)) t).1 ∧ w1.1 14 = nI (hz_G (hz_A p np) (hz_g p np) k (bt (nI S)) t).2.1 ∧ (w1.1 15).toInt = (hz_G (hz_A p np) (hz_g p np) k (bt (nI S)) t).2.2 ∧ hz_mo w1 r ∧ (∀ q, ¬ q = 14 → ¬ q = 15 → w1.1 q = y.1 q) ∧ (∀ q, ¬ q = 3 → w1.2.1 q = y.2.1 q) ∧ w1.2.2.1 = y.2.2.1 ∧ w1.2.2.2.2.2 = y.2.2.2.2.2 := by
  have hn : np ≤ 14 := hP.2.1.2.2.2
  have hpw := hz_pw hn
  obtain ⟨g0, g1⟩ := hz_gg hP
  intro k
  induction k with
  | zero =>
    intro fu S y t hk hf hS hlo hpp hR hF hG hme ht hP1 hc hs hs0 hs1
    match fu, hf with
    | fu + 1, _ =>
      simp only [fX2_pairUp_21_219_14]
      rw [if_pos (show (14 : Int32) ≤ nI (14 - 0) from Int32.le_refl _)]
      exact ⟨y, rfl, ht, hc, hs, hz_meo (w := y) (K := y.2.2.2.1) hr hR hme, fun _ _ _ => rfl, fun _ _ => rfl, rfl, rfl⟩
  | succ k ih =>
    intro fu S y t hk hf hS hlo hpp hR hF hG hme ht hP1 hc hs hs0 hs1
    match fu, hf with
    | fu + 1, hf =>
      have e13 : 14 - (k + 1) = 13 - k := by omega
      rw [e13]
      simp only [fX2_pairUp_21_219_14, bnd]
      have hnle : ¬ (14 : Int32) ≤ nI (13 - k) := nI_ge (a := 13 - k) (b := 14) (by omega) (by omega)
      have enx : nI (13 - k) + 1 = nI (14 - k) := by rw [← nI_succ, show 13 - k + 1 = 14 - k by omega]
      rw [if_neg hnle, enx]
      cases hb : bt (nI S) (13 - k)
      · have eg : hz_G (hz_A p np) (hz_g p np) (k + 1) (bt (nI S)) t = hz_G (hz_A p np) (hz_g p np) k (bt (nI S)) t := by
          simp only [hz_G]
          rw [if_neg (by rw [hb]; decide)]
        rw [hz_cnF (by omega) hb, if_pos rfl, eg]
        exact ih fu S y t (by omega) (by omega) hS (fun j hj => by
          by_cases e : j = 13 - k
          · rw [e]; exact hb
          · exact hlo j (by omega)) hpp hR hF hG hme ht hP1 hc hs hs0 hs1
      · have hi : 13 - k < np := hz_btlt hS (by omega) hb
        have eg : hz_G (hz_A p np) (hz_g p np) (k + 1) (bt (nI S)) t = (if hz_nd (hz_cS (hz_A p np) (hz_g p np) (bt (nI S)) (13 - k)) 14 = -1 then hz_G (hz_A p np) (hz_g p np) k (hz_rm (bt (nI S)) (13 - k)) (upd t.1 (13 - k) (-1), t.2)
            else hz_G (hz_A p np) (hz_g p np) k (hz_rm (hz_rm (bt (nI S)) (13 - k)) (hz_nd (hz_cS (hz_A p np) (hz_g p np) (bt (nI S)) (13 - k)) 14).toNatClampNeg) (upd (upd t.1 (13 - k) (hz_nd (hz_cS (hz_A p np) (hz_g p np) (bt (nI S)) (13 - k)) 14)) (hz_nd (hz_cS (hz_A p np) (hz_g p np) (bt (nI S)) (13 - k)) 14).toNatClampNeg (nI (13 - k)), t.2.1 + 1, t.2.2 + (hz_g p np) (13 - k) (hz_nd (hz_cS (hz_A p np) (hz_g p np) (bt (nI S)) (13 - k)) 14).toNatClampNeg)) := by
          simp only [hz_G]
          rw [if_pos hb]
        obtain ⟨K1, l1, l2⟩ := hz_lp hP hr hR hF hG hS hi hb hme
        rw [hz_cnT (by omega) hb, if_neg (by decide), l1, eg]
        have hPi := hP1 (13 - k) (by omega) hb
        obtain ⟨N1, n1, e3⟩ := hz_andN (S := S) (((1 : Int32) <<< (nI (13 - k) &&& 31)) ^^^ (-1))
        have hcF := hz_clrF (nI S) (show 13 - k < 32 by omega)
        have hpr := hz_popR 14 (bt (nI S)) (13 - k) (by omega) (by omega) (by omega) hb
        have lo1 : ∀ j, j < 14 - k → hz_rm (bt (nI S)) (13 - k) j = false := fun j hj => by
          by_cases hj2 : j = 13 - k
          · rw [hj2, hz_rms]
          · rw [hz_rmn _ hj2]; exact hlo j (by omega)
        rw [e3] at hcF ⊢
        by_cases hnd : hz_nd (hz_cS (hz_A p np) (hz_g p np) (bt (nI S)) (13 - k)) 14 = -1
        · have eu : upd t.1 (13 - k) (-1) = t.1 := by
            funext j
            by_cases hj : j = 13 - k
            · rw [hj, pk_us, hPi]
            · rw [pk_un hj]
          rw [if_pos hnd, if_pos hnd, eu, ← hcF]
          obtain ⟨w1, c1, c2, c3, c4, c5, c6, c7, c8, c9⟩ := ih fu N1 (wK y K1) t (by omega) (by omega) (by omega) (by rw [hcF]; exact lo1) (by rw [hcF]; omega) hR hF hG l2 ht (fun j hj hjS => by
            rw [hcF] at hjS
            simp only [hz_rm, Bool.and_eq_true] at hjS
            exact hP1 j hj hjS.1) hc hs hs0 hs1
          exact ⟨w1, c1, c2, c3, c4, c5, c6, c7, c8, c9⟩
        · obtain ⟨q, q1, q2, q3, q4, q5, q6⟩ := hz_some hnd
          have hq : q < np := (hz_An p np _ _ q5).2
          have hPq := hP1 q q1 q4
          rw [if_neg hnd, if_neg hnd, q2, nI_clamp (by omega)]
          obtain ⟨N2, n2, e4⟩ := hz_andN (S := N1) (((1 : Int32) <<< (nI q &&& 31)) ^^^ (-1))
          have hcF2 := hz_clrF (nI N1) (show q < 32 by omega)
          have hqr : hz_rm (bt (nI S)) (13 - k) q = true := by rw [hz_rmn _ (by omega)]; exact q4
          have hpr2 := hz_popR 14 (hz_rm (bt (nI S)) (13 - k)) q (by omega) (by omega) (by omega) hqr
          rw [hcF] at hcF2
          rw [e4] at hcF2 ⊢
          have eg2 := hz_gapB (w := wK y K1) hG q3 q1 q5
          have b0 := g0 (13 - k) q
          have b1 := g1 (13 - k) q
          generalize hZ : fX3_join (wK y K1) (nI (13 - k)) (nI q) (fX2_gapBetween (wK y K1) (nI (13 - k)) (nI q)) = Z
          have z3 : Z.2.1 3 = upd (upd t.1 (13 - k) (nI q)) q (nI (13 - k)) := by
            rw [← hZ]
            show fX6_put 14 (fX6_put 14 (y.2.1 3) (nI (13 - k)) (nI q)) (nI q) (nI (13 - k)) = _
            rw [hz_put _ _ (show 13 - k < 14 by omega) (by decide), hz_put _ _ q1 (by decide), ht]
          have z14 : Z.1 14 = nI (t.2.1 + 1) := by
            rw [← hZ]
            show y.1 14 + 1 = _
            rw [hc, ← nI_succ]
          have z15 : (Z.1 15).toInt = t.2.2 + hz_g p np (13 - k) q := by
            rw [← hZ]
            show (y.1 15 + fX2_gapBetween (wK y K1) (nI (13 - k)) (nI q)).toInt = _
            rw [i32_add (by rw [hs, eg2]; omega) (by rw [hs, eg2]; omega), hs, eg2]
          have zo : (∀ q, ¬ q = 14 → ¬ q = 15 → Z.1 q = y.1 q) ∧ (∀ q, ¬ q = 3 → Z.2.1 q = y.2.1 q) ∧ Z.2.2 = (wK y K1).2.2 := by
            rw [← hZ]
            refine ⟨fun q h1 h2 => ?_, fun q h1 => ?_, rfl⟩
            · show (if q = 15 then _ else if q = 14 then _ else y.1 q) = _
              rw [if_neg h2, if_neg h1]
            · show (if q = 3 then _ else if q = 3 then _ else y.2.1 q) = _
              rw [if_neg h1, if_neg h1]
          obtain ⟨zo1, zo2, zo3⟩ := zo
          obtain ⟨w1, c1, c2, c3, c4, c5, c6, c7, c8, c9⟩ := ih fu N2 Z (upd (upd t.1 (13 - k) (nI q)) q (nI (13 - k)), t.2.1 + 1, t.2.2 + hz_g p np (13 - k) q) (by omega) (by omega) (by omega) (by
            rw [hcF2]; intro j hj; unfold hz_rm at lo1 ⊢; rw [lo1 j hj]; rfl) (by rw [hcF2]; show 2 * (t.2.1 + 1) + _ ≤ _; omega) (by rw [zo3]; exact hR) (by rw [zo2 1 (by decide)]; exact hF) (by rw [zo2 2 (by decide)]; exact hG) (by rw [zo3]; exact l2) z3 (fun j hj hjS => by
            rw [hcF2] at hjS
            simp only [hz_rm, Bool.and_eq_true, Bool.not_eq_true', decide_eq_false_iff_not] at hjS
            show upd (upd t.1 (13 - k) (nI q)) q (nI (13 - k)) j = -1
            rw [pk_un hjS.2, pk_un hjS.1.2]
            exact hP1 j hj hjS.1.1) z14 z15 (by show 0 ≤ t.2.2 + _; omega) (by show t.2.2 + _ ≤ 12049 * ((t.2.1 + 1 : Nat) : Int); omega)
          rw [← hcF2]
          refine ⟨w1, c1, c2, c3, c4, c5, fun j h1 h2 => (c6 j h1 h2).trans (zo1 j h1 h2), fun j h1 => (c7 j h1).trans (zo2 j h1), c8.trans ?_, c9.trans ?_⟩
          · rw [zo3]; rfl
          · rw [zo3]; rfl
theorem hz_aSlt {n j : Nat} (h : hz_aS n j = true) : j < n := by unfold hz_aS at h; simpa using h
/-- the class knows the best pairing of its plant -/
def hz_kn (w : Wd) (p : Pl) (np : Nat) : Prop := (∀ j, j < 14 → w.2.1 3 j = (hz_B p np).1 j) ∧ w.1 14 = nI (hz_B p np).2.1 ∧ (w.1 15).toInt = (hz_B p np).2.2
theorem hz_pairUp (hP : hz_PR p f ny ns nz np) {w : Wd} (hw : w.2.2.1 1 = p) {r : Nat} (hr : r + 1 < 2 ^ 40) (hmo : hz_mo w r) : ∃ w1, fX2_pairUp_21_219 w = w1 ∧ hz_kn w1 p np ∧ hz_mo w1 (r + 1) ∧ (∀ q, ¬ q = 14 → ¬ q = 15 → w1.1 q = w.1 q) ∧ (∀ q, ¬ q = 1 → ¬ q = 2 → ¬ q = 3 → w1.2.1 q = w.2.1 q) ∧ w1.2.2.1 = w.2.2.1 ∧ w1.2.2.2.2.2 = w.2.2.2.2.2 := by
  have hn : np ≤ 14 := hP.2.1.2.2.2
  have hpw := hz_pw hn
  obtain ⟨x, w1, e1, h1, hF, hG, hme, ⟨S, hS, hx⟩, hall⟩ := hz_take_21 hn hP.1.2.2.2 (hz_sym hP) (hz_irr p np) 1 hw hr hmo.1 hmo.2
  rw [hx] at hall
  rw [hz_gz1] at hG hme
  obtain ⟨q1, q2, q3⟩ := hz_Wall hP (hz_g p np) hS hall
  have hR1 : w1.2.2.2.2.1 = lN (r + 1) := by rw [h1.2.1]; rfl
  unfold fX2_pairUp_21_219
  simp only [bnd, e1]
  rw [hx]
  unfold fX3_dissolve
  simp only [bnd]
  have hfu : fuU 14 0 = 15 := by
    unfold fuU
    rw [show (14 : Int32).toInt = 14 from rfl, show (0 : Int32).toInt = 0 from rfl]
    rfl
  have D := hz_disL (fuU 14 0) 0 (wS (wS w1 14 0) 15 0) (Nat.zero_le _) (by omega)
  rw [nI_0] at D
  obtain ⟨d1, d2, d3⟩ := D
  generalize (fX3_dissolve_12 (fuU 14 0) 0 (wS (wS w1 14 0) 15 0)).2 = y at *
  have hpop := hz_pop14 14 (bt (nI S))
  have L := hz_puL hP (r := r + 1) (by omega) 14 (fuU 14 0) S y (y.2.1 3, 0, 0) (Nat.le_refl _) (by omega) hS (fun j hj => absurd hj (by omega)) (by show 2 * 0 + _ ≤ 14; omega) (by rw [d1.2.1]; exact hR1) (by rw [d1.2.2 1 (by decide)]; exact hF) (by rw [d1.2.2 2 (by decide)]; exact hG) (by rw [d1.2.1]; exact hme) rfl (fun j hj _ => d3 j (Nat.zero_le _) hj) (by rw [d1.1]; rfl) (by rw [d1.1]; rfl) (Int.le_refl 0) (by show (0 : Int) ≤ 12049 * ((0 : Nat) : Int); decide)
  rw [show nI (14 - 14) = 0 from rfl] at L
  obtain ⟨v, c1, c2, c3, c4, c5, c6, c7, c8, c9⟩ := L
  refine ⟨v, c1, ?_, c5, fun q g1 g2 => ?_, fun q g1 g2 g3 => ?_, ?_, ?_⟩
  · have eM := hz_GM (A := hz_A p np) (g := hz_g p np) 14 (hz_aS np) (bt (nI S)) (y.2.1 3, 0, 0) (Nat.le_refl _) q1 q2 (fun j hj _ => d3 j (Nat.zero_le _) hj)
    have eC := hz_Gc (A := hz_A p np) (g := hz_g p np) (n := 14) (fun i j h => ⟨Nat.lt_of_lt_of_le (hz_An p np i j h).1 hn, Nat.lt_of_lt_of_le (hz_An p np i j h).2 hn⟩) 14 (hz_aS np) (y.2.1 3, 0, 0) (fun _ => -1, 0, 0) (fun j hj => Nat.lt_of_lt_of_le (hz_aSlt hj) hn) rfl (fun j hj => d3 j (Nat.zero_le _) hj)
    rw [← eM] at c2 c3 c4
    refine ⟨fun j hj => by rw [c2]; exact eC.2 j hj, ?_, ?_⟩
    · rw [c3, eC.1]; rfl
    · rw [c4, eC.1]; rfl
  · rw [c6 q g1 g2, d1.1]
    show (if q = 15 then _ else if q = 14 then _ else w1.1 q) = _
    rw [if_neg g2, if_neg g1, h1.1]
    rfl
  · rw [c7 q g3, d1.2.2 q g3]
    show w1.2.1 q = _
    rw [h1.2.2 q (by omega)]
    rfl
  · rw [c8, d1.2.1]
    show w1.2.2.1 = _
    rw [h1.2.1]; rfl
  · rw [c9, d1.2.1]
    show w1.2.2.2.2.2 = _
    rw [h1.2.1]; rfl
end HZM
