/-! The model lays out the partners of the best pairing. -/
section HZI
variable {p : Pl} {ny ns nz np : Nat}
theorem hz_lp37 (z : Int32) : ∀ (k fu S : Nat) (y : Md) (t : hz_GT), k ≤ 14 → S < 2 ^ np → (∀ j, j < 14 - k → bt (nI S) j = false) → hz_pop 14 (bt (nI S)) < fu → hz_PR p (y.2.1 y.2.2) ny ns nz np → y.2.2 ≤ 2 → (∀ i, i < np → y.2.1 4 i = fX5_matchSet p (nI i)) → hz_wl p np (2 ^ np) (y.2.1 3) → y.2.1 5 = t.1 →
    sX7_layPartners_37 z fu (nI S) y ∧ hz_k (fun k => k = 5) y (fX7_layPartners_37 z fu (nI S) y).2 ∧ (fX7_layPartners_37 z fu (nI S) y).2.2.1 5 = (hz_G (hz_A p np) (hz_g p np) k (bt (nI S)) t).1 := by
  intro k
  induction k with
  | zero =>
    intro fu S y t hk hS hlo hf hP hn2 hm hw ht
    have hn := hz_np hP
    have hpw := hz_pw hn
    have e0 : nI S = 0 := hz_ext (hz_Nsm (by omega)) hz_sm0 (fun i hi => by rw [hlo i (by omega), b_0])
    match fu, hf with
    | fu + 1, _ =>
      simp only [fX7_layPartners_37, sX7_layPartners_37]
      rw [if_pos e0]
      exact ⟨⟨fun _ => trivial, fun h => absurd e0 h⟩, hz_k0 y, ht⟩
  | succ k ih =>
    intro fu S y t hk hS hlo hf hP hn2 hm hw ht
    have hn := hz_np hP
    have hpw := hz_pw hn
    obtain ⟨c1, c2⟩ := hz_count hP
    by_cases hbi : bt (nI S) (13 - k) = true
    · have hlow : ∀ j, j < 13 - k → bt (nI S) j = false := fun j hj => hlo j (by omega)
      have hne : ¬ nI S = 0 := fun e => by rw [e, b_0] at hbi; exact absurd hbi (by decide)
      obtain ⟨i, i14, eL, hb2, hl2, sL⟩ := hz_lowest (hz_Nsm (by omega)) hne
      have hii : i = 13 - k := by
        rcases Nat.lt_trichotomy i (13 - k) with h | h | h
        · rw [hlow i h] at hb2; exact absurd hb2 (by decide)
        · exact h
        · rw [hl2 _ h] at hbi; exact absurd hbi (by decide)
      rw [hii] at eL
      have hi : 13 - k < np := hz_btlt hS (by omega) hbi
      generalize hI : 13 - k = i at *
      match fu, hf with
      | fu + 1, hf =>
        have eg : hz_G (hz_A p np) (hz_g p np) (k + 1) (bt (nI S)) t = (if hz_nd (hz_cS (hz_A p np) (hz_g p np) (bt (nI S)) i) 14 = -1 then hz_G (hz_A p np) (hz_g p np) k (hz_rm (bt (nI S)) i) (upd t.1 i (-1), t.2)
            else hz_G (hz_A p np) (hz_g p np) k (hz_rm (hz_rm (bt (nI S)) i) (hz_nd (hz_cS (hz_A p np) (hz_g p np) (bt (nI S)) i) 14).toNatClampNeg) (upd (upd t.1 i (hz_nd (hz_cS (hz_A p np) (hz_g p np) (bt (nI S)) i) 14)) (hz_nd (hz_cS (hz_A p np) (hz_g p np) (bt (nI S)) i) 14).toNatClampNeg (nI i), t.2.1 + 1, t.2.2 + (hz_g p np) i (hz_nd (hz_cS (hz_A p np) (hz_g p np) (bt (nI S)) i) 14).toNatClampNeg)) := by
          simp only [hz_G]
          rw [hI, if_pos hbi]
        obtain ⟨q0, eq0⟩ : ∃ q0, np = q0 + 1 := ⟨np - 1, by omega⟩
        have ecq : fX7_count y - 1 = nI q0 := by rw [c1, eq0]; exact nI_pred q0
        obtain ⟨x1, x2⟩ := hz_lp66 hS hi hbi z hP (hm i hi) hw 20 q0 (-1) (by omega) (by omega) (by omega) (Or.inl ⟨rfl, fun j hj => by
          show (decide (q0 < j) && hz_cS _ _ _ _ _) = false
          by_cases hj2 : q0 < j
          · have hA0 : hz_A p np i j = false := by
              unfold hz_A
              rw [decide_eq_false (show ¬ j < np by omega), Bool.and_false, Bool.false_and]
            unfold hz_cS
            rw [hA0, Bool.and_false, Bool.false_and, Bool.and_false]
          · rw [decide_eq_false hj2, Bool.false_and]⟩)
        simp only [fX7_layPartners_37, sX7_layPartners_37, bnd]
        rw [if_neg hne, eL, ecq, nI_clamp (by omega)]
        have eR := hz_nxU x2 (hz_ndx _)
        rw [eR, eg]
        have hcF := hz_clrF (nI S) (show i < 32 by omega)
        obtain ⟨N1, n1, e3⟩ := hz_andN (S := S) (((1 : Int32) <<< (nI i &&& 31)) ^^^ (-1))
        have hpp := hz_popR 14 (bt (nI S)) i (by omega) (by omega) (by omega) hbi
        have lo1 : ∀ j, j < 14 - k → hz_rm (bt (nI S)) i j = false := fun j hj => by
          by_cases hj2 : j = i
          · rw [hj2, hz_rms]
          · rw [hz_rmn _ hj2]; exact hlow j (by omega)
        have kA : ∀ (y : Md) (f : Nat → Int32), hz_k (fun k => k = 5) y (mA y 5 f) := fun y f => hz_kA (R := fun k => k = 5) y (k := 5) rfl f
        have hk1 := kA y (upd (y.2.1 5) i (hz_nd (hz_cS (hz_A p np) (hz_g p np) (bt (nI S)) i) 14))
        by_cases hnd : hz_nd (hz_cS (hz_A p np) (hz_g p np) (bt (nI S)) i) 14 = -1
        · rw [if_pos hnd, if_pos hnd]
          rw [hnd] at hk1 ⊢
          rw [e3] at hcF ⊢
          obtain ⟨a1, a2, a3⟩ := ih fu N1 (mA y 5 (upd (y.2.1 5) i (-1))) (upd t.1 i (-1), t.2) (by omega) (by omega) (by rw [hcF]; exact lo1) (by rw [hcF]; omega) (hz_kP hk1 hn2 (by omega) hP) hn2 hm hw (by rw [hz_mAs, ht])
          rw [e3] at x1
          rw [← hcF]
          exact ⟨⟨fun h2 => absurd h2 hne, fun _ => ⟨sL, x1, vp_in_nI (by omega) (by omega), fun _ => a1, fun h2 => absurd rfl h2⟩⟩, hz_kT hk1 a2, a3⟩
        · obtain ⟨q, q1, q2, q3, q4, q5, q6⟩ := hz_some hnd
          have hq : q < np := by
            unfold hz_A at q5
            simp only [Bool.and_eq_true, decide_eq_true_eq] at q5
            exact q5.1.2
          rw [if_neg hnd, if_neg hnd]
          rw [q2] at hk1 ⊢
          rw [nI_clamp (by omega)]
          obtain ⟨N2, n2, e4⟩ := hz_andN (S := N1) (((1 : Int32) <<< (nI q &&& 31)) ^^^ (-1))
          have hcF2 := hz_clrF (nI N1) (show q < 32 by omega)
          have hqr : hz_rm (bt (nI S)) i q = true := by rw [hz_rmn _ (by omega)]; exact q4
          have hpp2 := hz_popR 14 (hz_rm (bt (nI S)) i) q (by omega) (by omega) (by omega) hqr
          rw [e3] at hcF x1 ⊢
          rw [e4] at hcF2 ⊢
          rw [hcF] at hcF2
          have hk2 := kA (mA y 5 (upd (y.2.1 5) i (nI q))) (upd ((mA y 5 (upd (y.2.1 5) i (nI q))).2.1 5) q (nI i))
          obtain ⟨a1, a2, a3⟩ := ih fu N2 (mA (mA y 5 (upd (y.2.1 5) i (nI q))) 5 (upd ((mA y 5 (upd (y.2.1 5) i (nI q))).2.1 5) q (nI i))) (upd (upd t.1 i (nI q)) q (nI i), t.2.1 + 1, t.2.2 + hz_g p np i q) (by omega) (by omega) (by
            rw [hcF2]; intro j hj; unfold hz_rm at lo1 ⊢; rw [lo1 j hj]; rfl) (by rw [hcF2]; omega) (hz_kP (hz_kT hk1 hk2) hn2 (by omega) hP) hn2 hm hw (by rw [hz_mAs, hz_mAs, ht])
          rw [← hcF2]
          exact ⟨⟨fun h2 => absurd h2 hne, fun _ => ⟨sL, x1, vp_in_nI (by omega) (by omega), fun h2 => absurd h2 (hz_nIm1 (by omega)), fun _ => ⟨vp_in_nI (by omega) (by omega), a1⟩⟩⟩, hz_kT hk1 (hz_kT hk2 a2), a3⟩
    · have eg : hz_G (hz_A p np) (hz_g p np) (k + 1) (bt (nI S)) t = hz_G (hz_A p np) (hz_g p np) k (bt (nI S)) t := by
        simp only [hz_G]
        rw [if_neg hbi]
      rw [eg]
      exact ih fu S y t (by omega) hS (fun j hj => by
        by_cases hj2 : j = 13 - k
        · rw [hj2]; simpa using hbi
        · exact hlo j (by omega)) hf hP hn2 hm hw ht
theorem hz_lp16 (z1 z2 : Int32) : ∀ (fu i : Nat) (y : Md), i ≤ np → np < fu + i → hz_PR p (y.2.1 y.2.2) ny ns nz np → y.2.2 ≤ 2 → sX7_layPartners_16 z1 z2 fu (nI i) y ∧ hz_k (fun k => k = 5) y (fX7_layPartners_16 z1 z2 fu (nI i) y).2 ∧ (∀ j, j < i → (fX7_layPartners_16 z1 z2 fu (nI i) y).2.2.1 5 j = y.2.1 5 j) ∧ ∀ j, i ≤ j → j < np → (fX7_layPartners_16 z1 z2 fu (nI i) y).2.2.1 5 j = -1 := by
  intro fu
  induction fu with
  | zero => intro i y h1 h2; omega
  | succ fu ih =>
    intro i y hi hf hP hn2
    have hn := hz_np hP
    obtain ⟨c1, c2⟩ := hz_count hP
    simp only [fX7_layPartners_16, sX7_layPartners_16, bnd, c1]
    by_cases h : nI np ≤ nI i
    · rw [if_pos h]
      rw [nI_leI (by omega) (by omega)] at h
      exact ⟨⟨fun _ => trivial, fun h2 => absurd (nI_le h (by omega)) h2⟩, hz_k0 y, fun _ _ => rfl, fun j h1 h2 => by omega⟩
    · have hi : i < np := hz_c hi (by omega) h
      rw [if_neg h, ← nI_succ, nI_clamp (by omega)]
      have hk : hz_k (fun k => k = 5) y (mA y 5 (upd (y.2.1 5) i (-1))) := hz_kA (R := fun k => k = 5) y (k := 5) rfl _
      obtain ⟨a1, a2, a3, a4⟩ := ih (i + 1) _ hi (by omega) (hz_kP hk hn2 (by omega) hP) hn2
      refine ⟨⟨fun h2 => absurd h2 h, fun _ => ⟨vp_in_nI (by omega) (by omega), a1⟩⟩, hz_kT hk a2, fun j hj => ?_, fun j h1 h2 => ?_⟩
      · rw [a3 j (by omega), hz_mAs, pk_un (by omega)]
      · by_cases hji : j = i
        · rw [hji, a3 i (by omega), hz_mAs, pk_us]
        · exact a4 j (by omega) h2
/-- the best pairing: partners, pairs, gaps -/
def hz_B (p : Pl) (n : Nat) : hz_GT := hz_G (hz_A p n) (hz_g p n) 14 (hz_aS n) (fun _ => -1, 0, 0)
theorem hz_Gc {A : Nat → Nat → Bool} {g : Nat → Nat → Int} {n : Nat} (hA : ∀ i j, A i j = true → i < n ∧ j < n) : ∀ (k : Nat) (S : Nat → Bool) (t u : hz_GT), (∀ j, S j = true → j < n) → t.2 = u.2 → (∀ j, j < n → t.1 j = u.1 j) → (hz_G A g k S t).2 = (hz_G A g k S u).2 ∧ ∀ j, j < n → (hz_G A g k S t).1 j = (hz_G A g k S u).1 j
  | 0, _, _, _, _, h1, h2 => ⟨h1, h2⟩
  | k + 1, S, t, u, hS, h1, h2 => by
    simp only [hz_G]
    have r1 : ∀ (U : Nat → Bool) q, (∀ j, U j = true → j < n) → ∀ j, hz_rm U q j = true → j < n := fun U q hU j hj => by
      simp only [hz_rm, Bool.and_eq_true] at hj
      exact hU j hj.1
    have r2 : ∀ (a b : Nat → Int32) (i : Nat) (v : Int32), (∀ j, j < n → a j = b j) → ∀ j, j < n → upd a i v j = upd b i v j := fun a b i v hab j hj => by
      by_cases hji : j = i
      · rw [hji, pk_us, pk_us]
      · rw [pk_un hji, pk_un hji]; exact hab j hj
    by_cases hSi : S (13 - k) = true
    · rw [if_pos hSi, if_pos hSi]
      by_cases hn : hz_nd (hz_cS A g S (13 - k)) 14 = -1
      · rw [if_pos hn, if_pos hn]
        exact hz_Gc hA k _ _ _ (r1 _ _ hS) h1 (r2 _ _ _ _ h2)
      · rw [if_neg hn, if_neg hn]
        exact hz_Gc hA k _ _ _ (r1 _ _ (r1 _ _ hS)) (by rw [h1]) (r2 _ _ _ _ (r2 _ _ _ _ h2))
    · rw [if_neg hSi, if_neg hSi]
      exact hz_Gc hA k S t u hS h1 h2
theorem hz_An (p : Pl) (n i j : Nat) (h : hz_A p n i j = true) : i < n ∧ j < n := by
  unfold hz_A at h
  simp only [Bool.and_eq_true, decide_eq_true_eq] at h
  exact h.1
theorem hz_layP {m : Md} (hP : hz_PR p (m.2.1 m.2.2) ny ns nz np) (hn2 : m.2.2 ≤ 2) : sX7_layPartners m ∧ (fX7_layPartners m).1 = nI (hz_B p np).2.1 ∧ (hz_B p np).2.1 ≤ 7 ∧ 100000 * ((hz_B p np).2.1 : Int) - (hz_B p np).2.2 = hz_W (hz_A p np) (hz_g p np) (hz_aS np) ∧ hz_k (fun k => k = 3 ∨ k = 4 ∨ k = 5) m (fX7_layPartners m).2 ∧ (∀ j, j < np → (fX7_layPartners m).2.2.1 5 j = (hz_B p np).1 j) := by
  have hn := hz_np hP
  have hpw := hz_pw hn
  obtain ⟨s, ⟨K, k7, e, k1, k2, k3⟩, k, hm, hw⟩ := hz_cntP hP hn2
  obtain ⟨g0, g1⟩ := hz_gg hP
  obtain ⟨d, w, b1, b2, b3, b4⟩ := hz_GW (A := hz_A p np) g0 g1 14 (hz_aS np) (fun _ => -1, 0, 0) (Nat.le_refl _) (fun j hj => absurd hj (by omega))
  have eB1 : (hz_B p np).2.1 = d := by
    unfold hz_B
    rw [b1]; exact Nat.zero_add d
  have eB2 : (hz_B p np).2.2 = w := by
    unfold hz_B
    rw [b1]; exact Int.zero_add w
  have r := hz_Wr hP (hz_aS np)
  have hKd : K = d := by omega
  rw [eB1, eB2]
  unfold sX7_layPartners fX7_layPartners
  simp only [bnd]
  generalize fX7_countPairs m = R at *
  have hP1 := hz_kP k hn2 (by omega) hP
  have hn1 : R.2.2.2 ≤ 2 := by rw [k.2.1]; exact hn2
  have ec : ((1 : Int32) <<< ((fX7_count R.2) &&& 31)) - 1 = nI (2 ^ np - 1) := by rw [(hz_count hP1).1]; exact hz_all np (by omega)
  have hF : np < fuU 2147483647 0 := by have := hz_fuM (i := 0) (by omega); rw [nI_0] at this; omega
  have L := hz_lp16 (p := p) (ny := ny) (ns := ns) (nz := nz) (nI (2 ^ np - 1)) R.1 (fuU 2147483647 0) 0 R.2 (Nat.zero_le np) (by omega) hP1 hn1
  rw [nI_0] at L
  obtain ⟨a1, a2, a3, a4⟩ := L
  rw [ec]
  generalize fX7_layPartners_16 (nI (2 ^ np - 1)) R.1 (fuU 2147483647 0) 0 R.2 = T at *
  have hP2 := hz_kP a2 hn1 (by omega) hP1
  have hn22 : T.2.2.2 ≤ 2 := by rw [a2.2.1]; exact hn1
  have hpop := hz_pop14 14 (bt (nI (2 ^ np - 1)))
  have h1w : 1 ≤ 2 ^ np := Nat.one_le_two_pow
  obtain ⟨x1, x2, x3⟩ := hz_lp37 R.1 14 20 (2 ^ np - 1) T.2 (T.2.2.1 5, 0, 0) (Nat.le_refl _) (by omega) (fun j hj => absurd hj (by omega)) (by omega) hP2 hn22 (fun i hi => by rw [a2.2.2 4 (by decide)]; exact hm i hi) (by rw [a2.2.2 3 (by decide)]; exact hw) rfl
  generalize fX7_layPartners_37 R.1 20 (nI (2 ^ np - 1)) T.2 = X at *
  refine ⟨⟨s, a1, x1, trivial⟩, by rw [e, hKd], by omega, b2, hz_kT (hz_kW k (by omega)) (hz_kT (hz_kW a2 (by omega)) (hz_kW x2 (by omega))), fun j hj => ?_⟩
  rw [x3]
  have eS : bt (nI (2 ^ np - 1)) = hz_aS np := by
    funext j
    by_cases hj : j < 32
    · exact hz_aB hn hj
    · rw [b_big (by omega)]
      unfold hz_aS
      rw [decide_eq_false (by omega)]
  rw [eS]
  exact (hz_Gc (n := np) (hz_An p np) 14 (hz_aS np) (T.2.2.1 5, 0, 0) (fun _ => -1, 0, 0) (fun j hj => by unfold hz_aS at hj; simpa using hj) rfl (fun j hj => a4 j (Nat.zero_le j) hj)).2 j hj
end HZI
