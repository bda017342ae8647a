/-! The class's worth of a set: with kept worths, early ends, depth. -/
section HZJ
variable {A : Nat → Nat → Bool} {g : Nat → Nat → Int} {np : Nat}
/-- what is kept is right, where it is of this round -/
def hz_me (A : Nat → Nat → Bool) (g : Nat → Nat → Int) (K : Nat → Int64) (R : Int64) : Prop := ∀ q, q < 8192 → (lshr (K q) 20).toInt ≤ R.toInt ∧ (lshr (K q) 20 = R → ((K q &&& 1048575).toInt32).toInt = hz_W A g (bt (nI (2 * q))))
def hz_fr8 (A : Nat → Nat → Bool) (np : Nat) (F : Nat → Int32) : Prop := ∀ i, i < np → ∀ j, j < 14 → bt (F i) j = (decide (i < j) && A i j)
def hz_gp (A : Nat → Nat → Bool) (g : Nat → Nat → Int) (F : Nat → Int32) : Prop := ∀ i j, i < j → j < 14 → A i j = true → (F (i * 14 + j)).toInt = g i j
theorem hz_cmp0 (x y : Int64) : lg_cmp x y = 0 ↔ x = y := by
  unfold lg_cmp
  by_cases h : x > y
  · rw [if_pos h]
    refine ⟨fun h => absurd h (by decide), fun e => ?_⟩
    subst e
    exact absurd h (Int64.lt_irrefl)
  · rw [if_neg h]
    by_cases h2 : x = y
    · rw [if_pos h2]; exact ⟨fun _ => h2, fun _ => rfl⟩
    · rw [if_neg h2]; exact ⟨fun h => absurd h (by decide), fun h => absurd h h2⟩
theorem hz_half {S : Nat} (h : S < 16384) : (nI S) >>> ((1 : Int32) &&& 31) = nI (S / 2) := pk_shrN (by omega) _ 1 (by decide)
theorem hz_c0 {S : Nat} (h : S < 16384) : fX6_contains (nI S) 0 = 0 ↔ S % 2 = 0 := by
  have e := hz_cn (nI S) (i := 0) (by decide)
  rw [nI_0, hz_btN S 0 (by decide), Nat.testBit_zero] at e
  rw [e]
  by_cases h2 : S % 2 = 1
  · rw [if_pos (decide_eq_true h2)]
    exact ⟨fun h => absurd h (by decide), fun h => by omega⟩
  · rw [if_neg (by simpa using h2)]
    exact ⟨fun _ => by omega, fun _ => rfl⟩
theorem hz_recall {w : Wd} (hme : hz_me A g w.2.2.2.1 w.2.2.2.2.1) {S : Nat} (h : S < 16384) : fX2_recall w (nI S) = -1 ∨ (fX2_recall w (nI S)).toInt = hz_W A g (bt (nI S)) := by
  unfold fX2_recall
  rw [hz_half h]
  by_cases h0 : fX6_contains (nI S) 0 = 0
  · have h2 := (hz_c0 h).mp h0
    rw [if_pos h0, if_neg (nI_pos (by omega)), if_neg (show ¬ (8192 : Int32) ≤ nI (S / 2) from nI_ge (a := S / 2) (b := 8192) (by omega) (by omega)), nI_clamp (by omega)]
    obtain ⟨m1, m2⟩ := hme (S / 2) (by omega)
    by_cases hc : lg_cmp (lshr (w.2.2.2.1 (S / 2)) 20) w.2.2.2.2.1 = 0
    · rw [if_pos hc]
      right
      rw [m2 ((hz_cmp0 _ _).mp hc), show 2 * (S / 2) = S by omega]
    · rw [if_neg hc]; exact Or.inl rfl
  · rw [if_neg h0]; exact Or.inl rfl
theorem hz_remember {w : Wd} {r : Nat} (hr : r < 2 ^ 40) (hR : w.2.2.2.2.1 = lN r) (hme : hz_me A g w.2.2.2.1 w.2.2.2.2.1) {S : Nat} (h : S < 16384) {v : Int32} (hv : v.toInt = hz_W A g (bt (nI S))) (hv2 : 0 ≤ v.toInt ∧ v.toInt ≤ 700000) : ∃ K, fX2_remember w (nI S) v = wK w K ∧ hz_me A g K w.2.2.2.2.1 := by
  unfold fX2_remember
  rw [hz_half h]
  by_cases h0 : fX6_contains (nI S) 0 = 0
  · have h2 := (hz_c0 h).mp h0
    rw [if_pos h0, if_neg (nI_pos (by omega)), if_neg (show ¬ (8192 : Int32) ≤ nI (S / 2) from nI_ge (a := S / 2) (b := 8192) (by omega) (by omega)), nI_clamp (by omega)]
    refine ⟨_, rfl, fun q hq => ?_⟩
    by_cases hqS : q = S / 2
    · obtain ⟨n, n1, n2, n3⟩ := hz_rgN (a := 0) (b := 700000) (x := v) ⟨by omega, by omega⟩ (by omega)
      have e := hz_keptV (r := r) (v := n) hr (by omega)
      rw [hqS, pk_uLs, hR, n3, e.1, e.2]
      rw [n3] at hv
      refine ⟨Int.le_refl _, fun _ => ?_⟩
      rw [hv, show 2 * (S / 2) = S by omega]
    · rw [pk_uLn hqS]
      exact hme q hq
  · rw [if_neg h0]
    exact ⟨w.2.2.2.1, rfl, hme⟩
theorem hz_gapB {w : Wd} (hg : hz_gp A g (w.2.1 2)) {i j : Nat} (hij : i < j) (hj : j < 14) (hA : A i j = true) : (fX2_gapBetween w (nI i) (nI j)).toInt = g i j := by
  unfold fX2_gapBetween
  have e : (nI i * 14) + nI j = nI (i * 14 + j) := by
    rw [show (14 : Int32) = nI 14 from rfl, pk_mul, nI_add]
  rw [e, hz_at _ (by omega) (by decide)]
  exact hg i j hij hj hA
/-- the search over the partners of the first piece -/
theorem hz_w58 (g0 : ∀ i j, 0 ≤ g i j) (g1 : ∀ i j, g i j ≤ 12049) (hAn : ∀ i j, A i j = true → i < np ∧ j < np) (hW : ∀ S : Nat → Bool, 0 ≤ hz_W A g S ∧ hz_W A g S ≤ 700000) {w : Wd} {r : Nat} (hF : hz_fr8 A np (w.2.1 1)) (hG : hz_gp A g (w.2.1 2)) (rec : Wd → Int32 → Int32 → Int32 × Wd) {O i d : Nat} (hO : O < 16384) (hi : i < np) (z2 : Int32) {B : Int32}
    (hrec : ∀ q, i < q → q < 14 → bt (nI O) q = true → ∀ K, hz_me A g K w.2.2.2.2.1 → ∃ K1, rec (wK w K) (nI O &&& (((1 : Int32) <<< (nI q &&& 31)) ^^^ (-1))) (nI d + 1) = ((rec (wK w K) (nI O &&& (((1 : Int32) <<< (nI q &&& 31)) ^^^ (-1))) (nI d + 1)).1, wK w K1) ∧ hz_me A g K1 w.2.2.2.2.1 ∧ (rec (wK w K) (nI O &&& (((1 : Int32) <<< (nI q &&& 31)) ^^^ (-1))) (nI d + 1)).1.toInt = hz_W A g (hz_rm (bt (nI O)) q)) :
    ∀ (fu q : Nat) (x : Int32) (K : Nat → Int64), i < q → q ≤ 14 → 14 < fu + q → hz_me A g K w.2.2.2.2.1 → x.toInt = hz_best (fun j => decide (i < j) && bt (nI O) j && A i j) (fun j => 100000 - g i j + hz_W A g (hz_rm (bt (nI O)) j)) (-1) q →
    ∃ K1, (fX2_worthOf_s_58 rec z2 (nI d) B (nI O) (nI i) fu (nI q) x (wK w K)).2.2 = wK w K1 ∧ hz_me A g K1 w.2.2.2.2.1 ∧ ∃ q1, q1 ≤ 14 ∧ (fX2_worthOf_s_58 rec z2 (nI d) B (nI O) (nI i) fu (nI q) x (wK w K)).2.1.toInt = hz_best (fun j => decide (i < j) && bt (nI O) j && A i j) (fun j => 100000 - g i j + hz_W A g (hz_rm (bt (nI O)) j)) (-1) q1 ∧ (q1 = 14 ∨ B.toInt ≤ (fX2_worthOf_s_58 rec z2 (nI d) B (nI O) (nI i) fu (nI q) x (wK w K)).2.1.toInt) := by
  intro fu
  induction fu with
  | zero => intro q x K h1 h2 h3; omega
  | succ fu ih =>
    intro q x K hiq hq hf hme hx
    simp only [fX2_worthOf_s_58, bnd]
    by_cases h14 : (14 : Int32) ≤ nI q
    · rw [if_pos h14]
      have h' : nI 14 ≤ nI q := h14
      rw [nI_leI (by omega) (by omega)] at h'
      have e : q = 14 := by omega
      exact ⟨K, rfl, hme, 14, Nat.le_refl _, by rw [hx, e], Or.inl rfl⟩
    · have hq14 : q < 14 := hz_c (n := 14) hq (by omega) h14
      rw [if_neg h14]
      by_cases hB : B ≤ x
      · rw [if_pos hB]
        rw [hz_le] at hB
        exact ⟨K, rfl, hme, q, hq, hx, Or.inr hB⟩
      · rw [if_neg hB]
        have eF : (wK w K).2.1 1 = w.2.1 1 := rfl
        have hi14 : i < 14 := by omega
        have hcq : bt (nI O &&& fX6_at 14 ((wK w K).2.1 1) (nI i)) q = (decide (i < q) && bt (nI O) q && A i q) := by
          rw [eF, hz_at _ hi14 (by decide), b_and, hF i hi q hq14, ← Bool.and_assoc, Bool.and_comm (bt (nI O) q)]
        have step : hz_best (fun j => decide (i < j) && bt (nI O) j && A i j) (fun j => 100000 - g i j + hz_W A g (hz_rm (bt (nI O)) j)) (-1) (q + 1) = (if (decide (i < q) && bt (nI O) q && A i q) = true then max (hz_best (fun j => decide (i < j) && bt (nI O) j && A i j) (fun j => 100000 - g i j + hz_W A g (hz_rm (bt (nI O)) j)) (-1) q) (100000 - g i q + hz_W A g (hz_rm (bt (nI O)) q)) else hz_best (fun j => decide (i < j) && bt (nI O) j && A i j) (fun j => 100000 - g i j + hz_W A g (hz_rm (bt (nI O)) j)) (-1) q) := rfl
        rw [← nI_succ]
        cases hcc : (decide (i < q) && bt (nI O) q && A i q)
        · rw [hcc] at hcq step
          rw [hz_cnF (by omega) hcq, if_pos rfl]
          rw [if_neg (by decide)] at step
          exact ih (q + 1) x K (by omega) hq14 (by omega) hme (by rw [hx, step])
        · rw [hcc] at hcq step
          rw [if_pos rfl] at step
          have hc2 := hcc
          simp only [Bool.and_eq_true, decide_eq_true_eq] at hc2
          obtain ⟨K1, r1, r2, r3⟩ := hrec q hiq hq14 hc2.1.2 K hme
          have eg := hz_gapB (w := wK w K) hG hiq hq14 hc2.2
          rw [hz_cnT (by omega) hcq, if_neg (by decide), r1]
          have b0 := g0 i q
          have b1 := g1 i q
          have b2 := hW (hz_rm (bt (nI O)) q)
          have z : (100000 : Int32).toInt = 100000 := rfl
          have e1 : ((100000 : Int32) - fX2_gapBetween (wK w K) (nI i) (nI q)).toInt = 100000 - g i q := by rw [hz_sub (by rw [z, eg]; omega) (by rw [z, eg]; omega), z, eg]
          refine ih (q + 1) _ K1 (by omega) hq14 (by omega) r2 ?_
          rw [step, hz_imx, hx, i32_add (by rw [e1, r3]; omega) (by rw [e1, r3]; omega), e1, r3]
theorem hz_worth (g0 : ∀ i j, 0 ≤ g i j) (g1 : ∀ i j, g i j ≤ 12049) (hn14 : np ≤ 14) (hAn : ∀ i j, A i j = true → i < np ∧ j < np) (hW : ∀ S : Nat → Bool, 0 ≤ hz_W A g S ∧ hz_W A g S ≤ 700000) {w : Wd} {r : Nat} (hr : r < 2 ^ 40) (hR : w.2.2.2.2.1 = lN r) (hF : hz_fr8 A np (w.2.1 1)) (hG : hz_gp A g (w.2.1 2)) : ∀ (n S d : Nat) (K : Nat → Int64), S < 2 ^ np → hz_pop 14 (bt (nI S)) < n → d + hz_pop 14 (bt (nI S)) ≤ 14 → hz_me A g K w.2.2.2.2.1 →
    ∃ K1, fX2_worthOf n (wK w K) (nI S) (nI d) = ((fX2_worthOf n (wK w K) (nI S) (nI d)).1, wK w K1) ∧ hz_me A g K1 w.2.2.2.2.1 ∧ (fX2_worthOf n (wK w K) (nI S) (nI d)).1.toInt = hz_W A g (bt (nI S)) := by
  intro n
  induction n with
  | zero => intro S d K h1 h2; omega
  | succ n ih =>
    intro S d K hS hpn hpd hme
    have hpw := hz_pw hn14
    have eU : fX2_worthOf (n + 1) (wK w K) (nI S) (nI d) = fX2_worthOf_s (fX2_worthOf n) (wK w K) (nI S) (nI d) := rfl
    rw [eU]
    unfold fX2_worthOf_s
    by_cases h0 : nI S = 0
    · rw [if_pos h0, h0, hz_W0 (fun j _ => b_0 j)]
      exact ⟨K, rfl, hme, rfl⟩
    · obtain ⟨i, i14, -, hb, hl, -⟩ := hz_lowest (hz_Nsm (by omega)) h0
      have hi : i < np := hz_btlt hS (by omega) hb
      have hpp := hz_popR 14 (bt (nI S)) i (by omega) (by omega) i14 hb
      obtain ⟨el, eo⟩ := hz_low (by omega) hb hl i14
      rw [if_neg h0, if_pos (show nI d ≤ (14 : Int32) from nI_le (a := d) (b := 14) (by omega) (by omega))]
      rcases hz_recall (A := A) (g := g) (w := wK w K) hme (S := S) (by omega) with hk | hk
      · rw [if_pos hk]
        simp only [bnd]
        obtain ⟨O, o1, o2⟩ := hz_andN (S := S) (((1 : Int32) <<< (nI i &&& 31)) ^^^ (-1))
        have oF := hz_clrF (nI S) (show i < 32 by omega)
        rw [eo, el, o2, ← nI_succ, hz_bitc (by omega), hz_bitc (by omega)]
        rw [o2] at oF
        have epO : hz_pop 14 (bt (nI O)) + 1 = hz_pop 14 (bt (nI S)) := by rw [oF]; exact hpp
        generalize hPS : hz_pop 14 (bt (nI S)) = P at *
        generalize hPO : hz_pop 14 (bt (nI O)) = P1 at *
        have eB : (((nI P) / 2) * 100000 : Int32) = nI (P / 2 * 100000) := by
          rw [show (2 : Int32) = nI 2 from rfl, show (100000 : Int32) = nI 100000 from rfl, pk_div (by omega) (by omega) (by omega), pk_mul]
        have eB1 : (((nI P1) / 2) * 100000 : Int32) = nI (P1 / 2 * 100000) := by
          rw [show (2 : Int32) = nI 2 from rfl, show (100000 : Int32) = nI 100000 from rfl, pk_div (by omega) (by omega) (by omega), pk_mul]
        rw [eB, eB1]
        have hfu : fuU 14 (nI (i + 1)) = 14 - (i + 1) + 1 := by
          unfold fuU
          rw [nI_toInt (by omega), show (14 : Int32).toInt = 14 from rfl]
          omega
        have hO2 : O < 2 ^ np := by omega
        have hrec : ∀ q, i < q → q < 14 → bt (nI O) q = true → ∀ K, hz_me A g K w.2.2.2.2.1 → ∃ K1, (fX2_worthOf n) (wK w K) (nI O &&& (((1 : Int32) <<< (nI q &&& 31)) ^^^ (-1))) (nI d + 1) = (((fX2_worthOf n) (wK w K) (nI O &&& (((1 : Int32) <<< (nI q &&& 31)) ^^^ (-1))) (nI d + 1)).1, wK w K1) ∧ hz_me A g K1 w.2.2.2.2.1 ∧ ((fX2_worthOf n) (wK w K) (nI O &&& (((1 : Int32) <<< (nI q &&& 31)) ^^^ (-1))) (nI d + 1)).1.toInt = hz_W A g (hz_rm (bt (nI O)) q) := by
          intro q q1 q2 q3 K hK
          obtain ⟨N, n1, n2⟩ := hz_andN (S := O) (((1 : Int32) <<< (nI q &&& 31)) ^^^ (-1))
          have nF := hz_clrF (nI O) (show q < 32 by omega)
          have hp3 := hz_popR 14 (bt (nI O)) q (by omega) (by omega) q2 q3
          rw [n2] at nF ⊢
          rw [← nF] at hp3 ⊢
          rw [← nI_succ]
          exact ih N (d + 1) K (by omega) (by omega) (by omega) hK
        have L := hz_w58 g0 g1 hAn hW (r := r) hF hG (fX2_worthOf n) (d := d) (show O < 16384 by omega) hi (nI S) (B := nI (P / 2 * 100000)) hrec (fuU 14 (nI (i + 1))) (i + 1) (-1) K (by omega) (by omega) (by omega) hme (by
          rw [hz_bestN _ _ _ _ (fun j hj => by rw [decide_eq_false (show ¬ i < j by omega)]; rfl)]
          rfl)
        obtain ⟨K1, l1, l2, q1, l3, l4, l5⟩ := L
        generalize fX2_worthOf_s_58 (fX2_worthOf n) (nI S) (nI d) (nI (P / 2 * 100000)) (nI O) (nI i) (fuU 14 (nI (i + 1))) (nI (i + 1)) (-1) (wK w K) = X at *
        -- the worth itself
        have eW : hz_W A g (bt (nI S)) = hz_best (fun j => decide (i < j) && bt (nI O) j && A i j) (fun j => 100000 - g i j + hz_W A g (hz_rm (bt (nI O)) j)) (hz_W A g (bt (nI O))) 14 := by
          rw [hz_Wu i14 hb hl, oF]
          refine hz_bestC rfl 14 (fun q hq => ?_) (fun q hq hc => rfl)
          by_cases hq2 : i < q
          · rw [hz_rmn _ (by omega)]
          · rw [decide_eq_false hq2]; rfl
        have wO := hW (bt (nI O))
        have wS := hW (bt (nI S))
        have eW2 := hz_bestM (fun j => decide (i < j) && bt (nI O) j && A i j) (fun j => 100000 - g i j + hz_W A g (hz_rm (bt (nI O)) j)) (b := hz_W A g (bt (nI O))) (b1 := -1) (by omega) 14
        have uS := hz_Vup (A := A) g0 14 (bt (nI S)) (Nat.le_refl _)
        have uO := hz_Vup (A := A) g0 14 (bt (nI O)) (Nat.le_refl _)
        rw [hPS] at uS
        rw [hPO] at uO
        have uS' : hz_W A g (bt (nI S)) ≤ 100000 * ((P / 2 : Nat) : Int) := uS
        have uO' : hz_W A g (bt (nI O)) ≤ 100000 * ((P1 / 2 : Nat) : Int) := uO
        have le14 : hz_best (fun j => decide (i < j) && bt (nI O) j && A i j) (fun j => 100000 - g i j + hz_W A g (hz_rm (bt (nI O)) j)) (-1) q1 ≤ hz_best (fun j => decide (i < j) && bt (nI O) j && A i j) (fun j => 100000 - g i j + hz_W A g (hz_rm (bt (nI O)) j)) (-1) 14 := hz_bestU _ _ _ _ _ (hz_bestB _ _ _ _) (fun q hq hc => hz_bestV _ _ _ _ _ (by omega) hc)
        have tB : (nI (P / 2 * 100000)).toInt = 100000 * ((P / 2 : Nat) : Int) := by rw [nI_toInt (by omega)]; omega
        have tB1 : (nI (P1 / 2 * 100000)).toInt = 100000 * ((P1 / 2 : Nat) : Int) := by rw [nI_toInt (by omega)]; omega
        rw [tB] at l5
        have hX : X.2.1.toInt = hz_best (fun j => decide (i < j) && bt (nI O) j && A i j) (fun j => 100000 - g i j + hz_W A g (hz_rm (bt (nI O)) j)) (-1) 14 := by
          rcases l5 with l5 | l5
          · rw [l4, l5]
          · omega
        by_cases hc : nI (P1 / 2 * 100000) ≤ X.2.1
        · rw [if_pos hc, l1]
          rw [hz_le, tB1] at hc
          have eF : X.2.1.toInt = hz_W A g (bt (nI S)) := by omega
          obtain ⟨K2, m1, m2⟩ := hz_remember (A := A) (g := g) (w := wK w K1) hr hR l2 (S := S) (by omega) eF (by omega)
          rw [m1]
          exact ⟨K2, rfl, m2, eF⟩
        · rw [if_neg hc, l1]
          rw [hz_le, tB1] at hc
          have er : nI d + 1 = nI (d + 1) := (nI_succ d).symm
          rw [er]
          obtain ⟨K2, m1, m2, m3⟩ := ih O (d + 1) K1 hO2 (by omega) (by omega) l2
          rw [m1]
          have eF : (imx X.2.1 (fX2_worthOf n (wK w K1) (nI O) (nI (d + 1))).1).toInt = hz_W A g (bt (nI S)) := by
            rw [hz_imx, m3]; omega
          obtain ⟨K3, m4, m5⟩ := hz_remember (A := A) (g := g) (w := wK w K2) hr hR m2 (S := S) (by omega) eF (by omega)
          show ∃ K1_1, (_, fX2_remember (wK w K2) (nI S) _) = (_, wK w K1_1) ∧ _
          rw [m4]
          exact ⟨K3, rfl, m5, eF⟩
      · have hne : ¬ fX2_recall (wK w K) (nI S) = -1 := by
          intro e
          rw [e] at hk
          have := (hW (bt (nI S))).1
          rw [← hk] at this
          exact absurd this (by decide)
        rw [if_neg hne]
        exact ⟨K, rfl, hme, hk⟩
end HZJ
