/-! Seconds; full boxes. -/
section HZR
variable {w : Wd} {m : Md} {ny ns nz np r : Nat}
theorem hl_where (hn : np ≤ 14) (hc : (w.2.2.1 1).1 8 = nI np) (z : Int32) : ∀ (fu i : Nat) (s : Int32), i ≤ np → np < fu + i → ∀ j, j < 32 → bt (fX6_setWhere_36_5 z w fu (nI i) s).2 j = (bt s j || (decide (i ≤ j) && (decide (j < np) && decide (fX6_at 14 ((w.2.2.1 1).2 13) (nI j) = z)))) := by
  intro fu
  induction fu with
  | zero => intro i s h1 h2; omega
  | succ fu ih =>
    intro i s hi hf j hj
    simp only [fX6_setWhere_36_5, hc]
    by_cases h : nI np ≤ nI i
    · rw [if_pos h]
      rw [nI_leI (by omega) (by omega)] at h
      by_cases hj2 : j < np
      · rw [decide_eq_false (show ¬ i ≤ j by omega), Bool.false_and, Bool.or_false]
      · rw [decide_eq_false hj2, Bool.false_and, Bool.and_false, Bool.or_false]
    · have hi : i < np := hz_c hi (by omega) h
      rw [if_neg h, ← nI_succ]
      by_cases c : fX6_at 14 ((w.2.2.1 1).2 13) (nI i) = z
      · rw [if_pos c, ih (i + 1) _ hi (by omega) j hj, b_or, hz_one (by omega) hj]
        by_cases e : j = i
        · subst e
          rw [decide_eq_true rfl, decide_eq_true (Nat.le_refl _), decide_eq_true hi, decide_eq_true c]
          simp
        · rw [decide_eq_false (Ne.symm e), Bool.or_false]
          congr 2
          simp; omega
      · rw [if_neg c, ih (i + 1) s hi (by omega) j hj]
        by_cases e : j = i
        · subst e
          rw [decide_eq_false c]; simp
        · congr 2
          simp; omega
theorem hl_sec1 {w1 : Wd} {P : Nat → Int32} (hn : np ≤ 14) (hc : (w1.2.2.1 1).1 8 = nI np) (hk : ∀ j, j < 14 → w1.2.1 3 j = P j) : ∀ (fu i : Nat) (s : Int32), i ≤ np → np < fu + i → ∀ j, j < 32 → bt (fX6_seconds_19 w1 fu (nI i) s).2 j = (bt s j || (decide (i ≤ j) && (decide (j < np) && (decide (fX6_at 14 ((w1.2.2.1 1).2 13) (nI j) = 1) && decide (P j = -1))))) := by
  intro fu
  induction fu with
  | zero => intro i s h1 h2; omega
  | succ fu ih =>
    intro i s hi hf j hj
    simp only [fX6_seconds_19, hc]
    by_cases h : nI np ≤ nI i
    · rw [if_pos h]
      rw [nI_leI (by omega) (by omega)] at h
      by_cases hj2 : j < np
      · rw [decide_eq_false (show ¬ i ≤ j by omega), Bool.false_and, Bool.or_false]
      · rw [decide_eq_false hj2, Bool.false_and, Bool.and_false, Bool.or_false]
    · have hi : i < np := hz_c hi (by omega) h
      have eb : (fX5_isBoarded (w1.2.2.1 1) (nI i) = 0) ↔ ¬ fX6_at 14 ((w1.2.2.1 1).2 13) (nI i) = 1 := by
        unfold fX5_isBoarded
        by_cases c : fX6_at 14 ((w1.2.2.1 1).2 13) (nI i) = 1
        · rw [if_pos c]; exact ⟨fun h => absurd h (by decide), fun h => absurd c h⟩
        · rw [if_neg c]; exact ⟨fun _ => c, fun _ => rfl⟩
      have no : (¬ (fX6_at 14 ((w1.2.2.1 1).2 13) (nI i) = 1 ∧ P i = -1)) → (bt (fX6_seconds_19 w1 fu (nI (i + 1)) s).2 j = (bt s j || (decide (i ≤ j) && (decide (j < np) && (decide (fX6_at 14 ((w1.2.2.1 1).2 13) (nI j) = 1) && decide (P j = -1)))))) := fun hno => by
        rw [ih (i + 1) s hi (by omega) j hj]
        by_cases e : j = i
        · subst e
          have : (decide (fX6_at 14 ((w1.2.2.1 1).2 13) (nI j) = 1) && decide (P j = -1)) = false := by
            rw [← Bool.decide_and]; exact decide_eq_false hno
          rw [this]; simp
        · congr 2
          simp; omega
      rw [if_neg h, ← nI_succ]
      by_cases c : fX5_isBoarded (w1.2.2.1 1) (nI i) = 0
      · rw [if_pos c]
        exact no (fun hh => eb.mp c hh.1)
      · have c1 : fX6_at 14 ((w1.2.2.1 1).2 13) (nI i) = 1 := Classical.byContradiction fun hh => c (eb.mpr hh)
        rw [if_neg c, hz_at _ (show i < 14 by omega) (by decide), hk i (by omega)]
        by_cases c2 : P i = -1
        · rw [if_pos c2, ih (i + 1) _ hi (by omega) j hj, b_or, hz_one (by omega) hj]
          by_cases e : j = i
          · subst e
            rw [decide_eq_true rfl, decide_eq_true (Nat.le_refl _), decide_eq_true hi, decide_eq_true c1, decide_eq_true c2]
            simp
          · rw [decide_eq_false (Ne.symm e), Bool.or_false]
            congr 2
            simp; omega
        · rw [if_neg c2]
          exact no (fun hh => c2 hh.2)
theorem hl_sec2 {p : Pl} {m1 : Md} {P : Nat → Int32} (hP : hz_PR p (m1.2.1 m1.2.2) ny ns nz np) (hk : ∀ j, j < np → m1.2.1 5 j = P j) : ∀ (fu i : Nat) (s : Int32), i ≤ np → np < fu + i → sX7_seconds_9 m1 fu (nI i) s ∧ ∀ j, j < 32 → bt (fX7_seconds_9 m1 fu (nI i) s).2 j = (bt s j || (decide (i ≤ j) && (decide (j < np) && (decide (fX6_at 14 (p.2 13) (nI j) = 2) || (decide (fX6_at 14 (p.2 13) (nI j) = 1) && decide (P j = -1)))))) := by
  intro fu
  induction fu with
  | zero => intro i s h1 h2; omega
  | succ fu ih =>
    intro i s hi hf
    have hn := hz_np hP
    obtain ⟨c1, c2⟩ := hz_count hP
    simp only [fX7_seconds_9, sX7_seconds_9, c1]
    by_cases h : nI np ≤ nI i
    · rw [if_pos h]
      refine ⟨⟨fun _ => trivial, fun h2 => absurd h h2⟩, fun j hj => ?_⟩
      rw [nI_leI (by omega) (by omega)] at h
      by_cases hj2 : j < np
      · rw [decide_eq_false (show ¬ i ≤ j by omega), Bool.false_and, Bool.or_false]
      · rw [decide_eq_false hj2, Bool.false_and, Bool.and_false, Bool.or_false]
    · have hi : i < np := hz_c hi (by omega) h
      obtain ⟨e2, s2⟩ := hz_isIn hP hi 2
      obtain ⟨e1, s1⟩ := hz_isIn hP hi 1
      have y := ih (i + 1) (s ||| ((1 : Int32) <<< (nI i &&& 31))) hi (by omega)
      have n := ih (i + 1) s hi (by omega)
      have yes : (fX6_at 14 (p.2 13) (nI i) = 2 ∨ (fX6_at 14 (p.2 13) (nI i) = 1 ∧ P i = -1)) → ∀ j, j < 32 → (bt (fX7_seconds_9 m1 fu (nI (i + 1)) (s ||| ((1 : Int32) <<< (nI i &&& 31)))).2 j = (bt s j || (decide (i ≤ j) && (decide (j < np) && (decide (fX6_at 14 (p.2 13) (nI j) = 2) || (decide (fX6_at 14 (p.2 13) (nI j) = 1) && decide (P j = -1))))))) := fun hy j hj => by
        rw [y.2 j hj, b_or, hz_one (by omega) hj]
        by_cases e : j = i
        · subst e
          have : (decide (fX6_at 14 (p.2 13) (nI j) = 2) || (decide (fX6_at 14 (p.2 13) (nI j) = 1) && decide (P j = -1))) = true := by
            rw [← Bool.decide_and, ← Bool.decide_or]; exact decide_eq_true hy
          rw [this, decide_eq_true rfl, decide_eq_true (Nat.le_refl _), decide_eq_true hi]
          simp
        · rw [decide_eq_false (Ne.symm e), Bool.or_false]
          congr 2
          simp; omega
      have no : (¬ (fX6_at 14 (p.2 13) (nI i) = 2 ∨ (fX6_at 14 (p.2 13) (nI i) = 1 ∧ P i = -1))) → ∀ j, j < 32 → (bt (fX7_seconds_9 m1 fu (nI (i + 1)) s).2 j = (bt s j || (decide (i ≤ j) && (decide (j < np) && (decide (fX6_at 14 (p.2 13) (nI j) = 2) || (decide (fX6_at 14 (p.2 13) (nI j) = 1) && decide (P j = -1))))))) := fun hno j hj => by
        rw [n.2 j hj]
        by_cases e : j = i
        · subst e
          have : (decide (fX6_at 14 (p.2 13) (nI j) = 2) || (decide (fX6_at 14 (p.2 13) (nI j) = 1) && decide (P j = -1))) = false := by
            rw [← Bool.decide_and, ← Bool.decide_or]; exact decide_eq_false hno
          rw [this]; simp
        · congr 2
          simp; omega
      rw [if_neg h, e2, e1, hz_or0, nI_clamp (by omega), hk i hi, ← nI_succ]
      refine ⟨⟨fun h2 => absurd h2 h, fun _ => ⟨s2, fun _ => ⟨s1, fun _ => n.1, fun _ => ⟨vp_in_nI (by omega) (by omega), fun _ => y.1, fun _ => n.1⟩⟩, fun _ => y.1⟩⟩, ?_⟩
      by_cases a : fX6_at 14 (p.2 13) (nI i) = 2
      · rw [if_pos a, if_neg (by decide)]
        exact yes (Or.inl a)
      · rw [if_neg a, if_pos rfl]
        by_cases b : fX6_at 14 (p.2 13) (nI i) = 1
        · rw [if_pos b, if_neg (by decide)]
          by_cases d : P i = -1
          · rw [if_pos d]; exact yes (Or.inr ⟨b, d⟩)
          · rw [if_neg d]; exact no (fun h => h.elim a (fun h => d h.2))
        · rw [if_neg b, if_pos rfl]
          exact no (fun h => h.elim a (fun h => b h.1))
theorem hp_seconds {n : Nat} (hn : n ≤ 1000) (hR : hz_R n w m) : sX7_seconds m ∧ (fX6_seconds w).1 = (fX7_seconds m).1 ∧ hz_R (n + 1) (fX6_seconds w).2 (fX7_seconds m).2 := by
  obtain ⟨ny, ns, nz, np, r, h, ⟨hr, hmo⟩, hK, hH, hI, hE, hO⟩ := hR
  have hn14 : np ≤ 14 := h.2.2.1.2.2.2
  have hn2 : m.2.2 ≤ 2 := by rw [h.1]; omega
  obtain ⟨w1, r1, e, k, hK1, q1, q2, q3, q4⟩ := hz_fp h (by omega) hmo hK
  obtain ⟨s, e2, c7, eW, kk, hp⟩ := hz_layP (hz_rp h) hn2
  have hP1 := hz_kP kk hn2 (by omega) (hz_rp h)
  have R1 := hz_RR h hH hI hE hO q3 (hz_mqk kk (by omega)) (show r1 ≤ 1000 * (n + 1) by omega) q2 hK1
  have cn : (w1.2.2.1 1).1 8 = nI np := by rw [q4]; exact h.2.1.2.2.2
  have L2 := hl_sec2 hP1 hp (fuU (nI np) 0) 0 0 (Nat.zero_le _) (by rw [hz_fuU (by omega)]; omega)
  have L1 := hl_sec1 hn14 cn k.1 (fuU (nI np) 0) 0 (fX6_setWhere_36_5 2 w1 (fuU (nI np) 0) 0 0).2 (Nat.zero_le _) (by rw [hz_fuU (by omega)]; omega)
  have L0 := hl_where hn14 cn 2 (fuU (nI np) 0) 0 0 (Nat.zero_le _) (by rw [hz_fuU (by omega)]; omega)
  rw [nI_0] at L0 L1 L2
  unfold sX7_seconds fX6_seconds fX7_seconds fX6_setWhere_36
  simp only [bnd, e, cn]
  rw [(hz_count hP1).1]
  refine ⟨⟨s, L2.1, trivial⟩, ?_, R1⟩
  apply b_ext
  intro j hj
  rw [L1 j hj, L0 j hj, L2.2 j hj, b_0, q4]
  cases decide (j < np) <;> cases decide (fX6_at 14 ((w.2.2.1 1).2 13) (nI j) = 2) <;> simp
/-- counting -/
def hz_ct (f : Nat → Bool) : Nat → Nat
  | 0 => 0
  | n + 1 => hz_ct f n + (if f n = true then 1 else 0)
theorem hz_ctM {f g : Nat → Bool} : ∀ n, (∀ b, b < n → f b = true → g b = true) → hz_ct f n ≤ hz_ct g n
  | 0, _ => Nat.le_refl _
  | n + 1, h => by
    have ih := hz_ctM n (fun b hb => h b (by omega))
    simp only [hz_ct]
    by_cases hf : f n = true
    · rw [if_pos hf, if_pos (h n (by omega) hf)]; omega
    · rw [if_neg hf]; omega
theorem hz_ctC {f g : Nat → Bool} (n : Nat) (h : ∀ b, b < n → f b = g b) : hz_ct f n = hz_ct g n :=
  Nat.le_antisymm (hz_ctM n (fun b hb hf => by rw [← h b hb]; exact hf)) (hz_ctM n (fun b hb hf => by rw [h b hb]; exact hf))
theorem hz_ctL (f : Nat → Bool) : ∀ n, hz_ct f n ≤ n
  | 0 => Nat.le_refl _
  | n + 1 => by
    have := hz_ctL f n
    simp only [hz_ct]
    split <;> omega
theorem hz_ctK (f : Nat → Bool) (K : Nat) : ∀ n, hz_ct (fun b => f b && decide (hz_ct f b < K)) n = min (hz_ct f n) K
  | 0 => by simp [hz_ct]
  | n + 1 => by
    have ih := hz_ctK f K n
    simp only [hz_ct]
    rw [ih]
    by_cases hf : f n = true
    · rw [if_pos hf]
      simp only [hf, Bool.true_and]
      by_cases hk : hz_ct f n < K
      · rw [if_pos (decide_eq_true hk)]; omega
      · rw [if_neg (by simpa using hk)]; omega
    · have hf' : f n = false := by simpa using hf
      rw [if_neg hf]
      simp only [hf', Bool.false_and]
      rw [if_neg (by decide)]
      omega
/-- the class' world with its pairing, the model's with its own -/
def hz_two2 (w1 : Wd) (m1 : Md) (ny ns nz np : Nat) : Prop := hz_PR (w1.2.2.1 1) (m1.2.1 m1.2.2) ny ns nz np ∧ hz_vp np (w1.2.1 3) ∧ ∀ j, j < np → m1.2.1 5 j = w1.2.1 3 j
variable {w1 : Wd} {m1 : Md}
theorem hz_szd (h : hz_two2 w1 m1 ny ns nz np) {j : Nat} (hj : j < np) : sX7_isSized m1 (nI j) ∧ fX7_isSized m1 (nI j) = (if fX6_sizeOfPair w1 (nI j) = -1 then 0 else 1) ∧ (¬ fX6_sizeOfPair w1 (nI j) = -1 → fX6_sizeOfPair w1 (nI j) = fX7_sizeOfPair m1 (nI j) ∧ sX7_sizeOfPair m1 (nI j) ∧ ∃ q s, j < q ∧ q < np ∧ w1.2.1 3 j = nI q ∧ s < 6 ∧ fX6_sizeOfPair w1 (nI j) = nI s) := by
  have hn := hz_np h.1
  have hz6 : nz ≤ 6 := h.1.2.1.2.2.1
  have hv := h.2.1 j (by omega)
  have em := h.2.2 j hj
  have low : w1.2.1 3 j ≤ nI j → fX6_sizeOfPair w1 (nI j) = -1 := fun hle => by
    unfold fX6_sizeOfPair
    rw [hz_at _ (show j < 14 by omega) (by decide), if_neg (Int32.not_lt.mpr hle)]
  by_cases hle : w1.2.1 3 j ≤ nI j
  · have e := low hle
    unfold sX7_isSized fX7_isSized
    rw [nI_clamp (by omega), em, if_pos hle, e, if_pos rfl]
    exact ⟨⟨vp_in_nI (by omega) (by omega), fun _ => trivial, fun hh => absurd hle hh⟩, rfl, fun hh => absurd rfl hh⟩
  · rcases hv with hv | ⟨q, a1, a2, a3, a4, a5⟩
    · rw [hv] at hle; exact absurd (hz_m1le (by omega)) hle
    · have hjq : j < q := by
        rw [a4, nI_leI (by omega) (by omega)] at hle
        omega
      obtain ⟨z1, z2⟩ := hz_szp h.1 hj a1 hjq a4 (by rw [em]; exact a4)
      unfold sX7_isSized fX7_isSized
      rw [nI_clamp (by omega), em, if_neg hle, ← z1]
      refine ⟨⟨vp_in_nI (by omega) (by omega), fun hh => absurd hh hle, fun _ => ⟨z2, fun _ => trivial, fun _ => trivial⟩⟩, rfl, fun hne => ⟨rfl, z2, q, ?_⟩⟩
      have hs : fX6_sizeOfPair w1 (nI j) = -1 ∨ ∃ s, s < nz ∧ fX6_sizeOfPair w1 (nI j) = nI s := by
        unfold fX6_sizeOfPair
        rw [hz_at _ (show j < 14 by omega) (by decide), if_pos (Int32.not_le.mp hle)]
        exact hz_sizeV h.1 _ _
      obtain ⟨s, s1, s2⟩ := hs.resolve_left hne
      exact ⟨s, hjq, a1, a4, by omega, s2⟩
/-- in one box' group -/
def hz_bx (w1 : Wd) (a b : Nat) : Bool := decide (fX6_isBoxedWith w1 (nI a) (nI b) = 1)
theorem hz_bxE (w1 : Wd) (a b : Nat) : hz_bx w1 a b = (decide (fX6_at 14 ((w1.2.2.1 1).2 8) (nI a) = fX6_at 14 ((w1.2.2.1 1).2 8) (nI b)) && (decide (fX6_at 14 ((w1.2.2.1 1).2 9) (nI a) = fX6_at 14 ((w1.2.2.1 1).2 9) (nI b)) && decide (fX6_sizeOfPair w1 (nI a) = fX6_sizeOfPair w1 (nI b)))) ∧ (fX6_isBoxedWith w1 (nI a) (nI b) = 0 ↔ hz_bx w1 a b = false) := by
  unfold hz_bx fX6_isBoxedWith
  by_cases c1 : fX6_at 14 ((w1.2.2.1 1).2 8) (nI a) = fX6_at 14 ((w1.2.2.1 1).2 8) (nI b)
  · rw [if_pos c1, decide_eq_true c1]
    by_cases c2 : fX6_at 14 ((w1.2.2.1 1).2 9) (nI a) = fX6_at 14 ((w1.2.2.1 1).2 9) (nI b)
    · rw [if_pos c2, decide_eq_true c2]
      by_cases c3 : fX6_sizeOfPair w1 (nI a) = fX6_sizeOfPair w1 (nI b)
      · rw [if_pos c3, decide_eq_true c3]
        exact ⟨by decide, by decide⟩
      · rw [if_neg c3, decide_eq_false c3]
        exact ⟨by decide, by decide⟩
    · rw [if_neg c2, decide_eq_false c2]
      exact ⟨by simp, by decide⟩
  · rw [if_neg c1, decide_eq_false c1]
    exact ⟨by simp, by decide⟩
theorem hz_bxT {w1 : Wd} {a b : Nat} (h : hz_bx w1 a b = true) (x : Nat) : hz_bx w1 b x = hz_bx w1 a x := by
  rw [(hz_bxE w1 a b).1] at h
  simp only [Bool.and_eq_true, decide_eq_true_eq] at h
  rw [(hz_bxE w1 b x).1, (hz_bxE w1 a x).1, h.1, h.2.1, h.2.2]
theorem hz_key (h : hz_two2 w1 m1 ny ns nz np) {j : Nat} (hj : j < np) (hs : ¬ fX6_sizeOfPair w1 (nI j) = -1) : sX7_groupKey m1 (nI j) ∧ ∃ y k s, k < 3 ∧ s < 6 ∧ y < 6 ∧ fX6_at 14 ((w1.2.2.1 1).2 8) (nI j) = nI y ∧ fX6_at 14 ((w1.2.2.1 1).2 9) (nI j) = nI k ∧ fX6_sizeOfPair w1 (nI j) = nI s ∧ fX7_groupKey m1 (nI j) = nI ((y * 3 + k) * 6 + s) := by
  have hn := hz_np h.1
  obtain ⟨_, _, hx⟩ := hz_szd h hj
  obtain ⟨e1, s1, q, s, b1, b2, b3, b4, b5⟩ := hx hs
  obtain ⟨y, hy, hy6, ey⟩ := hz_yarn h.1 hj
  obtain ⟨k, hk, ek⟩ := hz_kind h.1 hj
  obtain ⟨f0, f1, -⟩ := hz_f h.1 hj
  refine ⟨⟨(hz_fs m1 (show j < 14 by omega)).1, (hz_fs m1 (show j < 14 by omega)).2.1, s1, trivial⟩, y, k, s, hk, b4, by omega, ey, ek, b5, ?_⟩
  unfold fX7_groupKey
  rw [f0, f1, ey, ek, ← e1, b5, show (3 : Int32) = nI 3 from rfl, show (6 : Int32) = nI 6 from rfl, pk_mul, nI_add, pk_mul, nI_add]
theorem hz_keyE (h : hz_two2 w1 m1 ny ns nz np) {a b : Nat} (ha : a < np) (hb : b < np) (hsa : ¬ fX6_sizeOfPair w1 (nI a) = -1) (hsb : ¬ fX6_sizeOfPair w1 (nI b) = -1) : fX7_groupKey m1 (nI b) = fX7_groupKey m1 (nI a) ↔ hz_bx w1 a b = true := by
  obtain ⟨-, y, k, s, k1, k2, k3, k4, k5, k6, k7⟩ := hz_key h ha hsa
  obtain ⟨-, y', k', s', k1', k2', k3', k4', k5', k6', k7'⟩ := hz_key h hb hsb
  rw [k7, k7', nI_eq (by omega) (by omega), (hz_bxE w1 a b).1, k4, k4', k5, k5', k6, k6']
  simp only [Bool.and_eq_true, decide_eq_true_eq]
  rw [nI_eq (by omega) (by omega), nI_eq (by omega) (by omega), nI_eq (by omega) (by omega)]
  constructor
  · intro e
    exact ⟨by omega, by omega, by omega⟩
  · rintro ⟨rfl, rfl, rfl⟩
    rfl
/-- the class counts the pairs of a group -/
theorem hl_box (hc : (w1.2.2.1 1).1 8 = nI np) (hn : np ≤ 14) {a : Nat} (ha : a < np) : ∀ (fu i : Nat), i ≤ np → np < fu + i → (fX6_isInFullBox_28 (nI a) w1 fu (nI i) (nI (hz_ct (hz_bx w1 a) i)) (nI (hz_ct (hz_bx w1 a) (min i a)))).2 = (nI (hz_ct (hz_bx w1 a) np), nI (hz_ct (hz_bx w1 a) a)) := by
  intro fu
  induction fu with
  | zero => intro i h1 h2; omega
  | succ fu ih =>
    intro i hi hf
    simp only [fX6_isInFullBox_28, hc]
    by_cases h : nI np ≤ nI i
    · rw [if_pos h]
      rw [nI_leI (by omega) (by omega)] at h
      rw [show i = np by omega, Nat.min_eq_right (by omega)]
    · have hi : i < np := hz_c hi (by omega) h
      have r := ih (i + 1) hi (by omega)
      have e1 : hz_ct (hz_bx w1 a) (i + 1) = hz_ct (hz_bx w1 a) i + (if hz_bx w1 a i = true then 1 else 0) := rfl
      have e0 : ∀ s : Int32, s + 0 = s := fun s => by rw [hz_inj, i32_add (by have := i32_rng s; have z : (0 : Int32).toInt = 0 := rfl; omega) (by have := i32_rng s; have z : (0 : Int32).toInt = 0 := rfl; omega), show (0 : Int32).toInt = 0 from rfl, Int.add_zero]
      rw [if_neg h, ← nI_succ]
      by_cases c : fX6_isBoxedWith w1 (nI a) (nI i) = 0
      · have cb := (hz_bxE w1 a i).2.mp c
        rw [if_pos c]
        rw [e1, cb, if_neg (by decide), Nat.add_zero] at r
        have em : hz_ct (hz_bx w1 a) (min (i + 1) a) = hz_ct (hz_bx w1 a) (min i a) := by
          by_cases hia : i < a
          · rw [Nat.min_eq_left (by omega), Nat.min_eq_left (by omega), e1, cb, if_neg (by decide), Nat.add_zero]
          · rw [Nat.min_eq_right (by omega), Nat.min_eq_right (by omega)]
        rw [em] at r
        exact r
      · have cb : hz_bx w1 a i = true := by
          cases hb : hz_bx w1 a i
          · exact absurd ((hz_bxE w1 a i).2.mpr hb) c
          · rfl
        rw [if_neg c, e0]
        rw [e1, cb, if_pos rfl] at r
        rw [← nI_succ]
        by_cases hia : nI a ≤ nI i
        · rw [if_pos hia]
          rw [nI_leI (by omega) (by omega)] at hia
          rw [Nat.min_eq_right (by omega)] at r
          rw [Nat.min_eq_right (by omega)]
          exact r
        · rw [if_neg hia]
          rw [nI_leI (by omega) (by omega)] at hia
          rw [Nat.min_eq_left (by omega), e1, cb, if_pos rfl] at r
          rw [Nat.min_eq_left (by omega), ← nI_succ]
          exact r
/-- so does the model -/
theorem hl_grp (h : hz_two2 w1 m1 ny ns nz np) {a : Nat} (ha : a < np) (hsa : ¬ fX6_sizeOfPair w1 (nI a) = -1) (z2 : Int32) : ∀ (fu i : Nat), i ≤ np → np < fu + i → (z2 = 0 → i ≤ a + 1) → sX7_inGroup_5 (nI a) z2 m1 fu (nI i) (nI (hz_ct (hz_bx w1 a) i)) ∧ (fX7_inGroup_5 (nI a) z2 m1 fu (nI i) (nI (hz_ct (hz_bx w1 a) i))).2 = nI (hz_ct (hz_bx w1 a) (if z2 = 0 then a + 1 else np)) := by
  intro fu
  induction fu with
  | zero => intro i h1 h2; omega
  | succ fu ih =>
    intro i hi hf hz
    have hn := hz_np h.1
    obtain ⟨c1, c2⟩ := hz_count h.1
    simp only [fX7_inGroup_5, sX7_inGroup_5, c1]
    by_cases hh : nI np ≤ nI i
    · rw [if_pos hh]
      refine ⟨⟨fun _ => trivial, fun h2 => absurd hh h2⟩, ?_⟩
      rw [nI_leI (by omega) (by omega)] at hh
      by_cases hz0 : z2 = 0
      · have := hz hz0
        rw [if_pos hz0, show i = a + 1 by omega]
      · rw [if_neg hz0, show i = np by omega]
    · have hi : i < np := hz_c hi (by omega) hh
      have e1 : hz_ct (hz_bx w1 a) (i + 1) = hz_ct (hz_bx w1 a) i + (if hz_bx w1 a i = true then 1 else 0) := rfl
      have e0 : ∀ s : Int32, s + 0 = s := fun s => by rw [hz_inj, i32_add (by have := i32_rng s; have z : (0 : Int32).toInt = 0 := rfl; omega) (by have := i32_rng s; have z : (0 : Int32).toInt = 0 := rfl; omega), show (0 : Int32).toInt = 0 from rfl, Int.add_zero]
      obtain ⟨d1, d2, d3⟩ := hz_szd h hi
      -- what one more piece does
      have step : (z2 = 0 → i ≤ a) → (sX7_isSized m1 (nI i) ∧ ((fX7_isSized m1 (nI i) = 0 → sX7_inGroup_5 (nI a) z2 m1 fu (nI (i + 1)) (nI (hz_ct (hz_bx w1 a) i))) ∧ (¬ fX7_isSized m1 (nI i) = 0 → (sX7_groupKey m1 (nI i) ∧ (sX7_groupKey m1 (nI a) ∧ ((fX7_groupKey m1 (nI i) = fX7_groupKey m1 (nI a) → sX7_inGroup_5 (nI a) z2 m1 fu (nI (i + 1)) (nI (hz_ct (hz_bx w1 a) i) + 1)) ∧ (¬ fX7_groupKey m1 (nI i) = fX7_groupKey m1 (nI a) → sX7_inGroup_5 (nI a) z2 m1 fu (nI (i + 1)) (nI (hz_ct (hz_bx w1 a) i))))))))) ∧ (if fX7_isSized m1 (nI i) = 0 then fX7_inGroup_5 (nI a) z2 m1 fu (nI (i + 1)) (nI (hz_ct (hz_bx w1 a) i)) else if fX7_groupKey m1 (nI i) = fX7_groupKey m1 (nI a) then fX7_inGroup_5 (nI a) z2 m1 fu (nI (i + 1)) (nI (hz_ct (hz_bx w1 a) i) + 1) else fX7_inGroup_5 (nI a) z2 m1 fu (nI (i + 1)) (nI (hz_ct (hz_bx w1 a) i))).2 = nI (hz_ct (hz_bx w1 a) (if z2 = 0 then a + 1 else np)) := fun hia => by
        have r := ih (i + 1) hi (by omega) (fun hz0 => by have := hia hz0; omega)
        by_cases sz : fX6_sizeOfPair w1 (nI i) = -1
        · have cb : hz_bx w1 a i = false := by
            rw [(hz_bxE w1 a i).1, decide_eq_false (p := fX6_sizeOfPair w1 (nI a) = fX6_sizeOfPair w1 (nI i)) (fun e => hsa (e.trans sz)), Bool.and_false, Bool.and_false]
          rw [e1, cb, if_neg (by decide), Nat.add_zero] at r
          rw [if_pos sz] at d2
          rw [d2, if_pos rfl]
          exact ⟨⟨d1, fun _ => r.1, fun hh => absurd rfl hh⟩, r.2⟩
        · obtain ⟨kk, -⟩ := hz_key h hi sz
          obtain ⟨ka, -⟩ := hz_key h ha hsa
          have ke := hz_keyE h ha hi hsa sz
          rw [if_neg sz] at d2
          rw [d2, if_neg (by decide)]
          cases cb : hz_bx w1 a i
          · have kn : ¬ fX7_groupKey m1 (nI i) = fX7_groupKey m1 (nI a) := fun e => by rw [ke.mp e] at cb; exact absurd cb (by decide)
            rw [e1, cb, if_neg (by decide), Nat.add_zero] at r
            rw [if_neg kn]
            exact ⟨⟨d1, fun hh => absurd hh (by decide), fun _ => ⟨kk, ka, fun e => absurd e kn, fun _ => r.1⟩⟩, r.2⟩
          · have ky := ke.mpr cb
            rw [e1, cb, if_pos rfl] at r
            rw [if_pos ky, ← nI_succ]
            exact ⟨⟨d1, fun hh => absurd hh (by decide), fun _ => ⟨kk, ka, fun _ => r.1, fun e => absurd ky e⟩⟩, r.2⟩
      rw [if_neg hh, e0, ← nI_succ]
      by_cases hz0 : z2 = 0
      · rw [if_pos hz0]
        by_cases hlt : nI a < nI i
        · have hlt' := hlt
          rw [nI_ltI (by omega) (by omega)] at hlt'
          have := hz hz0
          rw [if_pos hlt, if_pos hz0, show i = a + 1 by omega]
          rw [show i = a + 1 by omega] at hlt hh
          exact ⟨⟨fun h2 => absurd h2 hh, fun _ => ⟨fun _ => ⟨fun _ => trivial, fun h2 => absurd hlt h2⟩, fun h2 => absurd hz0 h2⟩⟩, rfl⟩
        · have hle : i ≤ a := by
            rw [nI_ltI (by omega) (by omega)] at hlt
            omega
          obtain ⟨t1, t2⟩ := step (fun _ => hle)
          rw [if_neg hlt]
          exact ⟨⟨fun h2 => absurd h2 hh, fun _ => ⟨fun _ => ⟨fun h2 => absurd h2 hlt, fun _ => t1⟩, fun h2 => absurd hz0 h2⟩⟩, t2⟩
      · obtain ⟨t1, t2⟩ := step (fun e => absurd e hz0)
        rw [if_neg hz0]
        exact ⟨⟨fun h2 => absurd h2 hh, fun _ => ⟨fun h2 => absurd h2 hz0, fun _ => t1⟩⟩, t2⟩
end HZR
