/-! The worth of the best pairing, as a number: positions from the lowest on. -/
def hz_best (c : Nat → Bool) (v : Nat → Int) (b : Int) : Nat → Int
  | 0 => b
  | q + 1 => if c q = true then max (hz_best c v b q) (v q) else hz_best c v b q
theorem hz_bestB (c : Nat → Bool) (v : Nat → Int) (b : Int) : ∀ n, b ≤ hz_best c v b n
  | 0 => Int.le_refl _
  | n + 1 => by
    have ih := hz_bestB c v b n
    simp only [hz_best]
    by_cases h : c n = true
    · rw [if_pos h]; omega
    · rw [if_neg h]; exact ih
theorem hz_bestV (c : Nat → Bool) (v : Nat → Int) (b : Int) : ∀ n q, q < n → c q = true → v q ≤ hz_best c v b n
  | 0, q, h, _ => absurd h (Nat.not_lt_zero _)
  | n + 1, q, h, hc => by
    simp only [hz_best]
    by_cases hq : q = n
    · subst hq
      rw [if_pos hc]; omega
    · have ih := hz_bestV c v b n q (by omega) hc
      by_cases h2 : c n = true
      · rw [if_pos h2]; omega
      · rw [if_neg h2]; exact ih
theorem hz_bestU (c : Nat → Bool) (v : Nat → Int) (b : Int) (B : Int) : ∀ n, b ≤ B → (∀ q, q < n → c q = true → v q ≤ B) → hz_best c v b n ≤ B
  | 0, hb, _ => hb
  | n + 1, hb, hv => by
    have ih := hz_bestU c v b B n hb (fun q hq hc => hv q (by omega) hc)
    simp only [hz_best]
    by_cases h : c n = true
    · have := hv n (by omega) h
      rw [if_pos h]; omega
    · rw [if_neg h]; exact ih
theorem hz_bestA (c : Nat → Bool) (v : Nat → Int) (b : Int) : ∀ n, hz_best c v b n = b ∨ ∃ q, q < n ∧ c q = true ∧ hz_best c v b n = v q
  | 0 => Or.inl rfl
  | n + 1 => by
    have ih := hz_bestA c v b n
    simp only [hz_best]
    by_cases h : c n = true
    · rw [if_pos h]
      by_cases hm : hz_best c v b n ≤ v n
      · right; exact ⟨n, by omega, h, by omega⟩
      · have e : max (hz_best c v b n) (v n) = hz_best c v b n := by omega
        rw [e]
        rcases ih with ih | ⟨q, h1, h2, h3⟩
        · exact Or.inl ih
        · exact Or.inr ⟨q, by omega, h2, h3⟩
    · rw [if_neg h]
      rcases ih with ih | ⟨q, h1, h2, h3⟩
      · exact Or.inl ih
      · exact Or.inr ⟨q, by omega, h2, h3⟩
theorem hz_bestC {c c1 : Nat → Bool} {v v1 : Nat → Int} {b b1 : Int} (hb : b = b1) : ∀ n, (∀ q, q < n → c q = c1 q) → (∀ q, q < n → c q = true → v q = v1 q) → hz_best c v b n = hz_best c1 v1 b1 n
  | 0, _, _ => hb
  | n + 1, hc, hv => by
    have ih := hz_bestC hb n (fun q hq => hc q (by omega)) (fun q hq => hv q (by omega))
    simp only [hz_best]
    rw [← hc n (by omega), ih]
    by_cases h : c n = true
    · rw [if_pos h, if_pos h, hv n (by omega) h]
    · rw [if_neg h, if_neg h]
theorem hz_bestM (c : Nat → Bool) (v : Nat → Int) {b b1 : Int} (h : b1 ≤ b) : ∀ n, hz_best c v b n = max b (hz_best c v b1 n)
  | 0 => by simp only [hz_best]; omega
  | n + 1 => by
    have ih := hz_bestM c v h n
    simp only [hz_best]
    by_cases h2 : c n = true
    · rw [if_pos h2, if_pos h2, ih]; omega
    · rw [if_neg h2, if_neg h2, ih]
theorem hz_bestN (c : Nat → Bool) (v : Nat → Int) (b : Int) : ∀ n, (∀ q, q < n → c q = false) → hz_best c v b n = b
  | 0, _ => rfl
  | n + 1, h => by
    simp only [hz_best]
    rw [if_neg (by rw [h n (by omega)]; decide)]
    exact hz_bestN c v b n (fun q hq => h q (by omega))
theorem hz_bestX (c : Nat → Bool) (v : Nat → Int) (b : Int) {n : Nat} : ∀ k, (∀ q, n ≤ q → c q = false) → hz_best c v b (n + k) = hz_best c v b n
  | 0, _ => rfl
  | k + 1, h => by
    show hz_best c v b (n + k + 1) = _
    simp only [hz_best]
    rw [if_neg (by rw [h (n + k) (by omega)]; decide)]
    exact hz_bestX c v b k h
/-- a set without an element -/
def hz_rm (S : Nat → Bool) (q : Nat) : Nat → Bool := fun j => S j && !decide (j = q)
theorem hz_rms (S : Nat → Bool) (q : Nat) : hz_rm S q q = false := by simp [hz_rm]
theorem hz_rmn (S : Nat → Bool) {q j : Nat} (h : j ≠ q) : hz_rm S q j = S j := by simp [hz_rm, h]
def hz_V (A : Nat → Nat → Bool) (g : Nat → Nat → Int) : Nat → (Nat → Bool) → Int
  | 0, _ => 0
  | k + 1, S => if S (13 - k) = true then hz_best (fun q => decide (13 - k < q) && S q && A (13 - k) q) (fun q => 100000 - g (13 - k) q + hz_V A g k (hz_rm S q)) (hz_V A g k S) 14 else hz_V A g k S
section HZV
variable {A : Nat → Nat → Bool} {g : Nat → Nat → Int}
theorem hz_Vc : ∀ (k : Nat) (S T : Nat → Bool), k ≤ 14 → (∀ j, 14 - k ≤ j → j < 14 → S j = T j) → hz_V A g k S = hz_V A g k T
  | 0, _, _, _, _ => rfl
  | k + 1, S, T, hk, h => by
    have e1 := hz_Vc k S T (by omega) (fun j h1 h2 => h j (by omega) h2)
    simp only [hz_V]
    rw [h (13 - k) (by omega) (by omega)]
    by_cases hT : T (13 - k) = true
    · rw [if_pos hT, if_pos hT]
      refine hz_bestC e1 14 (fun q hq => ?_) (fun q hq hc => ?_)
      · by_cases h1 : 13 - k < q
        · rw [h q (by omega) hq]
        · simp [h1]
      · have e2 := hz_Vc k (hz_rm S q) (hz_rm T q) (by omega) (fun j h1 h2 => by
          show (S j && _) = (T j && _)
          rw [h j (by omega) h2])
        rw [e2]
    · rw [if_neg hT, if_neg hT]
      exact e1
theorem hz_Vs : ∀ (d k : Nat) (S : Nat → Bool), k + d ≤ 14 → (∀ j, j < 14 - k → S j = false) → hz_V A g (k + d) S = hz_V A g k S
  | 0, _, _, _, _ => rfl
  | d + 1, k, S, hk, h => by
    show hz_V A g (k + d + 1) S = _
    simp only [hz_V]
    rw [if_neg (by rw [h (13 - (k + d)) (by omega)]; decide)]
    exact hz_Vs d k S (by omega) h
/-- the worth of a set -/
def hz_W (A : Nat → Nat → Bool) (g : Nat → Nat → Int) (S : Nat → Bool) : Int := hz_V A g 14 S
theorem hz_Wc {S T : Nat → Bool} (h : ∀ j, j < 14 → S j = T j) : hz_W A g S = hz_W A g T := hz_Vc 14 S T (by omega) (fun j _ h2 => h j h2)
theorem hz_W0 {S : Nat → Bool} (h : ∀ j, j < 14 → S j = false) : hz_W A g S = 0 := by
  have e := hz_Vs (A := A) (g := g) 14 0 S (by omega) (fun j hj => h j (by omega))
  exact e
theorem hz_Wu {S : Nat → Bool} {i : Nat} (hi : i < 14) (hS : S i = true) (hl : ∀ j, j < i → S j = false) : hz_W A g S = hz_best (fun q => decide (i < q) && S q && A i q) (fun q => 100000 - g i q + hz_W A g (hz_rm (hz_rm S i) q)) (hz_W A g (hz_rm S i)) 14 := by
  have e1 : hz_W A g S = hz_V A g (13 - i + 1) S := by
    have := hz_Vs (A := A) (g := g) i (13 - i + 1) S (by omega) (fun j hj => hl j (by omega))
    rw [show 13 - i + 1 + i = 14 by omega] at this
    exact this
  have e2 : ∀ T : Nat → Bool, (∀ j, j < i + 1 → T j = false) → (∀ j, i < j → j < 14 → T j = T j) → hz_W A g T = hz_V A g (13 - i) T := by
    intro T hT _
    have := hz_Vs (A := A) (g := g) (i + 1) (13 - i) T (by omega) (fun j hj => hT j (by omega))
    rw [show 13 - i + (i + 1) = 14 by omega] at this
    exact this
  have l1 : ∀ j, j < i + 1 → hz_rm S i j = false := fun j hj => by
    by_cases h : j = i
    · rw [h, hz_rms]
    · rw [hz_rmn S h]; exact hl j (by omega)
  rw [e1]
  simp only [hz_V]
  rw [show 13 - (13 - i) = i by omega, if_pos hS]
  refine hz_bestC ?_ 14 (fun q hq => rfl) (fun q hq hc => ?_)
  · rw [e2 (hz_rm S i) l1 (fun _ _ _ => rfl)]
    exact hz_Vc _ _ _ (by omega) (fun j h1 h2 => (hz_rmn S (by omega)).symm)
  · rw [e2 (hz_rm (hz_rm S i) q) (fun j hj => by
      show (hz_rm S i j && _) = false
      rw [l1 j hj]; rfl) (fun _ _ _ => rfl)]
    congr 1
    refine hz_Vc _ _ _ (by omega) (fun j h1 h2 => ?_)
    show (S j && _) = (hz_rm S i j && _)
    rw [hz_rmn S (by omega)]
/-- how many -/
def hz_pop : Nat → (Nat → Bool) → Nat
  | 0, _ => 0
  | k + 1, S => hz_pop k S + (if S (13 - k) = true then 1 else 0)
theorem hz_popC : ∀ (k : Nat) (S T : Nat → Bool), k ≤ 14 → (∀ j, 14 - k ≤ j → j < 14 → S j = T j) → hz_pop k S = hz_pop k T
  | 0, _, _, _, _ => rfl
  | k + 1, S, T, hk, h => by
    simp only [hz_pop]
    rw [h (13 - k) (by omega) (by omega), hz_popC k S T (by omega) (fun j h1 h2 => h j (by omega) h2)]
theorem hz_popR : ∀ (k : Nat) (S : Nat → Bool) (q : Nat), k ≤ 14 → 14 - k ≤ q → q < 14 → S q = true → hz_pop k (hz_rm S q) + 1 = hz_pop k S
  | 0, _, _, _, h1, h2, _ => absurd h2 (by omega)
  | k + 1, S, q, hk, h1, h2, hS => by
    simp only [hz_pop]
    by_cases hq : q = 13 - k
    · rw [hq] at hS ⊢
      rw [hz_rms, hS]
      rw [hz_popC k (hz_rm S (13 - k)) S (by omega) (fun j g1 g2 => hz_rmn S (by omega))]
      simp
    · rw [hz_rmn S (Ne.symm hq)]
      have := hz_popR k S q (by omega) (by omega) h2 hS
      omega
theorem hz_pop14 : ∀ (k : Nat) (S : Nat → Bool), hz_pop k S ≤ k
  | 0, _ => Nat.le_refl _
  | k + 1, S => by
    have := hz_pop14 k S
    simp only [hz_pop]
    split <;> omega
theorem hz_Vpos (hg : ∀ i j, g i j ≤ 100000) : ∀ (k : Nat) (S : Nat → Bool), 0 ≤ hz_V A g k S
  | 0, _ => Int.le_refl _
  | k + 1, S => by
    have ih := hz_Vpos hg k S
    simp only [hz_V]
    by_cases h : S (13 - k) = true
    · rw [if_pos h]
      exact Int.le_trans ih (hz_bestB _ _ _ _)
    · rw [if_neg h]; exact ih
theorem hz_Vup (hg : ∀ i j, 0 ≤ g i j) : ∀ (k : Nat) (S : Nat → Bool), k ≤ 14 → hz_V A g k S ≤ 100000 * ((hz_pop k S / 2 : Nat) : Int)
  | 0, _, _ => by simp [hz_V]; omega
  | k + 1, S, hk => by
    have ih := hz_Vup hg k S (by omega)
    simp only [hz_V, hz_pop]
    by_cases h : S (13 - k) = true
    · rw [if_pos h, if_pos h]
      refine hz_bestU _ _ _ _ _ (by omega) (fun q hq hc => ?_)
      have hc1 : 13 - k < q ∧ S q = true := by
        simp only [Bool.and_eq_true, decide_eq_true_eq] at hc
        exact hc.1
      have i2 := hz_Vup hg k (hz_rm S q) (by omega)
      have i3 := hz_popR k S q (by omega) (by omega) hq hc1.2
      have i4 := hg (13 - k) q
      have i5 : (hz_pop k S + 1) / 2 = hz_pop k (hz_rm S q) / 2 + 1 := by omega
      rw [i5]
      omega
    · rw [if_neg h, if_neg h]
      simpa using ih
/-- elements that match none count for nothing -/
theorem hz_Vm : ∀ (k : Nat) (S T : Nat → Bool), k ≤ 14 → (∀ j, T j = true → S j = true) → (∀ j, j < 14 → S j = true → T j = false → ∀ i, A i j = false ∧ A j i = false) → hz_V A g k S = hz_V A g k T
  | 0, _, _, _, _, _ => rfl
  | k + 1, S, T, hk, h1, h2 => by
    have e1 := hz_Vm k S T (by omega) h1 h2
    simp only [hz_V]
    by_cases hS : S (13 - k) = true
    · rw [if_pos hS]
      by_cases hT : T (13 - k) = true
      · rw [if_pos hT]
        refine hz_bestC e1 14 (fun q hq => ?_) (fun q hq hc => ?_)
        · by_cases hq1 : S q = true
          · by_cases hq2 : T q = true
            · rw [hq1, hq2]
            · have hq2' : T q = false := by simpa using hq2
              rw [(h2 q hq hq1 hq2' (13 - k)).1, Bool.and_false, Bool.and_false]
          · have hq2 : ¬ T q = true := fun h => hq1 (h1 q h)
            have a1 : S q = false := by simpa using hq1
            have a2 : T q = false := by simpa using hq2
            rw [a1, a2]
        · have e2 := hz_Vm k (hz_rm S q) (hz_rm T q) (by omega) (fun j hj => by
            simp only [hz_rm, Bool.and_eq_true] at hj ⊢
            exact ⟨h1 j hj.1, hj.2⟩) (fun j hj hjS hjT => by
            simp only [hz_rm, Bool.and_eq_true] at hjS
            refine h2 j hj hjS.1 ?_
            have : hz_rm T q j = false := hjT
            simp only [hz_rm] at this
            rw [hjS.2, Bool.and_true] at this
            exact this)
          rw [e2]
      · have hT' : T (13 - k) = false := by simpa using hT
        rw [if_neg hT, hz_bestN _ _ _ _ (fun q hq => by
          rw [(h2 (13 - k) (by omega) hS hT' q).2, Bool.and_false])]
        exact e1
    · have hT : ¬ T (13 - k) = true := fun h => hS (h1 _ h)
      rw [if_neg hS, if_neg hT]
      exact e1
/-- gaps change no number of pairs -/
theorem hz_Vk (hg0 : ∀ i j, 0 ≤ g i j) (hg1 : ∀ i j, g i j ≤ 12049) : ∀ (k : Nat) (S : Nat → Bool), ∃ K : Nat, hz_V A (fun _ _ => 0) k S = 100000 * (K : Int) ∧ hz_V A g k S ≤ 100000 * (K : Int) ∧ 87951 * (K : Int) ≤ hz_V A g k S
  | 0, _ => ⟨0, by simp [hz_V], by simp [hz_V], by simp [hz_V]⟩
  | k + 1, S => by
    obtain ⟨K0, a1, a2, a3⟩ := hz_Vk hg0 hg1 k S
    simp only [hz_V]
    by_cases hS : S (13 - k) = true
    · rw [if_pos hS, if_pos hS]
      have hup : hz_best (fun q => decide (13 - k < q) && S q && A (13 - k) q) (fun q => 100000 - g (13 - k) q + hz_V A g k (hz_rm S q)) (hz_V A g k S) 14 ≤ hz_best (fun q => decide (13 - k < q) && S q && A (13 - k) q) (fun q => 100000 - 0 + hz_V A (fun _ _ => 0) k (hz_rm S q)) (hz_V A (fun _ _ => 0) k S) 14 := by
        refine hz_bestU _ _ _ _ _ ?_ (fun q hq hc => ?_)
        · have := hz_bestB (fun q => decide (13 - k < q) && S q && A (13 - k) q) (fun q => 100000 - 0 + hz_V A (fun _ _ => 0) k (hz_rm S q)) (hz_V A (fun _ _ => 0) k S) 14
          omega
        · have i1 := hz_bestV (fun q => decide (13 - k < q) && S q && A (13 - k) q) (fun q => 100000 - 0 + hz_V A (fun _ _ => 0) k (hz_rm S q)) (hz_V A (fun _ _ => 0) k S) 14 q hq hc
          obtain ⟨K1, b1, b2, b3⟩ := hz_Vk hg0 hg1 k (hz_rm S q)
          have i4 := hg0 (13 - k) q
          simp only [] at i1 ⊢
          omega
      rcases hz_bestA (fun q => decide (13 - k < q) && S q && A (13 - k) q) (fun q => 100000 - 0 + hz_V A (fun _ _ => 0) k (hz_rm S q)) (hz_V A (fun _ _ => 0) k S) 14 with h | ⟨q, hq, hc, h⟩
      · rw [h] at hup ⊢
        refine ⟨K0, a1, by omega, ?_⟩
        have := hz_bestB (fun q => decide (13 - k < q) && S q && A (13 - k) q) (fun q => 100000 - g (13 - k) q + hz_V A g k (hz_rm S q)) (hz_V A g k S) 14
        omega
      · rw [h] at hup ⊢
        obtain ⟨K1, b1, b2, b3⟩ := hz_Vk hg0 hg1 k (hz_rm S q)
        have i1 := hz_bestV (fun q => decide (13 - k < q) && S q && A (13 - k) q) (fun q => 100000 - g (13 - k) q + hz_V A g k (hz_rm S q)) (hz_V A g k S) 14 q hq hc
        have i4 := hg1 (13 - k) q
        exact ⟨K1 + 1, by omega, by omega, by omega⟩
    · rw [if_neg hS, if_neg hS]
      exact ⟨K0, a1, a2, a3⟩
end HZV
theorem hz_bestS (c : Nat → Bool) (v : Nat → Int) (b : Int) (q : Nat) : ∀ n, q < n → hz_best (fun j => decide (q ≤ j) && c j) v b n = hz_best (fun j => decide (q + 1 ≤ j) && c j) v (if c q = true then max b (v q) else b) n
  | 0, h => absurd h (Nat.not_lt_zero _)
  | n + 1, h => by
    simp only [hz_best]
    by_cases hq : q = n
    · subst hq
      rw [hz_bestN (fun j => decide (q ≤ j) && c j) v b q (fun j hj => by simp; omega), hz_bestN (fun j => decide (q + 1 ≤ j) && c j) v _ q (fun j hj => by simp; omega)]
      have e1 : (decide (q ≤ q) && c q) = c q := by simp
      have e2 : (decide (q + 1 ≤ q) && c q) = false := by rw [decide_eq_false (by omega), Bool.false_and]
      simp only [e1, e2]
      simp
    · have ih := hz_bestS c v b q n (by omega)
      have e1 : (decide (q ≤ n) && c n) = c n := by rw [decide_eq_true (by omega), Bool.true_and]
      have e2 : (decide (q + 1 ≤ n) && c n) = c n := by rw [decide_eq_true (by omega), Bool.true_and]
      simp only [e1, e2, ih]
