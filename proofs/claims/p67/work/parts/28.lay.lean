/-! The model lays out the worth of all sets. -/
def hz_A (p : Pl) (n : Nat) (i j : Nat) : Bool := decide (i < n) && decide (j < n) && decide (fX5_fits p (nI i) (nI j) = 1)
def hz_g (p : Pl) (n : Nat) (i j : Nat) : Int := if i < n ∧ j < n then (fX5_gapOf p (nI i) (nI j)).toInt else 0
theorem hz_imx (x y : Int32) : (imx x y).toInt = max x.toInt y.toInt := by
  unfold imx
  by_cases h : x < y
  · rw [if_pos h]; rw [hz_lt] at h; omega
  · rw [if_neg h]; rw [hz_lt] at h; omega
theorem hz_imn (x y : Int32) : (imn x y).toInt = min x.toInt y.toInt := by
  unfold imn
  by_cases h : y < x
  · rw [if_pos h]; rw [hz_lt] at h; omega
  · rw [if_neg h]; rw [hz_lt] at h; omega
theorem hz_all : ∀ n, n < 15 → ((1 : Int32) <<< (nI n &&& 31)) - 1 = nI (2 ^ n - 1) := by decide +kernel
theorem hz_hbT {x : Int32} {i : Nat} (hi : i < 32) (h : bt x i = true) : fX7_hasBit x (nI i) = 1 := by rw [hz_hb x hi, if_pos h]
theorem hz_hbF {x : Int32} {i : Nat} (hi : i < 32) (h : bt x i = false) : fX7_hasBit x (nI i) = 0 := by rw [hz_hb x hi, if_neg (by rw [h]; decide)]
theorem hz_cnT {x : Int32} {i : Nat} (hi : i < 32) (h : bt x i = true) : fX6_contains x (nI i) = 1 := by rw [hz_cn x hi, if_pos h]
theorem hz_cnF {x : Int32} {i : Nat} (hi : i < 32) (h : bt x i = false) : fX6_contains x (nI i) = 0 := by rw [hz_cn x hi, if_neg (by rw [h]; decide)]
theorem hz_lowL (x : Int32) : ∀ (fu i : Nat), (∀ j, j < i → bt x j = false) → (∃ j, j < 14 ∧ i ≤ j ∧ j < fu + i ∧ bt x j = true) → ∃ k, k < 14 ∧ fX7_lowest_2 x fu (nI i) = nI k ∧ bt x k = true ∧ (∀ j, j < k → bt x j = false) ∧ sX7_lowest_2 x fu (nI i) := by
  intro fu
  induction fu with
  | zero =>
    intro i h1 h2
    obtain ⟨j, a1, a2, a3, a4⟩ := h2
    omega
  | succ fu ih =>
    intro i h1 h2
    obtain ⟨j, a1, a2, a3, a4⟩ := h2
    simp only [fX7_lowest_2, sX7_lowest_2]
    rw [← nI_succ]
    cases hb : bt x i
    · rw [hz_hbF (show i < 32 by omega) hb, if_pos rfl]
      have hji : j ≠ i := fun e => by rw [e, hb] at a4; exact absurd a4 (by decide)
      obtain ⟨k, b1, b2, b3, b4, b5⟩ := ih (i + 1) (fun q hq => by
        by_cases hqi : q = i
        · rw [hqi]; exact hb
        · exact h1 q (by omega)) ⟨j, a1, by omega, by omega, a4⟩
      exact ⟨k, b1, b2, b3, b4, fun _ => b5, fun h => absurd rfl h⟩
    · rw [hz_hbT (show i < 32 by omega) hb, if_neg (by decide)]
      exact ⟨i, by omega, rfl, hb, h1, fun h => absurd h (by decide), fun _ => trivial⟩
theorem hz_lowest {x : Int32} (hx : hz_sm x) (h0 : ¬ x = 0) : ∃ k, k < 14 ∧ fX7_lowest x = nI k ∧ bt x k = true ∧ (∀ j, j < k → bt x j = false) ∧ sX7_lowest x := by
  obtain ⟨j, h1, h2⟩ := hz_ne0 hx h0
  obtain ⟨k, b1, b2, b3, b4, b5⟩ := hz_lowL x 40 0 (fun j hj => absurd hj (Nat.not_lt_zero j)) ⟨j, h1, by omega, by omega, h2⟩
  exact ⟨k, b1, b2, b3, b4, b5, trivial⟩
theorem hz_andN {S : Nat} (y : Int32) : ∃ N, N ≤ S ∧ nI S &&& y = nI N := by
  obtain ⟨k, e⟩ : ∃ k, y = nI k := ⟨y.toBitVec.toNat, Int32.toBitVec_inj.1 (by show y.toBitVec = BitVec.ofNat 32 y.toBitVec.toNat; simp)⟩
  refine ⟨S &&& k, Nat.and_le_left, ?_⟩
  rw [e, nx_and]
theorem hz_clr (x : Int32) {i j : Nat} (hi : i < 32) (hj : j < 32) : bt (x &&& (((1 : Int32) <<< (nI i &&& 31)) ^^^ (-1))) j = hz_rm (bt x) i j := by
  rw [b_and, hz_not hi hj]
  unfold hz_rm
  by_cases h : i = j
  · simp [h]
  · simp [h, Ne.symm h]
section HZD
variable {p : Pl} {ny ns nz np : Nat}
theorem hz_msL (p : Pl) (hn : np ≤ 14) (hc : p.1 8 = nI np) {a : Nat} (ha : a < np) : ∀ (fu i : Nat) (s : Int32), i ≤ np → np < fu + i → ∀ j, j < 32 → bt (fX5_matchSet_4 p (nI a) fu (nI i) s).2 j = (bt s j || (decide (i ≤ j) && hz_A p np a j)) := by
  intro fu
  induction fu with
  | zero => intro i s h1 h2; omega
  | succ fu ih =>
    intro i s hi hf j hj
    simp only [fX5_matchSet_4, hc]
    by_cases h : nI np ≤ nI i
    · rw [if_pos h]
      rw [nI_leI (by omega) (by omega)] at h
      have e : (decide (i ≤ j) && hz_A p np a j) = false := by
        unfold hz_A
        by_cases hj2 : i ≤ j
        · simp; omega
        · simp [hj2]
      rw [e, Bool.or_false]
    · have hi : i < np := hz_c hi (by omega) h
      rw [if_neg h, ← nI_succ]
      have hA : hz_A p np a i = decide (fX5_fits p (nI a) (nI i) = 1) := by unfold hz_A; simp [ha, hi]
      by_cases h3 : fX5_fits p (nI a) (nI i) = 0
      · rw [if_pos h3, ih (i + 1) s hi (by omega) j hj]
        by_cases hji : j = i
        · subst hji
          have : hz_A p np a j = false := by rw [hA, h3]; rfl
          rw [this]; simp
        · congr 2
          simp; omega
      · have h4 : fX5_fits p (nI a) (nI i) = 1 := (hz_fits01 p _ _).resolve_left h3
        rw [if_neg h3, ih (i + 1) _ hi (by omega) j hj, b_or]
        have e1 := hz_one (i := i) (j := j) (by omega) hj
        rw [e1]
        by_cases hji : j = i
        · subst hji
          have : hz_A p np a j = true := by rw [hA, h4]; rfl
          rw [this]; simp
        · have e2 : decide (i = j) = false := by simp; omega
          rw [e2, Bool.or_false]
          congr 2
          simp; omega
theorem hz_fuU {n : Nat} (h : n < 1000000) : fuU (nI n) 0 = n + 1 := by
  unfold fuU
  rw [nI_toInt (by omega), show (0 : Int32).toInt = 0 from rfl]
  omega
theorem hz_fuM {i : Nat} (h : i < 1000000) : 1000000 < fuU 2147483647 (nI i) := by
  unfold fuU
  rw [nI_toInt (by omega), show (2147483647 : Int32).toInt = 2147483647 from rfl]
  omega
theorem hz_ms (p : Pl) (hn : np ≤ 14) (hc : p.1 8 = nI np) {a : Nat} (ha : a < np) {j : Nat} (hj : j < 32) : bt (fX5_matchSet p (nI a)) j = hz_A p np a j := by
  have h := hz_msL p hn hc ha (np + 1) 0 0 (Nat.zero_le _) (by omega) j hj
  unfold fX5_matchSet
  rw [hc, hz_fuU (by omega)]
  rw [nI_0] at h
  rw [h, b_0]
  simp
/-- what stays while worths are laid out -/
def hz_k (R : Nat → Prop) (y r : Md) : Prop := r.1 = y.1 ∧ r.2.2 = y.2.2 ∧ ∀ k, ¬ R k → r.2.1 k = y.2.1 k
theorem hz_k0 {R : Nat → Prop} (y : Md) : hz_k R y y := ⟨rfl, rfl, fun _ _ => rfl⟩
theorem hz_kT {R : Nat → Prop} {a b c : Md} (h : hz_k R a b) (g : hz_k R b c) : hz_k R a c := ⟨g.1.trans h.1, g.2.1.trans h.2.1, fun k hk => (g.2.2 k hk).trans (h.2.2 k hk)⟩
theorem hz_kA {R : Nat → Prop} (y : Md) {k : Nat} (hk : R k) (f : Nat → Int32) : hz_k R y (mA y k f) := ⟨rfl, rfl, fun j hj => if_neg (fun e => hj (by rw [e]; exact hk))⟩
theorem hz_kW {R R1 : Nat → Prop} {a b : Md} (h : hz_k R a b) (hR : ∀ k, R k → R1 k) : hz_k R1 a b := ⟨h.1, h.2.1, fun k hk => h.2.2 k (fun e => hk (hR k e))⟩
theorem hz_kP {R : Nat → Prop} {a b : Md} (h : hz_k R a b) (hn : a.2.2 ≤ 2) (hR : ∀ k, k ≤ 2 → ¬ R k) (hP : hz_PR p (a.2.1 a.2.2) ny ns nz np) : hz_PR p (b.2.1 b.2.2) ny ns nz np := by
  rw [h.2.1, h.2.2 _ (hR _ hn)]
  exact hP
theorem hz_lw2 : ∀ (fu i : Nat) (y : Md), i ≤ np → np < fu + i → hz_PR p (y.2.1 y.2.2) ny ns nz np → y.2.2 ≤ 2 → sX7_layWorth_2 fu (nI i) y ∧ hz_k (fun k => k = 4) y (fX7_layWorth_2 fu (nI i) y).2 ∧ (∀ j, j < i → (fX7_layWorth_2 fu (nI i) y).2.2.1 4 j = y.2.1 4 j) ∧ ∀ j, i ≤ j → j < np → (fX7_layWorth_2 fu (nI i) y).2.2.1 4 j = fX5_matchSet p (nI j) := by
  intro fu
  induction fu with
  | zero => intro i y h1 h2; omega
  | succ fu ih =>
    intro i y hi hf hP hn2
    have hn := hz_np hP
    obtain ⟨c1, c2⟩ := hz_count hP
    simp only [fX7_layWorth_2, sX7_layWorth_2, bnd, c1]
    by_cases h : nI np ≤ nI i
    · rw [if_pos h]
      rw [nI_leI (by omega) (by omega)] at h
      exact ⟨⟨fun _ => trivial, fun h2 => absurd (nI_le h (by omega)) h2⟩, hz_k0 y, fun _ _ => rfl, fun j h1 h2 => by omega⟩
    · have hi : i < np := hz_c hi (by omega) h
      obtain ⟨e1, e2⟩ := hz_matches hP hi
      rw [if_neg h, ← nI_succ, nI_clamp (by omega), e1]
      have hk : hz_k (fun k => k = 4) y (mA y 4 (upd (y.2.1 4) i (fX5_matchSet p (nI i)))) := hz_kA (R := fun k => k = 4) y (k := 4) rfl _
      obtain ⟨a1, a2, a3, a4⟩ := ih (i + 1) _ hi (by omega) (hz_kP hk hn2 (by omega) hP) hn2
      refine ⟨⟨fun h2 => absurd h2 h, fun _ => ⟨e2, vp_in_nI (by omega) (by omega), a1⟩⟩, hz_kT hk a2, fun j hj => ?_, fun j h1 h2 => ?_⟩
      · rw [a3 j (by omega), hz_mAs, pk_un (by omega)]
      · by_cases hji : j = i
        · rw [hji, a3 i (by omega), hz_mAs, pk_us]
        · exact a4 j (by omega) h2
/-- the gap's numbers -/
theorem hz_gg {f : Nat → Int32} (hP : hz_PR p f ny ns nz np) : (∀ i j, 0 ≤ hz_g p np i j) ∧ ∀ i j, hz_g p np i j ≤ 12049 := by
  have key : ∀ i j, 0 ≤ hz_g p np i j ∧ hz_g p np i j ≤ 12049 := by
    intro i j
    unfold hz_g
    by_cases h : i < np ∧ j < np
    · rw [if_pos h]
      have hP' : hz_PR p (((fun _ => 0, fun _ => f, 0) : Md).2.1 ((fun _ => 0, fun _ => f, 0) : Md).2.2) ny ns nz np := hP
      exact hz_gapR (m := (fun _ => 0, fun _ => f, 0)) hP' h.1 h.2
    · rw [if_neg h]; omega
  exact ⟨fun i j => (key i j).1, fun i j => (key i j).2⟩
theorem hz_Wr {f : Nat → Int32} (hP : hz_PR p f ny ns nz np) (S : Nat → Bool) : 0 ≤ hz_W (hz_A p np) (hz_g p np) S ∧ hz_W (hz_A p np) (hz_g p np) S ≤ 700000 := by
  obtain ⟨g0, g1⟩ := hz_gg hP
  refine ⟨hz_Vpos (fun i j => by have := g1 i j; omega) 14 S, ?_⟩
  have h := hz_Vup (A := hz_A p np) g0 14 S (by omega)
  have h2 := hz_pop14 14 S
  unfold hz_W
  omega
/-- the worths of all sets below S are laid -/
def hz_wl (p : Pl) (n S : Nat) (r : Nat → Int32) : Prop := ∀ N, N < S → (r N).toInt = hz_W (hz_A p n) (hz_g p n) (bt (nI N))
theorem hz_gNum {f : Nat → Int32} (hP : hz_PR p f ny ns nz np) {i j : Nat} (hi : i < np) (hj : j < np) : (fX5_gapOf p (nI i) (nI j)).toInt = hz_g p np i j := by
  unfold hz_g
  rw [if_pos ⟨hi, hj⟩]
theorem hz_with {m : Md} (hP : hz_PR p (m.2.1 m.2.2) ny ns nz np) {S i q : Nat} (hS : S < 16384) (hi : i < np) (hq : q < np) (hqS : hz_rm (bt (nI S)) i q = true) (hb : bt (nI S) i = true) (hw : hz_wl p np S (m.2.1 3)) : sX7_worthWith m (nI i) (nI q) (nI S &&& (((1 : Int32) <<< (nI i &&& 31)) ^^^ (-1))) ∧ (fX7_worthWith m (nI i) (nI q) (nI S &&& (((1 : Int32) <<< (nI i &&& 31)) ^^^ (-1)))).toInt = 100000 - hz_g p np i q + hz_W (hz_A p np) (hz_g p np) (hz_rm (hz_rm (bt (nI S)) i) q) := by
  have hn := hz_np hP
  obtain ⟨e1, e2⟩ := hz_gap hP hi hq
  obtain ⟨N1, h1, e3⟩ := hz_andN (S := S) (((1 : Int32) <<< (nI i &&& 31)) ^^^ (-1))
  obtain ⟨N, h2, e4⟩ := hz_andN (S := N1) (((1 : Int32) <<< (nI q &&& 31)) ^^^ (-1))
  have hbits : ∀ j, j < 32 → bt (nI N) j = hz_rm (hz_rm (bt (nI S)) i) q j := by
    intro j hj
    rw [← e4, hz_clr _ (by omega) hj]
    unfold hz_rm
    rw [← e3, hz_clr _ (by omega) hj]
    rfl
  have hne : N ≠ S := by
    intro e
    have z := hbits i (by omega)
    rw [e, hb] at z
    unfold hz_rm at z
    simp at z
  unfold fX7_worthWith sX7_worthWith
  rw [e3, e4, nI_clamp (by omega), e1]
  refine ⟨⟨vp_in_nI (by omega) (by omega), e2, trivial⟩, ?_⟩
  have ew := hw N (by omega)
  have eW : hz_W (hz_A p np) (hz_g p np) (bt (nI N)) = hz_W (hz_A p np) (hz_g p np) (hz_rm (hz_rm (bt (nI S)) i) q) := hz_Wc (fun j hj => hbits j (by omega))
  have r1 := hz_Wr hP (hz_rm (hz_rm (bt (nI S)) i) q)
  obtain ⟨g0, g1⟩ := hz_gg hP
  have r2 := g0 i q
  have r3 := g1 i q
  have r4 := hz_gNum hP hi hq
  have z : (100000 : Int32).toInt = 100000 := rfl
  have s1 : (m.2.1 3 N + 100000).toInt = hz_W (hz_A p np) (hz_g p np) (hz_rm (hz_rm (bt (nI S)) i) q) + 100000 := by
    rw [i32_add (by rw [z]; omega) (by rw [z]; omega), z]; omega
  rw [hz_sub (by omega) (by omega), s1, r4]
  omega
theorem hz_lw82 {S i : Nat} (hS : S < 16384) (hi : i < np) (hb : bt (nI S) i = true) (z : Int32) : ∀ (fu q : Nat) (y : Md), i < q → q ≤ np → np < fu + q → hz_PR p (y.2.1 y.2.2) ny ns nz np → y.2.2 ≤ 2 → y.2.1 4 i = fX5_matchSet p (nI i) → hz_wl p np S (y.2.1 3) →
    sX7_layWorth_82 (nI S &&& (((1 : Int32) <<< (nI i &&& 31)) ^^^ (-1))) (nI i) (nI S) z fu (nI q) y ∧
    hz_k (fun k => k = 3) y (fX7_layWorth_82 (nI S &&& (((1 : Int32) <<< (nI i &&& 31)) ^^^ (-1))) (nI i) (nI S) z fu (nI q) y).2 ∧
    (∀ N, ¬ N = S → (fX7_layWorth_82 (nI S &&& (((1 : Int32) <<< (nI i &&& 31)) ^^^ (-1))) (nI i) (nI S) z fu (nI q) y).2.2.1 3 N = y.2.1 3 N) ∧
    ((fX7_layWorth_82 (nI S &&& (((1 : Int32) <<< (nI i &&& 31)) ^^^ (-1))) (nI i) (nI S) z fu (nI q) y).2.2.1 3 S).toInt = hz_best (fun j => decide (q ≤ j) && (decide (i < j) && bt (nI S) j && hz_A p np i j)) (fun j => 100000 - hz_g p np i j + hz_W (hz_A p np) (hz_g p np) (hz_rm (hz_rm (bt (nI S)) i) j)) ((y.2.1 3 S).toInt) 14 := by
  intro fu
  induction fu with
  | zero => intro q y h1 h2 h3; omega
  | succ fu ih =>
    intro q y hiq hqn hf hP hn2 hm hw
    have hn := hz_np hP
    obtain ⟨c1, c2⟩ := hz_count hP
    simp only [fX7_layWorth_82, sX7_layWorth_82, bnd, c1]
    by_cases h : nI np ≤ nI q
    · rw [if_pos h]
      rw [nI_leI (by omega) (by omega)] at h
      refine ⟨⟨fun _ => trivial, fun h2 => absurd (nI_le h (by omega)) h2⟩, hz_k0 y, fun _ _ => rfl, ?_⟩
      rw [hz_bestN _ _ _ _ (fun j hj => ?_)]
      unfold hz_A
      by_cases hj2 : q ≤ j
      · have : decide (j < np) = false := by simp; omega
        rw [this]; simp
      · simp [hj2]
    · have hq : q < np := hz_c hqn (by omega) h
      have hbq : bt (fX5_matchSet p (nI i) &&& (nI S &&& (((1 : Int32) <<< (nI i &&& 31)) ^^^ (-1)))) q = (decide (i < q) && bt (nI S) q && hz_A p np i q) := by
        rw [b_and, hz_ms p hn c2 hi (by omega), hz_clr _ (by omega) (by omega), hz_rmn _ (by omega), decide_eq_true hiq, Bool.true_and, Bool.and_comm]
      rw [if_neg h, ← nI_succ, nI_clamp (by omega), nI_clamp (by omega), hm, hz_bestS _ _ _ q 14 (by omega)]
      cases hcq : (decide (i < q) && bt (nI S) q && hz_A p np i q)
      · rw [hcq] at hbq
        rw [hz_hbF (by omega) hbq, if_pos rfl, if_neg (by decide)]
        obtain ⟨a1, a2, a3, a4⟩ := ih (q + 1) y (by omega) hq (by omega) hP hn2 hm hw
        exact ⟨⟨fun h2 => absurd h2 h, fun _ => ⟨vp_in_nI (by omega) (by omega), fun _ => a1, fun h2 => absurd rfl h2⟩⟩, a2, a3, a4⟩
      · rw [hcq] at hbq
        have hqS : hz_rm (bt (nI S)) i q = true := by
          rw [hz_rmn _ (by omega)]
          simp only [Bool.and_eq_true] at hcq
          exact hcq.1.2
        obtain ⟨w1, w2⟩ := hz_with hP hS hi hq hqS hb hw
        rw [hz_hbT (by omega) hbq, if_neg (by decide), if_pos rfl]
        have hk : hz_k (fun k => k = 3) y (mA y 3 (upd (y.2.1 3) S (imx (y.2.1 3 S) (fX7_worthWith y (nI i) (nI q) (nI S &&& (((1 : Int32) <<< (nI i &&& 31)) ^^^ (-1))))))) := hz_kA (R := fun k => k = 3) y (k := 3) rfl _
        obtain ⟨a1, a2, a3, a4⟩ := ih (q + 1) _ (by omega) hq (by omega) (hz_kP hk hn2 (by omega) hP) hn2 hm (fun N hN => by
          rw [hz_mAs, pk_un (by omega)]; exact hw N hN)
        refine ⟨⟨fun h2 => absurd h2 h, fun _ => ⟨vp_in_nI (by omega) (by omega), fun h2 => absurd h2 (by decide), fun _ => ⟨vp_in_nI (by omega) (by omega), w1, vp_in_nI (by omega) (by omega), a1⟩⟩⟩, hz_kT hk a2, fun N hN => ?_, ?_⟩
        · rw [a3 N hN, hz_mAs, pk_un hN]
        · rw [a4, hz_mAs, pk_us, hz_imx, w2]
end HZD
