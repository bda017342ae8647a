/-! Facts for the two worlds' likeness: bits of an Int32 (from the kit's BITS family), sets of pieces, small numbers. -/
def bt (x : Int32) (i : Nat) : Bool := x.toBitVec.getLsbD i
theorem b_ext {x y : Int32} (h : ∀ i, i < 32 → bt x i = bt y i) : x = y := Int32.toBitVec_inj.mp (BitVec.eq_of_getLsbD_eq (fun i hi => h i hi))
theorem b_or (x y : Int32) (i : Nat) : bt (x ||| y) i = (bt x i || bt y i) := by unfold bt; rw [Int32.toBitVec_or, BitVec.getLsbD_or]
theorem b_and (x y : Int32) (i : Nat) : bt (x &&& y) i = (bt x i && bt y i) := by unfold bt; rw [Int32.toBitVec_and, BitVec.getLsbD_and]
theorem b_xor (x y : Int32) (i : Nat) : bt (x ^^^ y) i = (bt x i ^^ bt y i) := by unfold bt; rw [Int32.toBitVec_xor, BitVec.getLsbD_xor]
theorem b_big {x : Int32} {i : Nat} (h : 32 ≤ i) : bt x i = false := BitVec.getLsbD_of_ge _ _ h
theorem b_255 (i : Nat) : bt 255 i = decide (i < 8) := by
  rcases Nat.lt_or_ge i 32 with h | h
  · exact (by decide +kernel : ∀ i, i < 32 → bt 255 i = decide (i < 8)) i h
  · rw [b_big h, decide_eq_false (by omega)]
theorem b_65535 (i : Nat) : bt 65535 i = decide (i < 16) := by
  rcases Nat.lt_or_ge i 32 with h | h
  · exact (by decide +kernel : ∀ i, i < 32 → bt 65535 i = decide (i < 16)) i h
  · rw [b_big h, decide_eq_false (by omega)]
theorem b_m1 : ∀ i, i < 32 → bt (-1) i = true := by decide +kernel
theorem b_0 (i : Nat) : bt 0 i = false := BitVec.getLsbD_zero
theorem s_l : ∀ n, n < 32 → ((nI n &&& 31).toBitVec.smod 32).toNat = n := by decide +kernel
theorem s_u : ∀ n, n < 32 → (((nI n).toUInt32 &&& Int32.toUInt32 31).toBitVec % 32).toNat = n := by decide +kernel
theorem b_shl (n : Nat) (hn : n < 32) (x : Int32) {i : Nat} (hi : i < 32) : bt (x <<< (nI n &&& 31)) i = (decide (n ≤ i) && bt x (i - n)) := by
  unfold bt
  rw [Int32.toBitVec_shiftLeft]
  show (x.toBitVec <<< ((nI n &&& 31).toBitVec.smod 32).toNat).getLsbD i = _
  rw [s_l n hn, BitVec.getLsbD_shiftLeft]
  rcases Nat.lt_or_ge i n with h | h
  · simp [h, Nat.not_le.mpr h]
  · simp [hi, h, Nat.not_lt.mpr h]
theorem b_ushr (n : Nat) (hn : n < 32) (x : Int32) (i : Nat) : bt ((x.toUInt32 >>> ((nI n).toUInt32 &&& Int32.toUInt32 31)).toInt32) i = bt x (n + i) := by
  show (x.toUInt32 >>> ((nI n).toUInt32 &&& Int32.toUInt32 31)).toBitVec.getLsbD i = x.toUInt32.toBitVec.getLsbD (n + i)
  rw [UInt32.toBitVec_shiftRight]
  show (x.toUInt32.toBitVec >>> (((nI n).toUInt32 &&& Int32.toUInt32 31).toBitVec % 32).toNat).getLsbD i = _
  rw [s_u n hn, BitVec.getLsbD_ushiftRight]
theorem b_sshr (n : Nat) (hn : n < 32) (x : Int32) {i : Nat} (hi : i < 32) : bt (x >>> (nI n &&& 31)) i = if n + i < 32 then bt x (n + i) else bt x 31 := by
  unfold bt
  rw [Int32.toBitVec_shiftRight]
  show (x.toBitVec.sshiftRight ((nI n &&& 31).toBitVec.smod 32).toNat).getLsbD i = _
  rw [s_l n hn, BitVec.getLsbD_sshiftRight, BitVec.msb_eq_getLsbD_last]
  simp [hi]
theorem b_shl8 (x : Int32) {i : Nat} (hi : i < 32) : bt (x <<< ((8 : Int32) &&& 31)) i = (decide (8 ≤ i) && bt x (i - 8)) := b_shl 8 (by omega) x hi
theorem b_shl16 (x : Int32) {i : Nat} (hi : i < 32) : bt (x <<< ((16 : Int32) &&& 31)) i = (decide (16 ≤ i) && bt x (i - 16)) := b_shl 16 (by omega) x hi
theorem b_shl24 (x : Int32) {i : Nat} (hi : i < 32) : bt (x <<< ((24 : Int32) &&& 31)) i = (decide (24 ≤ i) && bt x (i - 24)) := b_shl 24 (by omega) x hi
theorem b_sshr8 (x : Int32) {i : Nat} (hi : i < 32) : bt (x >>> ((8 : Int32) &&& 31)) i = if 8 + i < 32 then bt x (8 + i) else bt x 31 := b_sshr 8 (by omega) x hi
/-! ===== nI under and, xor, >>>, one bit, 65535 ===== -/
theorem nx_and (a b : Nat) : nI a &&& nI b = nI (a &&& b) := by
  apply Int32.toBitVec_inj.1
  show BitVec.ofNat 32 a &&& BitVec.ofNat 32 b = BitVec.ofNat 32 (a &&& b)
  apply BitVec.eq_of_getLsbD_eq
  intro i hi
  simp [hi]
theorem nx_xor (a b : Nat) : nI a ^^^ nI b = nI (a ^^^ b) := by
  apply Int32.toBitVec_inj.1
  show BitVec.ofNat 32 a ^^^ BitVec.ofNat 32 b = BitVec.ofNat 32 (a ^^^ b)
  apply BitVec.eq_of_getLsbD_eq
  intro i hi
  simp [hi]
theorem nx_or (a b : Nat) : nI a ||| nI b = nI (a ||| b) := by
  apply Int32.toBitVec_inj.1
  show BitVec.ofNat 32 a ||| BitVec.ofNat 32 b = BitVec.ofNat 32 (a ||| b)
  apply BitVec.eq_of_getLsbD_eq
  intro i hi
  simp [hi]
theorem hz_btN (a i : Nat) (hi : i < 32) : bt (nI a) i = a.testBit i := by
  show (BitVec.ofNat 32 a).getLsbD i = _
  rw [BitVec.getLsbD_ofNat, decide_eq_true hi, Bool.true_and]
theorem hz_one {i j : Nat} (hi : i < 32) (hj : j < 32) : bt ((1 : Int32) <<< (nI i &&& 31)) j = decide (i = j) := by
  rw [b_shl i hi _ hj]
  have h1 : ∀ k, k < 32 → bt (1 : Int32) k = decide (k = 0) := by decide +kernel
  rw [h1 (j - i) (by omega)]
  by_cases h : i = j
  · subst h; simp
  · by_cases h2 : i ≤ j
    · simp [h, h2]; omega
    · simp [h, h2]
theorem hz_not {i j : Nat} (hi : i < 32) (hj : j < 32) : bt (((1 : Int32) <<< (nI i &&& 31)) ^^^ (-1)) j = !decide (i = j) := by
  rw [b_xor, hz_one hi hj, b_m1 j hj]
  by_cases h : i = j <;> simp [h]
theorem hz_bit1 (x : Int32) {i : Nat} (hi : i < 32) : ((x >>> (nI i &&& 31)) &&& 1) = (if bt x i then 1 else 0) := by
  apply b_ext
  intro j hj
  have h1 : ∀ k, k < 32 → bt (1 : Int32) k = decide (k = 0) := by decide +kernel
  rw [b_and, h1 j hj]
  by_cases h0 : j = 0
  · subst h0
    rw [b_sshr i hi x (by decide)]
    have e : (if i + 0 < 32 then bt x (i + 0) else bt x 31) = bt x i := by rw [if_pos (by omega)]; rfl
    rw [e]
    cases hb : bt x i
    · rw [if_neg (by decide), b_0]; rfl
    · rw [if_pos rfl, h1 0 (by decide)]; rfl
  · cases hb : bt x i
    · rw [if_neg (by decide), b_0]; simp [h0]
    · rw [if_pos rfl, h1 j hj]; simp [h0]
theorem hz_cn (x : Int32) {i : Nat} (hi : i < 32) : fX6_contains x (nI i) = (if bt x i then 1 else 0) := by
  unfold fX6_contains
  rw [hz_bit1 x hi]
  cases bt x i <;> rfl
theorem hz_hb (x : Int32) {i : Nat} (hi : i < 32) : fX7_hasBit x (nI i) = (if bt x i then 1 else 0) := by
  unfold fX7_hasBit
  rw [hz_bit1 x hi]
  cases bt x i <;> rfl
/-- a set of pieces -/
def hz_sm (x : Int32) : Prop := ∀ i, 14 ≤ i → i < 32 → bt x i = false
theorem hz_smN {x : Int32} (h : hz_sm x) : ∃ S : Nat, S < 16384 ∧ x = nI S := by
  refine ⟨x.toBitVec.toNat, ?_, ?_⟩
  · have h1 : x.toBitVec.toNat < 2 ^ 14 := Nat.lt_pow_two_of_testBit _ (fun j hj => by
      by_cases hj2 : j < 32
      · exact h j (by omega) hj2
      · exact b_big (x := x) (i := j) (by omega))
    exact h1
  · apply Int32.toBitVec_inj.1
    show x.toBitVec = BitVec.ofNat 32 x.toBitVec.toNat
    simp
theorem hz_Nsm {S : Nat} (h : S < 16384) : hz_sm (nI S) := by
  intro i h1 h2
  rw [hz_btN S i h2]
  exact Nat.testBit_lt_two_pow (Nat.lt_of_lt_of_le (show S < 2 ^ 14 from h) (Nat.pow_le_pow_right (by decide) h1))
theorem hz_sm0 : hz_sm 0 := fun i _ _ => b_0 i
theorem hz_sm1 {i : Nat} (h : i < 14) : hz_sm ((1 : Int32) <<< (nI i &&& 31)) := by
  intro j h1 h2
  rw [hz_one (by omega) h2]
  simp; omega
theorem hz_smOr {x y : Int32} (hx : hz_sm x) (hy : hz_sm y) : hz_sm (x ||| y) := fun i h1 h2 => by rw [b_or, hx i h1 h2, hy i h1 h2]; rfl
theorem hz_smAnd {x y : Int32} (hx : hz_sm x) : hz_sm (x &&& y) := fun i h1 h2 => by rw [b_and, hx i h1 h2]; rfl
theorem hz_ext {x y : Int32} (hx : hz_sm x) (hy : hz_sm y) (h : ∀ i, i < 14 → bt x i = bt y i) : x = y := by
  apply b_ext
  intro i hi
  by_cases h14 : i < 14
  · exact h i h14
  · rw [hx i (by omega) hi, hy i (by omega) hi]
theorem hz_ne0 {x : Int32} (hx : hz_sm x) (h : ¬ x = 0) : ∃ i, i < 14 ∧ bt x i = true := by
  refine Classical.byContradiction fun hc => h ?_
  refine hz_ext hx hz_sm0 fun i hi => ?_
  rw [b_0]
  cases hb : bt x i
  · rfl
  · exact absurd ⟨i, hi, hb⟩ hc
theorem hz_cast0 : nI 0 = 0 := rfl
/-- at, put -/
theorem hz_at {n i : Nat} (f : Nat → Int32) (hi : i < n) (hn : n < 2147483648) : fX6_at n f (nI i) = f i := by
  unfold fX6_at
  rw [if_neg (nI_pos (by omega)), if_neg (nI_ge hi (by omega)), nI_clamp (by omega)]
theorem hz_put {n i : Nat} (f : Nat → Int32) (v : Int32) (hi : i < n) (hn : n < 2147483648) : fX6_put n f (nI i) v = upd f i v := by
  unfold fX6_put
  rw [if_neg (nI_pos (by omega)), if_neg (nI_ge hi (by omega)), nI_clamp (by omega)]
theorem hz_sub {x y : Int32} (h1 : -2147483648 ≤ x.toInt - y.toInt) (h2 : x.toInt - y.toInt < 2147483648) : (x - y).toInt = x.toInt - y.toInt := by
  rw [Int32.toInt_sub, i32_bm h1 h2]
theorem hz_mul {x y : Int32} (h1 : -2147483648 ≤ x.toInt * y.toInt) (h2 : x.toInt * y.toInt < 2147483648) : (x * y).toInt = x.toInt * y.toInt := by
  rw [Int32.toInt_mul, i32_bm h1 h2]
theorem hz_lt {x y : Int32} : x < y ↔ x.toInt < y.toInt := Int32.lt_iff_toInt_lt
theorem hz_le {x y : Int32} : x ≤ y ↔ x.toInt ≤ y.toInt := Int32.le_iff_toInt_le
theorem hz_inj {x y : Int32} : x = y ↔ x.toInt = y.toInt := ⟨fun h => by rw [h], fun h => Int32.toInt_inj.mp h⟩
/-- the model's range test -/
theorem hz_in (x y z : Int32) : fX7_in x.toInt64 y.toInt64 z.toInt64 = fX6_isBetween x y z := by
  unfold fX7_in fX6_isBetween
  have e1 : (lg_cmp x.toInt64 y.toInt64 < 0) ↔ x < y := by
    rw [lg_cmp_lt, Int64.lt_iff_toInt_lt, Int32.toInt_toInt64, Int32.toInt_toInt64, hz_lt]
  have e2 : (0 < lg_cmp x.toInt64 z.toInt64) ↔ z < x := by
    rw [lg_cmp_gt, Int64.lt_iff_toInt_lt, Int32.toInt_toInt64, Int32.toInt_toInt64, hz_lt]
  by_cases h1 : x < y
  · rw [if_pos (e1.mpr h1), if_pos h1]
  · rw [if_neg (fun h => h1 (e1.mp h)), if_neg h1]
    by_cases h2 : z < x
    · rw [if_pos (e2.mpr h2), if_pos h2]
    · rw [if_neg (fun h => h2 (e2.mp h)), if_neg h2]
theorem hz_btw (x y z : Int32) : fX6_isBetween x y z = 0 ∨ fX6_isBetween x y z = 1 := by
  unfold fX6_isBetween
  by_cases h1 : x < y
  · left; rw [if_pos h1]
  · rw [if_neg h1]
    by_cases h2 : z < x
    · left; rw [if_pos h2]
    · right; rw [if_neg h2]
theorem hz_btw1 {x y z : Int32} (h : ¬ fX6_isBetween x y z = 0) : y.toInt ≤ x.toInt ∧ x.toInt ≤ z.toInt := by
  unfold fX6_isBetween at h
  by_cases h1 : x < y
  · rw [if_pos h1] at h; exact absurd rfl h
  · rw [if_neg h1] at h
    by_cases h2 : z < x
    · rw [if_pos h2] at h; exact absurd rfl h
    · rw [hz_lt] at h1 h2
      exact ⟨by omega, by omega⟩
theorem hz_nb {v : Int32} (h : v = 0 ∨ v = 1) : narrow .boolean (.int v) = .int v := by
  rcases h with h | h <;> subst h <;> rfl
theorem hz_predlt {n : Nat} (hn : n < 1000000) (z : Int32) : (nI n - 1 < z) ↔ nI n ≤ z := by
  have e : (nI n).toInt = n := nI_toInt (by omega)
  have h1 : (1 : Int32).toInt = 1 := rfl
  rw [hz_lt, hz_le, hz_sub (by rw [e, h1]; omega) (by rw [e, h1]; omega), e, h1]
  omega
/-- is it one of the first n -/
def hz_is (n : Nat) (z : Int32) : Int32 := if z < 0 then 0 else if nI n ≤ z then 0 else 1
theorem hz_isb {n : Nat} (hn : n < 1000000) (z : Int32) : fX7_in z.toInt64 0 ((nI n - 1).toInt64) = hz_is n z := by
  have h := hz_in z 0 (nI n - 1)
  rw [show ((0 : Int32).toInt64) = 0 from rfl] at h
  rw [h]
  unfold fX6_isBetween hz_is
  by_cases h1 : z < 0
  · rw [if_pos h1, if_pos h1]
  · rw [if_neg h1, if_neg h1]
    by_cases h2 : nI n ≤ z
    · rw [if_pos h2, if_pos ((hz_predlt hn z).mpr h2)]
    · rw [if_neg h2, if_neg (fun h => h2 ((hz_predlt hn z).mp h))]
theorem hz_is01 (n : Nat) (z : Int32) : hz_is n z = 0 ∨ hz_is n z = 1 := by
  unfold hz_is
  by_cases h1 : z < 0
  · left; rw [if_pos h1]
  · rw [if_neg h1]
    by_cases h2 : nI n ≤ z
    · left; rw [if_pos h2]
    · right; rw [if_neg h2]
theorem hz_is_of {n : Nat} (hn : n < 1000000) {z : Int32} (h : ¬ hz_is n z = 0) : ∃ i, i < n ∧ z = nI i := by
  unfold hz_is at h
  rcases pk_ix z (n := n) (by omega) with h1 | h1 | h1
  · rw [if_pos h1] at h; exact absurd rfl h
  · by_cases h0 : z < 0
    · rw [if_pos h0] at h; exact absurd rfl h
    · rw [if_neg h0, if_pos h1] at h; exact absurd rfl h
  · exact h1
theorem hz_ia3 (b s c y : Nat) : (nI b + nI s * nI y) + nI c = nI (b + s * y + c) := by rw [pk_mul, nI_add, nI_add]
theorem hz_ia2 (b s y : Nat) : nI b + nI s * nI y = nI (b + s * y) := by rw [pk_mul, nI_add]
def hz_rg (a b : Int) (x : Int32) : Prop := a ≤ x.toInt ∧ x.toInt ≤ b
theorem hz_rgN {a b : Nat} {x : Int32} (h : hz_rg a b x) (hb : b < 1000000) : ∃ n : Nat, a ≤ n ∧ n ≤ b ∧ x = nI n := by
  obtain ⟨h1, h2⟩ := h
  refine ⟨x.toInt.toNat, by omega, by omega, ?_⟩
  rw [hz_inj, nI_toInt (by omega)]
  omega
/-- names: letters 1 to 26, five bits each; or base 27 in six places -/
def hz_e5 (L : List Nat) : Nat := L.foldl (fun a c => 32 * a + c) 0
def hz_e27 (L : List Nat) : Nat := L.foldl (fun a c => 27 * a + c) 0
def hz_pad (L : List Nat) : List Nat := L ++ List.replicate (6 - L.length) 0
def hz_nmL (L : List Nat) : Prop := 1 ≤ L.length ∧ L.length ≤ 6 ∧ ∀ c ∈ L, 1 ≤ c ∧ c ≤ 26
def hz_nm (x y : Int32) : Prop := ∃ L, hz_nmL L ∧ x = nI (hz_e5 L) ∧ y = nI (hz_e27 (hz_pad L))
/-- a plant of the class and a plant of the model that are the same -/
def hz_PR (p : Pl) (f : Nat → Int32) (ny ns nz np : Nat) : Prop :=
  (p.1 0 = nI ny ∧ p.1 1 = nI ns ∧ p.1 2 = nI nz ∧ p.1 8 = nI np) ∧ (ny ≤ 6 ∧ ns ≤ 8 ∧ nz ≤ 6 ∧ np ≤ 14) ∧
  (f 5 = nI ny ∧ f 6 = nI ns ∧ f 7 = nI nz ∧ f 8 = nI np) ∧
  (f 0 = p.1 3 ∧ f 1 = p.1 4 ∧ f 2 = p.1 5 ∧ f 3 = p.1 6 ∧ f 4 = p.1 7) ∧
  (hz_rg 0 500 (p.1 3) ∧ hz_rg 0 255 (p.1 4) ∧ hz_rg 0 100 (p.1 5) ∧ hz_rg 1 6 (p.1 6)) ∧
  (∀ i, i < ny → hz_nm (p.2 0 i) (f (10 + 3 * i)) ∧ f (11 + 3 * i) = p.2 1 i ∧ f (12 + 3 * i) = p.2 2 i ∧ hz_rg 1 100 (p.2 1 i) ∧ hz_rg 0 50 (p.2 2 i)) ∧
  (∀ i, i < ns → hz_nm (p.2 3 i) (f (28 + 2 * i)) ∧ f (29 + 2 * i) = p.2 4 i ∧ hz_rg 500 9999 (p.2 4 i)) ∧
  (∀ i, i < nz → hz_nm (p.2 5 i) (f (44 + 3 * i)) ∧ f (45 + 3 * i) = p.2 6 i ∧ f (46 + 3 * i) = p.2 7 i ∧ hz_rg 500 9999 (p.2 6 i) ∧ hz_rg 500 9999 (p.2 7 i)) ∧
  (∀ i, i < np → (f (62 + 6 * i) = p.2 8 i ∧ f (63 + 6 * i) = p.2 9 i ∧ f (64 + 6 * i) = p.2 10 i ∧ f (65 + 6 * i) = p.2 11 i ∧ f (66 + 6 * i) = p.2 12 i ∧ f (67 + 6 * i) = p.2 13 i) ∧
    (∃ y, y < ny ∧ p.2 8 i = nI y) ∧ (∃ k, k < 3 ∧ p.2 9 i = nI k) ∧ hz_rg 500 9999 (p.2 10 i) ∧ hz_rg 500 9999 (p.2 11 i) ∧ hz_rg 0 255 (p.2 12 i) ∧ (∃ s, s < 4 ∧ p.2 13 i = nI s))
