/-! Counting bits, the lowest element, the kept worths' numbers (the wb_ rows from the kit's BITS family). -/
theorem wb_tb (n : Nat) : (lN n).toBitVec = BitVec.ofNat 64 n := rfl
theorem wb_inj {a b : Int64} (h : a.toBitVec = b.toBitVec) : a = b := Int64.toBitVec_inj.mp h
theorem wb_tn {n : Nat} (h : n < 2 ^ 64) : (lN n).toBitVec.toNat = n := by rw [wb_tb, BitVec.toNat_ofNat, Nat.mod_eq_of_lt h]
theorem wb_of (x : Int64) : ∃ n, n < 2 ^ 64 ∧ x = lN n := ⟨x.toBitVec.toNat, x.toBitVec.isLt, wb_inj (by rw [wb_tb]; simp)⟩
theorem wb_of32 (x : Int32) : ∃ n, n < 2 ^ 32 ∧ x = nI n := ⟨x.toBitVec.toNat, x.toBitVec.isLt, Int32.toBitVec_inj.mp (by show _ = BitVec.ofNat 32 _; simp)⟩
theorem wb_c : ∀ k, k < 64 → ((nI k).toInt64 &&& 63) = lN k := by decide +kernel
theorem wb_cu : ∀ k, k < 64 → ((nI k).toInt64.toUInt64 &&& Int64.toUInt64 63) = UInt64.ofNat k := by decide +kernel
theorem wb_sm : ∀ k, k < 64 → (BitVec.ofNat 64 k).smod 64 = BitVec.ofNat 64 k := by decide +kernel
theorem wb_pw {a b : Nat} (h : a ≤ b) : 2 ^ b = 2 ^ a * 2 ^ (b - a) := by rw [← Nat.pow_add]; congr 1; omega
theorem wb_lt2 {a b : Nat} (h : a < b) : 2 ^ a < 2 ^ b := Nat.pow_lt_pow_right (by decide) h
theorem wb_mod (n : Nat) : lN n = lN (n % 2 ^ 64) := wb_inj (by rw [wb_tb, wb_tb]; apply BitVec.eq_of_toNat_eq; rw [BitVec.toNat_ofNat, BitVec.toNat_ofNat, Nat.mod_mod])
theorem wb_shr {n k : Nat} (hn : n < 2 ^ 64) (hk : k < 64) : ((lN n).toUInt64 >>> ((nI k).toInt64.toUInt64 &&& Int64.toUInt64 63)).toInt64 = lN (n / 2 ^ k) := by
  rw [wb_cu k hk]
  apply wb_inj
  apply BitVec.eq_of_toNat_eq
  show ((lN n).toUInt64 >>> UInt64.ofNat k).toNat = (BitVec.ofNat 64 _).toNat
  have h1 : (UInt64.ofNat k).toNat = k := by
    show (BitVec.ofNat 64 k).toNat = k
    rw [BitVec.toNat_ofNat, Nat.mod_eq_of_lt (by omega)]
  have h2 : (lN n).toUInt64.toNat = n := wb_tn hn
  rw [UInt64.toNat_shiftRight, h1, h2, Nat.mod_eq_of_lt hk, Nat.shiftRight_eq_div_pow, BitVec.toNat_ofNat, Nat.mod_eq_of_lt (Nat.lt_of_le_of_lt (Nat.div_le_self _ _) hn)]
theorem wb_shl (n : Nat) {k : Nat} (hk : k < 64) : lN n <<< ((nI k).toInt64 &&& 63) = lN (n * 2 ^ k) := by
  rw [wb_c k hk]
  apply wb_inj
  rw [Int64.toBitVec_shiftLeft, wb_tb, wb_tb, wb_tb, wb_sm k hk]
  apply BitVec.eq_of_toNat_eq
  rw [BitVec.shiftLeft_eq', BitVec.toNat_shiftLeft, BitVec.toNat_ofNat, BitVec.toNat_ofNat, BitVec.toNat_ofNat, Nat.mod_eq_of_lt (show k < 2 ^ 64 by omega), Nat.shiftLeft_eq, Nat.mul_mod, Nat.mod_mod, ← Nat.mul_mod]
theorem wb_and {a b : Nat} (ha : a < 2 ^ 64) (hb : b < 2 ^ 64) : lN a &&& lN b = lN (a &&& b) := by
  apply wb_inj
  rw [Int64.toBitVec_and, wb_tb, wb_tb, wb_tb]
  apply BitVec.eq_of_toNat_eq
  rw [BitVec.toNat_and, BitVec.toNat_ofNat, BitVec.toNat_ofNat, BitVec.toNat_ofNat, Nat.mod_eq_of_lt ha, Nat.mod_eq_of_lt hb, Nat.mod_eq_of_lt (Nat.and_lt_two_pow _ hb)]
theorem wb_or {a b : Nat} (ha : a < 2 ^ 64) (hb : b < 2 ^ 64) : lN a ||| lN b = lN (a ||| b) := by
  apply wb_inj
  rw [Int64.toBitVec_or, wb_tb, wb_tb, wb_tb]
  apply BitVec.eq_of_toNat_eq
  rw [BitVec.toNat_or, BitVec.toNat_ofNat, BitVec.toNat_ofNat, BitVec.toNat_ofNat, Nat.mod_eq_of_lt ha, Nat.mod_eq_of_lt hb, Nat.mod_eq_of_lt (Nat.or_lt_two_pow ha hb)]
theorem wb_mask {n k : Nat} (hn : n < 2 ^ 64) (hk : k < 64) : lN n &&& lN (2 ^ k - 1) = lN (n % 2 ^ k) := by
  rw [wb_and hn (by have := wb_lt2 hk; omega), Nat.and_two_pow_sub_one_eq_mod]
theorem wb_a1 {n : Nat} (hn : n < 2 ^ 64) : lN n &&& 1 = lN (n % 2) := wb_mask (k := 1) hn (by decide)
theorem nx_cnt : ∀ j : Fin 32, (UInt32.ofNat j.val &&& Int32.toUInt32 31).toNat % 32 = j.val := by decide +kernel
theorem nx_ush {k j : Nat} (hk : k < 65536) (hj : j < 32) : ((nI k).toUInt32 >>> ((nI j).toUInt32 &&& Int32.toUInt32 31)).toInt32 = nI (k >>> j) := by
  have hs : k >>> j ≤ k := by
    rw [Nat.shiftRight_eq_div_pow]
    exact Nat.div_le_self _ _
  have e2 : UInt32.ofNat k >>> (UInt32.ofNat j &&& Int32.toUInt32 31) = UInt32.ofNat (k >>> j) := by
    apply UInt32.toNat_inj.1
    have h1 : (UInt32.ofNat k).toNat = k := Nat.mod_eq_of_lt (by omega)
    have h2 : (UInt32.ofNat (k >>> j)).toNat = k >>> j := Nat.mod_eq_of_lt (by omega)
    rw [UInt32.toNat_shiftRight, nx_cnt ⟨j, hj⟩, h1, h2]
  show (UInt32.ofNat k >>> (UInt32.ofNat j &&& Int32.toUInt32 31)).toInt32 = _
  rw [e2]
  rfl
theorem hz_lshr {n k : Nat} (hn : n < 2 ^ 63) (hk : k < 64) : lshr (lN n) (nI k) = lN (n / 2 ^ k) := by
  unfold lshr
  rw [wb_c k hk]
  apply Int64.toInt_inj.mp
  have e1 : ∀ m : Nat, m < 2 ^ 63 → (lN m).toInt = (m : Int) := fun m hm => by
    show (BitVec.ofNat 64 m).toInt = (m : Int)
    rw [BitVec.toInt_eq_toNat_of_lt (by rw [BitVec.toNat_ofNat, Nat.mod_eq_of_lt (by omega)]; omega), BitVec.toNat_ofNat, Nat.mod_eq_of_lt (by omega)]
  have e2 : (lN n >>> lN k).toInt = (lN n).toInt >>> k := by
    show ((lN n).toBitVec.sshiftRight ((lN k).toBitVec.smod 64).toNat).toInt = _
    rw [wb_tb k, wb_sm k hk, BitVec.toNat_ofNat, Nat.mod_eq_of_lt (by omega), BitVec.toInt_sshiftRight]
    rfl
  have h2 : n / 2 ^ k ≤ n := Nat.div_le_self _ _
  rw [e2, e1 n hn, e1 _ (by omega), Int.shiftRight_eq_div_pow]
  rfl
theorem hz_keptV {r v : Nat} (hr : r < 2 ^ 40) (hv : v < 1048576) : lshr ((lshl (lN r) 20) ||| ((nI v).toInt64)) 20 = lN r ∧ ((((lshl (lN r) 20) ||| ((nI v).toInt64)) &&& 1048575).toInt32) = nI v := by
  have e1 : lshl (lN r) 20 = lN (r * 2 ^ 20) := wb_shl r (k := 20) (by decide)
  have e2 : (nI v).toInt64 = lN v := nI_l (by omega)
  have e3 : (r * 2 ^ 20) ||| v = r * 2 ^ 20 + v := by
    have := Nat.two_pow_add_eq_or_of_lt (i := 20) (b := v) (by omega) r
    rw [Nat.mul_comm r, this]
  rw [e1, e2, wb_or (by omega) (by omega), e3]
  refine ⟨?_, ?_⟩
  · have := hz_lshr (n := r * 2 ^ 20 + v) (k := 20) (by omega) (by decide)
    rw [show (20 : Int32) = nI 20 from rfl, this]
    congr 1
    omega
  · have := wb_mask (n := r * 2 ^ 20 + v) (k := 20) (by omega) (by decide)
    rw [show (1048575 : Int64) = lN (2 ^ 20 - 1) from rfl, this, lN_i]
    congr 1
    omega
/-- counting bits, in stages -/
def hz_b1 (S : Nat) : Nat := S - ((S >>> 1) &&& 1431655765)
def hz_b2 (S : Nat) : Nat := (hz_b1 S &&& 858993459) + ((hz_b1 S >>> 2) &&& 858993459)
def hz_b3 (S : Nat) : Nat := (hz_b2 S + (hz_b2 S >>> 4)) &&& 252645135
def hz_b4 (S : Nat) : Nat := hz_b3 S + (hz_b3 S >>> 8)
def hz_b5 (S : Nat) : Nat := (hz_b4 S + (hz_b4 S >>> 16)) &&& 63
def hz_ok1 (S : Nat) : Bool := decide (hz_b2 S < 65536) && decide (hz_b3 S < 65536) && decide (hz_b4 S < 65536) && decide (hz_b5 S = hz_pop 14 (fun j => S.testBit j))
def hz_L (S : Nat) : Nat := Nat.log2 (S &&& (4294967296 - S))
def hz_ok2 (S : Nat) : Bool := decide (S = 0) || (decide (S &&& (4294967296 - S) = 2 ^ hz_L S) && decide (hz_L S < 14) && S.testBit (hz_L S) && decide (S % 2 ^ hz_L S = 0) && decide (S &&& (S - 1) = S &&& (2 ^ hz_L S ^^^ 4294967295)))
theorem hz_ok : ∀ a, a < 128 → ∀ b, b < 128 → (hz_ok1 (128 * a + b) && hz_ok2 (128 * a + b)) = true := by decide +kernel
theorem hz_okS {S : Nat} (h : S < 16384) : hz_ok1 S = true ∧ hz_ok2 S = true := by
  have := hz_ok (S / 128) (by omega) (S % 128) (by omega)
  rw [show 128 * (S / 128) + S % 128 = S by omega] at this
  simpa using this
theorem hz_ush {k : Nat} (j : Nat) (hk : k < 65536) (hj : j < 32) : iushr (nI k) (nI j) = nI (k >>> j) := nx_ush hk hj
theorem hz_bitc {S : Nat} (h : S < 16384) : fJ6_bitCount_0f7a4 (nI S) = nI (hz_pop 14 (bt (nI S))) := by
  have h1 := (hz_okS h).1
  unfold hz_ok1 at h1
  simp only [Bool.and_eq_true, decide_eq_true_eq] at h1
  obtain ⟨⟨⟨k2, k3⟩, k4⟩, k5⟩ := h1
  have q1 : nI S - ((iushr (nI S) 1) &&& 1431655765) = nI (hz_b1 S) := by
    have e := hz_ush (k := S) 1 (by omega) (by decide)
    rw [show (1 : Int32) = nI 1 from rfl, e, show (1431655765 : Int32) = nI 1431655765 from rfl, nx_and, pk_sub]
    · rfl
    · exact Nat.le_trans Nat.and_le_left (by rw [Nat.shiftRight_eq_div_pow]; omega)
  have l1 : hz_b1 S < 65536 := Nat.lt_of_le_of_lt (Nat.sub_le _ _) (by omega)
  have q2 : (nI (hz_b1 S) &&& 858993459) + ((iushr (nI (hz_b1 S)) 2) &&& 858993459) = nI (hz_b2 S) := by
    have e := hz_ush (k := hz_b1 S) 2 l1 (by decide)
    rw [show (2 : Int32) = nI 2 from rfl, e, show (858993459 : Int32) = nI 858993459 from rfl, nx_and, nx_and, nI_add]
    rfl
  have q3 : (nI (hz_b2 S) + (iushr (nI (hz_b2 S)) 4)) &&& 252645135 = nI (hz_b3 S) := by
    have e := hz_ush (k := hz_b2 S) 4 k2 (by decide)
    rw [show (4 : Int32) = nI 4 from rfl, e, show (252645135 : Int32) = nI 252645135 from rfl, nI_add, nx_and]
    rfl
  have q4 : nI (hz_b3 S) + (iushr (nI (hz_b3 S)) 8) = nI (hz_b4 S) := by
    have e := hz_ush (k := hz_b3 S) 8 k3 (by decide)
    rw [show (8 : Int32) = nI 8 from rfl, e, nI_add]
    rfl
  have q5 : (nI (hz_b4 S) + (iushr (nI (hz_b4 S)) 16)) &&& 63 = nI (hz_b5 S) := by
    have e := hz_ush (k := hz_b4 S) 16 k4 (by decide)
    rw [show (16 : Int32) = nI 16 from rfl, e, show (63 : Int32) = nI 63 from rfl, nI_add, nx_and]
    rfl
  unfold fJ6_bitCount_0f7a4
  rw [q1, q2, q3, q4, q5, k5]
  congr 1
  exact hz_popC 14 _ _ (by omega) (fun j _ hj => (hz_btN S j (by omega)).symm)
theorem hz_p2 : ∀ i, i < 14 → (1 : Int32) <<< (nI i &&& 31) = nI (2 ^ i) ∧ fJ6_bitCount_0f7a4 (nI (2 ^ i - 1)) = nI i := by decide +kernel
theorem hz_neg {S : Nat} (h : S < 16384) : -(nI S) = nI (4294967296 - S) := by
  apply Int32.toBitVec_inj.1
  show -(BitVec.ofNat 32 S) = BitVec.ofNat 32 (4294967296 - S)
  apply BitVec.eq_of_toNat_eq
  rw [BitVec.toNat_neg, BitVec.toNat_ofNat, BitVec.toNat_ofNat, Nat.mod_eq_of_lt (show S < 2 ^ 32 by omega)]
/-- the lowest element, by the class; the set without it -/
theorem hz_low {S i : Nat} (h : S < 16384) (hb : bt (nI S) i = true) (hl : ∀ j, j < i → bt (nI S) j = false) (hi : i < 14) : fX6_lowestOf (nI S) = nI i ∧ nI S &&& (nI S - 1) = nI S &&& (((1 : Int32) <<< (nI i &&& 31)) ^^^ (-1)) := by
  have h2 := (hz_okS h).2
  have hS0 : S ≠ 0 := by
    intro e
    rw [e, nI_0, b_0] at hb
    exact absurd hb (by decide)
  unfold hz_ok2 at h2
  rw [decide_eq_false hS0, Bool.false_or] at h2
  simp only [Bool.and_eq_true, decide_eq_true_eq] at h2
  obtain ⟨⟨⟨⟨a1, a2⟩, a3⟩, a4⟩, a5⟩ := h2
  have hL : hz_L S = i := by
    rcases Nat.lt_trichotomy (hz_L S) i with e | e | e
    · have := hl _ e
      rw [hz_btN S _ (by omega)] at this
      rw [this] at a3; exact absurd a3 (by decide)
    · exact e
    · rw [hz_btN S i (by omega)] at hb
      have e2 : (S % 2 ^ hz_L S).testBit i = S.testBit i := by
        rw [Nat.testBit_mod_two_pow, decide_eq_true e, Bool.true_and]
      rw [a4, hb, Nat.zero_testBit] at e2
      exact absurd e2 (by decide)
  rw [hL] at a1 a5
  refine ⟨?_, ?_⟩
  · unfold fX6_lowestOf
    have h1 : 1 ≤ 2 ^ i := Nat.one_le_two_pow
    rw [hz_neg h, nx_and, a1, show (1 : Int32) = nI 1 from rfl, pk_sub h1]
    exact (hz_p2 i hi).2
  · rw [(hz_p2 i hi).1, show (-1 : Int32) = nI 4294967295 from rfl, show (1 : Int32) = nI 1 from rfl, pk_sub (by omega), nx_and, nx_xor, nx_and, a5]
