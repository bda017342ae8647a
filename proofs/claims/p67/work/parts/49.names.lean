/-! Names: five bits a letter on one side, base 27 on the other. -/
theorem hz_foldI (B : Nat) (hB : 0 < B) : ∀ (L M : List Nat) (a b : Nat), L.length = M.length → (∀ c ∈ L, c < B) → (∀ c ∈ M, c < B) → L.foldl (fun a c => B * a + c) a = M.foldl (fun a c => B * a + c) b → a = b ∧ L = M
  | [], [], _, _, _, _, _, h => ⟨h, rfl⟩
  | [], _ :: _, _, _, hl, _, _, _ => by simp at hl
  | _ :: _, [], _, _, hl, _, _, _ => by simp at hl
  | c :: L, d :: M, a, b, hl, h1, h2, h => by
    obtain ⟨e, rfl⟩ := hz_foldI B hB L M (B * a + c) (B * b + d) (by simpa using hl) (fun x hx => h1 x (List.mem_cons_of_mem _ hx)) (fun x hx => h2 x (List.mem_cons_of_mem _ hx)) h
    have k1 := h1 c (List.mem_cons_self ..)
    have k2 := h2 d (List.mem_cons_self ..)
    have e2 : (B * a + c) / B = (B * b + d) / B := by rw [e]
    rw [Nat.mul_add_div hB, Nat.mul_add_div hB, Nat.div_eq_of_lt k1, Nat.div_eq_of_lt k2] at e2
    have e3 : a = b := by omega
    subst e3
    exact ⟨rfl, by rw [Nat.add_left_cancel e]⟩
theorem hz_foldB (B : Nat) : ∀ (L : List Nat) (a : Nat), (∀ c ∈ L, c < B) → L.foldl (fun a c => B * a + c) a + 1 ≤ (a + 1) * B ^ L.length
  | [], a, _ => by simp
  | c :: L, a, h => by
    have k := h c (List.mem_cons_self ..)
    refine Nat.le_trans (hz_foldB B L (B * a + c) (fun x hx => h x (List.mem_cons_of_mem _ hx))) ?_
    rw [List.length_cons, Nat.pow_succ, Nat.mul_comm (B ^ L.length) B, ← Nat.mul_assoc]
    refine Nat.mul_le_mul_right _ ?_
    rw [Nat.add_mul, Nat.mul_comm a B]
    omega
theorem hz_fr0 (L : List Nat) : ∀ k, (List.replicate k 0 ++ L).foldl (fun a c => 32 * a + c) 0 = L.foldl (fun a c => 32 * a + c) 0
  | 0 => rfl
  | k + 1 => hz_fr0 L k
theorem hz_flt {L : List Nat} (h : ∀ c ∈ L, 1 ≤ c) : L.filter (fun c => decide (c ≠ 0)) = L := by
  rw [List.filter_eq_self]
  intro c hc
  have := h c hc
  exact decide_eq_true (by omega)
theorem hz_flr (k : Nat) : (List.replicate k 0).filter (fun c => decide (c ≠ 0)) = [] := by
  rw [List.filter_eq_nil_iff]
  intro c hc
  rw [List.eq_of_mem_replicate hc]
  decide
theorem hz_e5I {L M : List Nat} (hL : hz_nmL L) (hM : hz_nmL M) (h : hz_e5 L = hz_e5 M) : L = M := by
  obtain ⟨l1, l2, l3⟩ := hL
  obtain ⟨m1, m2, m3⟩ := hM
  unfold hz_e5 at h
  rw [← hz_fr0 L (6 - L.length), ← hz_fr0 M (6 - M.length)] at h
  obtain ⟨-, e⟩ := hz_foldI 32 (by decide) _ _ 0 0 (by simp; omega) (fun c hc => by
    rcases List.mem_append.1 hc with hc | hc
    · rw [List.eq_of_mem_replicate hc]; decide
    · have := l3 c hc; omega) (fun c hc => by
    rcases List.mem_append.1 hc with hc | hc
    · rw [List.eq_of_mem_replicate hc]; decide
    · have := m3 c hc; omega) h
  have e2 := congrArg (List.filter (fun c => decide (c ≠ 0))) e
  rw [List.filter_append, List.filter_append, hz_flr, hz_flr, hz_flt (fun c hc => (l3 c hc).1), hz_flt (fun c hc => (m3 c hc).1)] at e2
  exact e2
theorem hz_padM {L : List Nat} (hL : hz_nmL L) : (hz_pad L).length = 6 ∧ ∀ c ∈ hz_pad L, c < 27 := by
  obtain ⟨l1, l2, l3⟩ := hL
  unfold hz_pad
  refine ⟨by simp; omega, fun c hc => ?_⟩
  rcases List.mem_append.1 hc with hc | hc
  · have := l3 c hc; omega
  · rw [List.eq_of_mem_replicate hc]; decide
theorem hz_e27I {L M : List Nat} (hL : hz_nmL L) (hM : hz_nmL M) (h : hz_e27 (hz_pad L) = hz_e27 (hz_pad M)) : L = M := by
  obtain ⟨p1, p2⟩ := hz_padM hL
  obtain ⟨q1, q2⟩ := hz_padM hM
  obtain ⟨-, e⟩ := hz_foldI 27 (by decide) _ _ 0 0 (p1.trans q1.symm) p2 q2 h
  have e2 := congrArg (List.filter (fun c => decide (c ≠ 0))) e
  unfold hz_pad at e2
  rw [List.filter_append, List.filter_append, hz_flr, hz_flr, hz_flt (fun c hc => (hL.2.2 c hc).1), hz_flt (fun c hc => (hM.2.2 c hc).1), List.append_nil, List.append_nil] at e2
  exact e2
theorem hz_e5B {L : List Nat} (hL : hz_nmL L) : hz_e5 L < 1073741824 := by
  have h := hz_foldB 32 L 0 (fun c hc => by have := hL.2.2 c hc; omega)
  have h2 : 32 ^ L.length ≤ 32 ^ 6 := Nat.pow_le_pow_right (by decide) hL.2.1
  unfold hz_e5
  rw [show (32 : Nat) ^ 6 = 1073741824 from rfl] at h2
  omega
theorem hz_e27B {L : List Nat} (hL : hz_nmL L) : hz_e27 (hz_pad L) < 387420489 := by
  obtain ⟨p1, p2⟩ := hz_padM hL
  have h := hz_foldB 27 (hz_pad L) 0 p2
  rw [p1, show (0 + 1) * (27 : Nat) ^ 6 = 387420489 from rfl] at h
  unfold hz_e27
  omega
theorem hz_nIi {a b : Nat} (ha : a < 2147483648) (hb : b < 2147483648) (h : nI a = nI b) : a = b := by
  rw [hz_inj, nI_toInt ha, nI_toInt hb] at h
  omega
/-- two names are the same on one side just when they are on the other -/
theorem hz_nmI {x y u v : Int32} (h : hz_nm x y) (g : hz_nm u v) : x = u ↔ y = v := by
  obtain ⟨L, hL, rfl, rfl⟩ := h
  obtain ⟨M, hM, rfl, rfl⟩ := g
  have b1 := hz_e5B hL
  have b2 := hz_e5B hM
  have b3 := hz_e27B hL
  have b4 := hz_e27B hM
  constructor
  · intro h
    rw [hz_e5I hL hM (hz_nIi (by omega) (by omega) h)]
  · intro h
    rw [hz_e27I hL hM (hz_nIi (by omega) (by omega) h)]
theorem hz_shl5 (a : Nat) : (nI a) <<< ((5 : Int32) &&& 31) = nI (2 ^ 5 * a) := by
  apply b_ext
  intro i hi
  have h := b_shl 5 (by omega) (nI a) hi
  rw [show nI 5 = 5 from rfl] at h
  rw [h, hz_btN _ _ hi, Nat.testBit_two_pow_mul, hz_btN _ _ (show i - 5 < 32 by omega)]
theorem hz_let {g : Nat} (h1 : 97 ≤ g) (h2 : g ≤ 122) : (nI g - 97) + 1 = nI (g - 96) := by
  have e : (nI g - 97).toInt = (g : Int) - 97 := by
    rw [hz_sub (by rw [nI_toInt (by omega), show (97 : Int32).toInt = 97 from rfl]; omega) (by rw [nI_toInt (by omega), show (97 : Int32).toInt = 97 from rfl]; omega), nI_toInt (by omega), show (97 : Int32).toInt = 97 from rfl]
  rw [hz_inj, i32_add (by rw [e, show (1 : Int32).toInt = 1 from rfl]; omega) (by rw [e, show (1 : Int32).toInt = 1 from rfl]; omega), e, nI_toInt (by omega), show (1 : Int32).toInt = 1 from rfl]
  omega
theorem hz_step5 {a g : Nat} (h1 : 97 ≤ g) (h2 : g ≤ 122) : ((nI a) <<< ((5 : Int32) &&& 31)) ||| ((nI g - 97) + 1) = nI (32 * a + (g - 96)) := by
  rw [hz_let h1 h2, hz_shl5, nx_or, ← Nat.two_pow_add_eq_or_of_lt (show g - 96 < 2 ^ 5 by omega)]
theorem hz_isl : ∀ g, g < 256 → fX6_isLetter (nI g) = if 97 ≤ g ∧ g ≤ 122 then 1 else 0 := by decide +kernel
theorem hz_bl : ∀ g, g < 256 → fX6_isBetween ((nI g).toInt8.toInt32) 97 122 = if 97 ≤ g ∧ g ≤ 122 then 1 else 0 := by decide +kernel
theorem hz_b7 : ∀ g, g < 128 → (nI g).toInt8.toInt32 = nI g := by decide +kernel
def hz_wd (g : Nat → Nat) (i n : Nat) : List Nat := (List.range' i n).map (fun j => g j - 96)
def hz_al (g : Nat → Nat) (i n : Nat) : Prop := ∀ j, i ≤ j → j < i + n → 97 ≤ g j ∧ g j ≤ 122
theorem hz_wdN {g : Nat → Nat} {i n : Nat} (h : hz_al g i n) (h1 : 1 ≤ n) (h2 : n ≤ 6) : hz_nmL (hz_wd g i n) := by
  unfold hz_wd
  refine ⟨by simp; omega, by simp; omega, fun c hc => ?_⟩
  rw [List.mem_map] at hc
  obtain ⟨j, hj, rfl⟩ := hc
  rw [List.mem_range'_1] at hj
  have := h j hj.1 hj.2
  omega
theorem hl_pn {N : Nat} (hN : N < 1000000) (f : Nat → Int32) (g : Nat → Nat) (z2 : Int32) : ∀ (n i a fu : Nat), i + n ≤ N → n < fu → (∀ j, i ≤ j → j < i + n → f j = nI (g j) ∧ g j < 256) → (hz_al g i n → fX6_packName_22 N f z2 (nI (i + n)) fu (nI i) (nI a) = nI ((hz_wd g i n).foldl (fun a c => 32 * a + c) a)) ∧ (¬ hz_al g i n → fX6_packName_22 N f z2 (nI (i + n)) fu (nI i) (nI a) = -1) := by
  intro n
  induction n with
  | zero =>
    intro i a fu _ hf _
    obtain ⟨fu, rfl⟩ : ∃ k, fu = k + 1 := ⟨fu - 1, by omega⟩
    have e : fX6_packName_22 N f z2 (nI (i + 0)) (fu + 1) (nI i) (nI a) = nI a := if_pos (show nI i ≤ nI i by rw [hz_le]; omega)
    exact ⟨fun _ => e, fun h => absurd (show hz_al g i 0 from fun j h1 h2 => by omega) h⟩
  | succ n ih =>
    intro i a fu hi hf hh
    obtain ⟨fu, rfl⟩ : ∃ k, fu = k + 1 := ⟨fu - 1, by omega⟩
    obtain ⟨hi1, hi2⟩ := hh i (Nat.le_refl _) (by omega)
    have e1 : fX6_packName_22 N f z2 (nI (i + (n + 1))) (fu + 1) (nI i) (nI a) = (if nI (i + (n + 1)) ≤ nI i then nI a else if (fX6_isLetter (fX6_at N f (nI i))) = 0 then (-1) else fX6_packName_22 N f z2 (nI (i + (n + 1))) fu (nI i + 1) (((nI a) <<< ((5 : Int32) &&& 31)) ||| (((fX6_at N f (nI i)) - 97) + 1))) := rfl
    rw [hz_at f (by omega) (by omega), hi1, if_neg (show ¬ nI (i + (n + 1)) ≤ nI i by rw [hz_le, nI_toInt (by omega), nI_toInt (by omega)]; omega), ← nI_succ, hz_isl _ hi2] at e1
    by_cases c : 97 ≤ g i ∧ g i ≤ 122
    · rw [if_pos c, if_neg (show ¬ (1 : Int32) = 0 by decide), hz_step5 c.1 c.2] at e1
      have k := ih (i + 1) (32 * a + (g i - 96)) fu (by omega) (by omega) (fun j h1 h2 => hh j (by omega) (by omega))
      rw [show i + 1 + n = i + (n + 1) by omega] at k
      rw [e1]
      exact ⟨fun h => k.1 (fun j h1 h2 => h j (by omega) (by omega)), fun h => k.2 (fun h3 => h (fun j h1 h2 => by
        by_cases e : j = i
        · rw [e]; exact c
        · exact h3 j (by omega) (by omega)))⟩
    · rw [if_neg c, if_pos rfl] at e1
      rw [e1]
      exact ⟨fun h => absurd (h i (Nat.le_refl _) (by omega)) c, fun _ => rfl⟩
theorem hz_subN (i n : Nat) (h : i + n < 2147483648) : nI (i + n) - nI i = nI n := by
  rw [hz_inj, hz_sub (by rw [nI_toInt (by omega), nI_toInt (by omega)]; omega) (by rw [nI_toInt (by omega), nI_toInt (by omega)]; omega), nI_toInt (by omega), nI_toInt (by omega), nI_toInt (by omega)]
  omega
theorem hz_packName {N : Nat} (hN : N < 1000000) (f : Nat → Int32) (g : Nat → Nat) {i n : Nat} (hi : i + n ≤ N) (hh : ∀ j, i ≤ j → j < i + n → f j = nI (g j) ∧ g j < 256) : (1 ≤ n ∧ n ≤ 6 ∧ hz_al g i n → fX6_packName N f (nI i) (nI (i + n)) = nI (hz_e5 (hz_wd g i n))) ∧ (¬ (1 ≤ n ∧ n ≤ 6 ∧ hz_al g i n) → fX6_packName N f (nI i) (nI (i + n)) = -1) := by
  have hf : n < fuU (nI (i + n)) (nI i) := by
    unfold fuU
    rw [nI_toInt (by omega), nI_toInt (by omega)]
    omega
  unfold fX6_packName
  generalize fuU (nI (i + n)) (nI i) = F at *
  rw [hz_subN i n (by omega)]
  have c1 : nI n < 1 ↔ n < 1 := by
    show nI n < nI 1 ↔ _
    rw [nI_ltI (by omega) (by omega)]
  have c2 : nI n ≤ 6 ↔ n ≤ 6 := by
    show nI n ≤ nI 6 ↔ _
    rw [hz_le, nI_toInt (by omega), nI_toInt (by omega)]; omega
  obtain ⟨k1, k2⟩ := hl_pn hN f g (nI i) n i 0 F hi hf hh
  rw [nI_0] at k1 k2
  constructor
  · rintro ⟨h1, h2, h3⟩
    rw [if_neg (fun h => by have := c1.1 h; omega), if_pos (c2.2 h2)]
    exact k1 h3
  · intro h
    by_cases h1 : n < 1
    · rw [if_pos (c1.2 h1)]
    · by_cases h2 : n ≤ 6
      · rw [if_neg (fun h => h1 (c1.1 h)), if_pos (c2.2 h2)]
        exact k2 (fun h3 => h ⟨by omega, h2, h3⟩)
      · rw [if_neg (fun h => h1 (c1.1 h)), if_neg (fun h => h2 (c2.1 h))]
