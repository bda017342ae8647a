/-! Names are written alike. -/
theorem b_31 (i : Nat) : bt 31 i = decide (i < 5) := by
  rcases Nat.lt_or_ge i 32 with h | h
  · exact (by decide +kernel : ∀ i, i < 32 → bt 31 i = decide (i < 5)) i h
  · rw [b_big h, decide_eq_false (by omega)]
theorem bb_sh {v s : Nat} (hv : v < 2 ^ 31) (hs : s < 32) : ((nI v) >>> (nI s &&& 31)) &&& 31 = nI (v / 2 ^ s % 32) := by
  apply b_ext
  intro i hi
  rw [b_and, b_31, b_sshr s hs _ hi, hz_btN _ i hi, show (32 : Nat) = 2 ^ 5 from rfl, Nat.testBit_mod_two_pow, Nat.testBit_div_two_pow]
  by_cases c : i < 5
  · by_cases c2 : s + i < 32
    · rw [if_pos c2, hz_btN _ _ c2, Nat.add_comm i s, Bool.and_comm]
    · have hb : ∀ k, 31 ≤ k → v.testBit k = false := fun k hk => Nat.testBit_lt_two_pow (Nat.lt_of_lt_of_le hv (Nat.pow_le_pow_right (by decide) hk))
      rw [if_neg c2, hz_btN _ _ (by decide), hb 31 (Nat.le_refl _), hb (i + s) (by omega)]
      simp
  · rw [decide_eq_false c, Bool.and_false, Bool.false_and]
theorem nm1_0 {v s : Nat} (hv : v < 2 ^ 31) (hs : s < 32) (h : v / 2 ^ s % 32 = 0) : nmB1 (nI v) s = [] := by
  unfold nmB1
  rw [bb_sh hv hs, h, nI_0, if_pos rfl]
theorem nm1_c {v s c : Nat} (hv : v < 2 ^ 31) (hs : s < 32) (h : v / 2 ^ s % 32 = c) (h1 : 1 ≤ c) (h2 : c ≤ 26) : nmB1 (nI v) s = [nI (96 + c)] := by
  unfold nmB1
  rw [bb_sh hv hs, h, if_neg (fun z => by have := hz_nIi (a := c) (b := 0) (by omega) (by omega) z; omega), nI_clamp (by omega)]
def ltB (L : List Nat) : List Int32 := L.map (fun c => nI (96 + c))
theorem nm_B {L : List Nat} (h : hz_nmL L) : nmB (nI (hz_e5 L)) = ltB L := by
  obtain ⟨h1, h2, h3⟩ := h
  unfold nmB ltB hz_e5
  match L, h1, h2, h3 with
  | [a], _, _, h3 =>
    have ha := h3 a (by simp)
    simp only [List.foldl_cons, List.foldl_nil, List.map_cons, List.map_nil]
    rw [nm1_0 (s := 25) (by omega) (by decide) (by omega), nm1_0 (s := 20) (by omega) (by decide) (by omega), nm1_0 (s := 15) (by omega) (by decide) (by omega), nm1_0 (s := 10) (by omega) (by decide) (by omega), nm1_0 (s := 5) (by omega) (by decide) (by omega), nm1_c (s := 0) (c := a) (by omega) (by decide) (by omega) ha.1 ha.2]
    rfl
  | [a, b], _, _, h3 =>
    have ha := h3 a (by simp)
    have hb := h3 b (by simp)
    simp only [List.foldl_cons, List.foldl_nil, List.map_cons, List.map_nil]
    rw [nm1_0 (s := 25) (by omega) (by decide) (by omega), nm1_0 (s := 20) (by omega) (by decide) (by omega), nm1_0 (s := 15) (by omega) (by decide) (by omega), nm1_0 (s := 10) (by omega) (by decide) (by omega), nm1_c (s := 5) (c := a) (by omega) (by decide) (by omega) ha.1 ha.2, nm1_c (s := 0) (c := b) (by omega) (by decide) (by omega) hb.1 hb.2]
    rfl
  | [a, b, c], _, _, h3 =>
    have ha := h3 a (by simp)
    have hb := h3 b (by simp)
    have hc := h3 c (by simp)
    simp only [List.foldl_cons, List.foldl_nil, List.map_cons, List.map_nil]
    rw [nm1_0 (s := 25) (by omega) (by decide) (by omega), nm1_0 (s := 20) (by omega) (by decide) (by omega), nm1_0 (s := 15) (by omega) (by decide) (by omega), nm1_c (s := 10) (c := a) (by omega) (by decide) (by omega) ha.1 ha.2, nm1_c (s := 5) (c := b) (by omega) (by decide) (by omega) hb.1 hb.2, nm1_c (s := 0) (c := c) (by omega) (by decide) (by omega) hc.1 hc.2]
    rfl
  | [a, b, c, d], _, _, h3 =>
    have ha := h3 a (by simp)
    have hb := h3 b (by simp)
    have hc := h3 c (by simp)
    have hd := h3 d (by simp)
    simp only [List.foldl_cons, List.foldl_nil, List.map_cons, List.map_nil]
    rw [nm1_0 (s := 25) (by omega) (by decide) (by omega), nm1_0 (s := 20) (by omega) (by decide) (by omega), nm1_c (s := 15) (c := a) (by omega) (by decide) (by omega) ha.1 ha.2, nm1_c (s := 10) (c := b) (by omega) (by decide) (by omega) hb.1 hb.2, nm1_c (s := 5) (c := c) (by omega) (by decide) (by omega) hc.1 hc.2, nm1_c (s := 0) (c := d) (by omega) (by decide) (by omega) hd.1 hd.2]
    rfl
  | [a, b, c, d, e], _, _, h3 =>
    have ha := h3 a (by simp)
    have hb := h3 b (by simp)
    have hc := h3 c (by simp)
    have hd := h3 d (by simp)
    have he := h3 e (by simp)
    simp only [List.foldl_cons, List.foldl_nil, List.map_cons, List.map_nil]
    rw [nm1_0 (s := 25) (by omega) (by decide) (by omega), nm1_c (s := 20) (c := a) (by omega) (by decide) (by omega) ha.1 ha.2, nm1_c (s := 15) (c := b) (by omega) (by decide) (by omega) hb.1 hb.2, nm1_c (s := 10) (c := c) (by omega) (by decide) (by omega) hc.1 hc.2, nm1_c (s := 5) (c := d) (by omega) (by decide) (by omega) hd.1 hd.2, nm1_c (s := 0) (c := e) (by omega) (by decide) (by omega) he.1 he.2]
    rfl
  | [a, b, c, d, e, f], _, _, h3 =>
    have ha := h3 a (by simp)
    have hb := h3 b (by simp)
    have hc := h3 c (by simp)
    have hd := h3 d (by simp)
    have he := h3 e (by simp)
    have hf := h3 f (by simp)
    simp only [List.foldl_cons, List.foldl_nil, List.map_cons, List.map_nil]
    rw [nm1_c (s := 25) (c := a) (by omega) (by decide) (by omega) ha.1 ha.2, nm1_c (s := 20) (c := b) (by omega) (by decide) (by omega) hb.1 hb.2, nm1_c (s := 15) (c := c) (by omega) (by decide) (by omega) hc.1 hc.2, nm1_c (s := 10) (c := d) (by omega) (by decide) (by omega) hd.1 hd.2, nm1_c (s := 5) (c := e) (by omega) (by decide) (by omega) he.1 he.2, nm1_c (s := 0) (c := f) (by omega) (by decide) (by omega) hf.1 hf.2]
    rfl
/-- the model's letters -/
theorem bb_div27 {z : Nat} (hz : z < 2000000000) : nI z / 27 = nI (z / 27) := by
  have hq : z / 27 ≤ z := Nat.div_le_self z 27
  rw [hz_inj, Int32.toInt_div_of_ne_right _ _ (by decide), nI_toInt (by omega), nI_toInt (by omega), show (27 : Int32).toInt = 27 from rfl, Int.tdiv_eq_ediv_of_nonneg (by omega)]
  rfl
theorem bb_mod27 {q : Nat} (hq : q < 2000000000) : nI q - nI q / 27 * 27 = nI (q % 27) := by
  have e : nI q / 27 = nI (q / 27) := bb_div27 hq
  have e2 : nI (q / 27) * 27 = nI (q / 27 * 27) := pk_mul (q / 27) 27
  rw [e, e2, pk_sub (by omega)]
  congr 1
  omega
def dv27 : Nat → Nat → Nat
  | 0, v => v
  | k + 1, v => dv27 k (v / 27)
theorem mt_ltL (z1 z2 : Int32) : ∀ (n i fu v : Nat), i + n = 5 → n < fu → v < 2000000000 → (fX7_letterOf_4 z1 z2 fu (nI i) (nI v)).2 = nI (dv27 n v) := by
  intro n
  induction n with
  | zero =>
    intro i fu v hi hf hv
    obtain ⟨fu, rfl⟩ : ∃ k, fu = k + 1 := ⟨fu - 1, by omega⟩
    have hi5 : i = 5 := by omega
    have e : fX7_letterOf_4 z1 z2 (fu + 1) (nI i) (nI v) = (nI i, nI v) := if_pos (by rw [hi5]; decide)
    rw [e]
    rfl
  | succ n ih =>
    intro i fu v hi hf hv
    obtain ⟨fu, rfl⟩ : ∃ k, fu = k + 1 := ⟨fu - 1, by omega⟩
    have c : ¬ (5 : Int32) ≤ nI i := by
      show ¬ nI 5 ≤ nI i
      rw [nI_leI (by omega) (by omega)]; omega
    have e : fX7_letterOf_4 z1 z2 (fu + 1) (nI i) (nI v) = fX7_letterOf_4 z1 z2 fu (nI i + 1) (nI v / 27) := if_neg c
    rw [e, ← nI_succ, bb_div27 hv]
    have hq : v / 27 ≤ v := Nat.div_le_self v 27
    exact ih (i + 1) fu (v / 27) (by omega) (by omega) (by omega)
theorem mt_lt {v i : Nat} (hv : v < 2000000000) (hi : i ≤ 5) (hd : dv27 (5 - i) v < 2000000000) : fX7_letterOf (nI v) (nI i) = nI (dv27 (5 - i) v % 27) := by
  have hf : 5 - i < fuU 5 (nI i) := by
    unfold fuU
    rw [nI_toInt (by omega), show (5 : Int32).toInt = 5 from rfl]
    omega
  have e := mt_ltL (nI v) (nI i) (5 - i) i (fuU 5 (nI i)) v (by omega) hf hv
  unfold fX7_letterOf
  simp only [hz_bnd]
  rw [e, bb_mod27 hd]
theorem pd_6 {L : List Nat} (h : hz_nmL L) : ∃ a b c d e f, hz_pad L = [a, b, c, d, e, f] ∧ a ≤ 26 ∧ b ≤ 26 ∧ c ≤ 26 ∧ d ≤ 26 ∧ e ≤ 26 ∧ f ≤ 26 ∧ (1 ≤ a) ∧ ltB L = ([a, b, c, d, e, f].filter (fun x => decide (1 ≤ x))).map (fun c => nI (96 + c)) := by
  obtain ⟨h1, h2, h3⟩ := h
  unfold hz_pad ltB
  have fl : ∀ x : Nat, 1 ≤ x → decide (1 ≤ x) = true := fun x hx => decide_eq_true hx
  match L, h1, h2, h3 with
  | [a], _, _, h3 =>
    have ha := h3 a (by simp)
    exact ⟨a, 0, 0, 0, 0, 0, rfl, by omega, by omega, by omega, by omega, by omega, by omega, ha.1, by simp [ha.1]⟩
  | [a, b], _, _, h3 =>
    have ha := h3 a (by simp)
    have hb := h3 b (by simp)
    exact ⟨a, b, 0, 0, 0, 0, rfl, by omega, by omega, by omega, by omega, by omega, by omega, ha.1, by simp [ha.1, hb.1]⟩
  | [a, b, c], _, _, h3 =>
    have ha := h3 a (by simp)
    have hb := h3 b (by simp)
    have hc := h3 c (by simp)
    exact ⟨a, b, c, 0, 0, 0, rfl, by omega, by omega, by omega, by omega, by omega, by omega, ha.1, by simp [ha.1, hb.1, hc.1]⟩
  | [a, b, c, d], _, _, h3 =>
    have ha := h3 a (by simp)
    have hb := h3 b (by simp)
    have hc := h3 c (by simp)
    have hd := h3 d (by simp)
    exact ⟨a, b, c, d, 0, 0, rfl, by omega, by omega, by omega, by omega, by omega, by omega, ha.1, by simp [ha.1, hb.1, hc.1, hd.1]⟩
  | [a, b, c, d, e], _, _, h3 =>
    have ha := h3 a (by simp)
    have hb := h3 b (by simp)
    have hc := h3 c (by simp)
    have hd := h3 d (by simp)
    have he := h3 e (by simp)
    exact ⟨a, b, c, d, e, 0, rfl, by omega, by omega, by omega, by omega, by omega, by omega, ha.1, by simp [ha.1, hb.1, hc.1, hd.1, he.1]⟩
  | [a, b, c, d, e, f], _, _, h3 =>
    have ha := h3 a (by simp)
    have hb := h3 b (by simp)
    have hc := h3 c (by simp)
    have hd := h3 d (by simp)
    have he := h3 e (by simp)
    have hf := h3 f (by simp)
    exact ⟨a, b, c, d, e, f, rfl, by omega, by omega, by omega, by omega, by omega, by omega, ha.1, by simp [ha.1, hb.1, hc.1, hd.1, he.1, hf.1]⟩
/-- one letter or none -/
def l1B (c : Nat) : List Int32 := if 1 ≤ c then [nI (96 + c)] else []
theorem mt_nmS {m0 m : Md} {T : List Int32} {v i c fu : Nat} (h : MT m0 T m) (hl : fX7_letterOf (nI v) (nI i) = nI c) (hc : c ≤ 26) (hi : i ≤ 5) (hT : T.length + 1 ≤ 2000) : ∃ m1, fX7_writeName_8 (nI v) (fu + 1) (nI i) m = fX7_writeName_8 (nI v) fu (nI (i + 1)) m1 ∧ MT m0 (T ++ l1B c) m1 ∧ (sX7_writeName_8 (nI v) fu (nI (i + 1)) m1 → sX7_writeName_8 (nI v) (fu + 1) (nI i) m) := by
  have c6 : ¬ (6 : Int32) ≤ nI i := by
    show ¬ nI 6 ≤ nI i
    rw [nI_leI (by omega) (by omega)]; omega
  have e1 : fX7_writeName_8 (nI v) (fu + 1) (nI i) m = (if 6 ≤ nI i then (nI i, m) else (if (fX7_letterOf (nI v) (nI i)) ≤ 0 then (fX7_writeName_8 (nI v) fu (nI i + 1) m) else (fX7_writeName_8 (nI v) fu (nI i + 1) (fX7_write m (((97 : Int32) + (fX7_letterOf (nI v) (nI i))) - 1))))) := rfl
  have e2 : sX7_writeName_8 (nI v) (fu + 1) (nI i) m = ((6 ≤ nI i → True) ∧ (¬ 6 ≤ nI i → (((fX7_letterOf (nI v) (nI i)) ≤ 0 → (sX7_writeName_8 (nI v) fu (nI i + 1) m)) ∧ (¬ (fX7_letterOf (nI v) (nI i)) ≤ 0 → ((sX7_write m (((97 : Int32) + (fX7_letterOf (nI v) (nI i))) - 1)) ∧ (sX7_writeName_8 (nI v) fu (nI i + 1) (fX7_write m (((97 : Int32) + (fX7_letterOf (nI v) (nI i))) - 1)))))))) := rfl
  rw [e1, e2, if_neg c6, hl, ← nI_succ]
  by_cases h0 : 1 ≤ c
  · have hp : ¬ nI c ≤ 0 := sb_pos (by omega) (by omega)
    have ex : (97 + nI c) - 1 = nI (96 + c) := by
      have : ∀ c, c < 32 → (97 + nI c) - 1 = nI (96 + c) := by decide
      exact this c (by omega)
    obtain ⟨w1, w2⟩ := mt_w h (show nI (96 + c) = nI (96 + c) from rfl) (by omega) hT
    rw [if_neg hp, ex]
    refine ⟨_, rfl, by unfold l1B; rw [if_pos h0]; exact w2, fun hs => ⟨fun _ => trivial, fun _ => ⟨fun hh => absurd hh hp, fun _ => ⟨w1, hs⟩⟩⟩⟩
  · have hp : nI c ≤ 0 := by rw [show c = 0 by omega]; decide
    rw [if_pos hp]
    refine ⟨_, rfl, by unfold l1B; rw [if_neg h0, List.append_nil]; exact h, fun hs => ⟨fun _ => trivial, fun _ => ⟨fun _ => hs, fun hh => absurd hp hh⟩⟩⟩
theorem l1_f : ∀ L : List Nat, (L.filter (fun x => decide (1 ≤ x))).map (fun c => nI (96 + c)) = L.flatMap l1B
  | [] => rfl
  | x :: xs => by
    rw [List.flatMap_cons, ← l1_f xs, List.filter_cons]
    unfold l1B
    by_cases h : 1 ≤ x
    · rw [if_pos h, if_pos (decide_eq_true h)]; rfl
    · rw [if_neg h, if_neg (by simpa using h)]; rfl
theorem l1_len (c : Nat) : (l1B c).length ≤ 1 := by
  unfold l1B
  by_cases h : 1 ≤ c
  · rw [if_pos h]; exact Nat.le_refl 1
  · rw [if_neg h]; exact Nat.zero_le 1
theorem mt_name {m0 m : Md} {T : List Int32} (h : MT m0 T m) {x y : Int32} (hn : hz_nm x y) (hT : T.length + 7 ≤ 2000) : sX7_writeName m y ∧ MT m0 (T ++ [nI 32] ++ nmB x) (fX7_writeName m y) ∧ (nmB x).length ≤ 6 := by
  obtain ⟨L, hL, rfl, rfl⟩ := hn
  rw [nm_B hL]
  obtain ⟨a, b, c, d, e, f, hp, ha, hb, hc, hd, he, hf, -, hlt⟩ := pd_6 hL
  have hv : hz_e27 (hz_pad L) = ((((a * 27 + b) * 27 + c) * 27 + d) * 27 + e) * 27 + f := by
    rw [hp]
    unfold hz_e27
    simp only [List.foldl_cons, List.foldl_nil]
    omega
  have hlt2 : ltB L = l1B a ++ (l1B b ++ (l1B c ++ (l1B d ++ (l1B e ++ l1B f)))) := by
    rw [hlt, l1_f]
    simp only [List.flatMap_cons, List.flatMap_nil, List.append_nil]
  rw [hv, hlt2]
  obtain ⟨v, ev⟩ : ∃ v, ((((a * 27 + b) * 27 + c) * 27 + d) * 27 + e) * 27 + f = v := ⟨_, rfl⟩
  rw [ev]
  have hv2 : v < 2000000000 := by omega
  have q1 : v / 27 = (((a * 27 + b) * 27 + c) * 27 + d) * 27 + e := by omega
  have q2 : v / 27 / 27 = ((a * 27 + b) * 27 + c) * 27 + d := by omega
  have q3 : v / 27 / 27 / 27 = (a * 27 + b) * 27 + c := by omega
  have q4 : v / 27 / 27 / 27 / 27 = a * 27 + b := by omega
  have q5 : v / 27 / 27 / 27 / 27 / 27 = a := by omega
  have k0 : fX7_letterOf (nI v) (nI 0) = nI a := by
    rw [mt_lt hv2 (by decide) (by show v / 27 / 27 / 27 / 27 / 27 < _; omega)]
    exact congrArg nI (show v / 27 / 27 / 27 / 27 / 27 % 27 = a by omega)
  have k1 : fX7_letterOf (nI v) (nI 1) = nI b := by
    rw [mt_lt hv2 (by decide) (by show v / 27 / 27 / 27 / 27 < _; omega)]
    exact congrArg nI (show v / 27 / 27 / 27 / 27 % 27 = b by omega)
  have k2 : fX7_letterOf (nI v) (nI 2) = nI c := by
    rw [mt_lt hv2 (by decide) (by show v / 27 / 27 / 27 < _; omega)]
    exact congrArg nI (show v / 27 / 27 / 27 % 27 = c by omega)
  have k3 : fX7_letterOf (nI v) (nI 3) = nI d := by
    rw [mt_lt hv2 (by decide) (by show v / 27 / 27 < _; omega)]
    exact congrArg nI (show v / 27 / 27 % 27 = d by omega)
  have k4 : fX7_letterOf (nI v) (nI 4) = nI e := by
    rw [mt_lt hv2 (by decide) (by show v / 27 < _; omega)]
    exact congrArg nI (show v / 27 % 27 = e by omega)
  have k5 : fX7_letterOf (nI v) (nI 5) = nI f := by
    rw [mt_lt hv2 (by decide) (by show v < _; omega)]
    exact congrArg nI (show v % 27 = f by omega)
  have la := l1_len a
  have lb := l1_len b
  have lc := l1_len c
  have ld := l1_len d
  have le := l1_len e
  have lf := l1_len f
  obtain ⟨w1, w2⟩ := mt_w h (z := 32) (b := 32) rfl (by decide) (by omega)
  obtain ⟨m1, p1, p2, p3⟩ := mt_nmS (fu := 6) w2 k0 ha (by decide) (by simp only [List.length_append, List.length_cons, List.length_nil]; omega)
  obtain ⟨m2, r1, r2, r3⟩ := mt_nmS (fu := 5) p2 k1 hb (by decide) (by simp only [List.length_append, List.length_cons, List.length_nil]; omega)
  obtain ⟨m3, s1, s2, s3⟩ := mt_nmS (fu := 4) r2 k2 hc (by decide) (by simp only [List.length_append, List.length_cons, List.length_nil]; omega)
  obtain ⟨m4, t1, t2, t3⟩ := mt_nmS (fu := 3) s2 k3 hd (by decide) (by simp only [List.length_append, List.length_cons, List.length_nil]; omega)
  obtain ⟨m5, u1, u2, u3⟩ := mt_nmS (fu := 2) t2 k4 he (by decide) (by simp only [List.length_append, List.length_cons, List.length_nil]; omega)
  obtain ⟨m6, v1, v2, v3⟩ := mt_nmS (fu := 1) u2 k5 hf (by decide) (by simp only [List.length_append, List.length_cons, List.length_nil]; omega)
  have c6 : (6 : Int32) ≤ nI (5 + 1) := by decide
  have x1 : fX7_writeName_8 (nI v) (0 + 1) (nI (5 + 1)) m6 = (nI (5 + 1), m6) := if_pos c6
  have x2 : sX7_writeName_8 (nI v) (0 + 1) (nI (5 + 1)) m6 := ⟨fun _ => trivial, fun hh => absurd c6 hh⟩
  have eF : fX7_writeName_8 (nI v) 7 0 (fX7_write m 32) = (nI (5 + 1), m6) := by
    rw [← nI_0]
    exact p1.trans (r1.trans (s1.trans (t1.trans (u1.trans (v1.trans x1)))))
  have sF : sX7_writeName_8 (nI v) 7 0 (fX7_write m 32) := by
    rw [← nI_0]
    exact p3 (r3 (s3 (t3 (u3 (v3 x2)))))
  have f7 : fuU 6 0 = 7 := rfl
  unfold sX7_writeName fX7_writeName
  simp only [hz_bnd]
  rw [f7, eF]
  refine ⟨⟨w1, sF, trivial⟩, ?_, by simp only [List.length_append]; omega⟩
  simp only [List.append_assoc] at v2 ⊢
  exact v2
