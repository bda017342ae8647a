/-! The law's feeding of a text, four bytes in a number. -/
def TA (T : List Int32) : Prop := ∀ j, j < T.length → ∃ k, k < 128 ∧ T.getD j 0 = nI k
/-- a text that the law holds, apart from the object at B -/
def StO (G : GM) (h : List va_E) (B : Nat) (w : Wd) (v : Nat) (T : List Int32) : Prop := (∃ j q, strTab[j]? = some q ∧ v = gS G j ∧ q.2.2.2 = T) ∨ ∃ si sr sf, v = gz G + si ∧ DSt G h si sr sf T.length ∧ (∀ j, j < T.length → sf j = T.getD j 0) ∧ ((si < B ∨ B + 221 ≤ si) ∧ ¬ si = B + w.2.2.2.2.2.1) ∧ ((sr < B ∨ B + 221 ≤ sr) ∧ ¬ sr = B + w.2.2.2.2.2.1)
theorem og_T {B : Nat} {w w1 w2 : Wd} {h h1 h2 : List va_E} (a : OG B w w1 h h1) (b : OG B w1 w2 h1 h2) : OG B w w2 h h2 := by
  obtain ⟨⟨a1, a2⟩, a3⟩ := a
  obtain ⟨⟨b1, b2⟩, b3⟩ := b
  refine ⟨⟨by omega, fun q q1 q2 q3 => ?_⟩, by omega⟩
  rw [b2 q (by omega) q2 (by omega), a2 q q1 q2 q3]
theorem og_0 (B : Nat) (w : Wd) (h : List va_E) : OG B w w h h := ⟨of_0 B w h, Or.inl rfl⟩
theorem st_og {G : GM} {h h1 : List va_E} {B : Nat} {w w1 : Wd} {v : Nat} {T : List Int32} (s : StO G h B w v T) (g : OG B w w1 h h1) : StO G h1 B w1 v T := by
  rcases s with s | ⟨si, sr, sf, e, ⟨d1, d2, d3, d4⟩, f, ⟨x1, x2⟩, y1, y2⟩
  · exact Or.inl s
  · obtain ⟨⟨g1, g2⟩, g3⟩ := g
    have l1 := (List.getElem?_eq_some_iff.mp d1).1
    have l2 := (List.getElem?_eq_some_iff.mp d2).1
    refine Or.inr ⟨si, sr, sf, e, ⟨(g2 si l1 x1 x2).trans d1, (g2 sr l2 y1 y2).trans d2, d3, d4⟩, f, ⟨x1, fun z => ?_⟩, y1, fun z => ?_⟩
    · rcases g3 with g | g | g
      · exact x2 (by rw [g] at z; exact z)
      · omega
      · omega
    · rcases g3 with g | g | g
      · exact y2 (by rw [g] at z; exact z)
      · omega
      · omega
theorem ta_g {T : List Int32} (h : TA T) (j : Nat) : isY (T.getD j 0) := by
  by_cases c : j < T.length
  · obtain ⟨k, k1, k2⟩ := h j c
    rw [k2]
    exact isY_n (by omega)
  · rw [List.getD_eq_getElem?_getD, List.getElem?_eq_none (by omega)]
    exact isY_n (k := 0) (by decide)
theorem ic_128 : ∀ k, k < 128 → ichr (nI k &&& 255) = nI k := by decide +kernel
section LFD
variable {l : Launch} {G : GM} {M : MD} {d k u pc idx : Nat} {lv : List (Nat × Value)} {rest : List Value} {h : List va_E} {Q : Option Value → List va_E → Prop} {B : Nat} {w : Wd} {v : Nat} {T : List Int32}
theorem am_sl (hd : decode M.2.1 pc = .ok (.invokevirtual idx, 3)) (hM : okV M.1.cls idx mJ0_length_8abf5 0) (hs : StO G h B w v T) (hw : (rest.map fun v => v.category).sum ≤ 8) (hd2 : 2 ≤ d) (k1 : Tr l G M d k u (pc + 3) lv (.int (nI T.length) :: rest) h Q) : Tr l G M d k u pc lv (.ref v :: rest) h Q := by
  rcases hs with ⟨j, q, j1, rfl, j3⟩ | ⟨si, sr, sf, rfl, e, -, -, -⟩
  · refine am_callK (As := []) (rest := rest) hd hM rfl (q := q) j1 rfl rfl hw (d2 := 1) (by omega) (k2 := 0) (Nat.zero_le _) (u2 := 0) (Nat.zero_le _) (Nat.le_of_ble_eq_true rfl) (ctJ0_length_8abf5 j1) (fun r1 h2 q3 => ?_)
    obtain ⟨rfl, rfl⟩ := q3
    rw [j3]
    exact k1
  · refine am_callV (As := []) (rest := rest) hd hM rfl e.1 rfl rfl hw (d2 := 1) (by omega) (k2 := 0) (Nat.zero_le _) (u2 := 0) (Nat.zero_le _) (Nat.le_of_ble_eq_true rfl) (ctJ0_lengthD e) (fun r1 h2 q3 => ?_)
    obtain ⟨rfl, rfl⟩ := q3
    exact k1
theorem am_sc {i : Nat} (hd : decode M.2.1 pc = .ok (.invokevirtual idx, 3)) (hM : okV M.1.cls idx mJ0_charAt_5068e 1) (hs : StO G h B w v T) (hT : TA T) (hl : T.length ≤ 4096) (hi : i < T.length) (hw : (rest.map fun v => v.category).sum ≤ 8) (hd2 : 4 ≤ d) (k1 : Tr l G M d k u (pc + 3) lv (.int (T.getD i 0) :: rest) h Q) : Tr l G M d k u pc lv (.int (nI i) :: .ref v :: rest) h Q := by
  obtain ⟨c, c1, c2⟩ := hT i hi
  rcases hs with ⟨j, q, j1, rfl, j3⟩ | ⟨si, sr, sf, rfl, e, f, -, -⟩
  · refine am_callK (As := [.int (nI i)]) (rest := rest) hd hM rfl (q := q) j1 rfl rfl hw (d2 := 3) (by omega) (k2 := 0) (Nat.zero_le _) (u2 := 0) (Nat.zero_le _) (Nat.le_of_ble_eq_true rfl) (ctJ0_charAt_5068e j1 (nI_pos (by omega)) (by rw [j3]; exact nI_ge hi (by omega))) (fun r1 h2 q3 => ?_)
    obtain ⟨rfl, rfl⟩ := q3
    rw [j3, nI_clamp (by omega), c2, ic_128 c c1, ← c2]
    exact k1
  · refine am_callV (As := [.int (nI i)]) (rest := rest) hd hM rfl e.1 rfl rfl hw (d2 := 3) (by omega) (k2 := 0) (Nat.zero_le _) (u2 := 0) (Nat.zero_le _) (Nat.le_of_ble_eq_true rfl) (ctJ0_charAtD e (nI_pos (by omega)) (nI_ge hi (by omega))) (fun r1 h2 q3 => ?_)
    obtain ⟨rfl, rfl⟩ := q3
    rw [nI_clamp (by omega), f i hi, c2, ic_128 c c1, ← c2]
    exact k1
theorem dL_four_4 : decode cL_four 4 = .ok (.iload_n 3, 1) := by decide +kernel
theorem dL_four_5 : decode cL_four 5 = .ok (.iconst 4, 1) := by decide +kernel
theorem dL_four_6 : decode cL_four 6 = .ok (.if_icmp .ge 36, 3) := by decide +kernel
theorem dL_four_9 : decode cL_four 9 = .ok (.iload_n 2, 1) := by decide +kernel
theorem dL_four_10 : decode cL_four 10 = .ok (.bipush 8, 2) := by decide +kernel
theorem dL_four_12 : decode cL_four 12 = .ok (.ishl, 1) := by decide +kernel
theorem dL_four_13 : decode cL_four 13 = .ok (.iload_n 1, 1) := by decide +kernel
theorem dL_four_14 : decode cL_four 14 = .ok (.iload_n 3, 1) := by decide +kernel
theorem dL_four_15 : decode cL_four 15 = .ok (.iadd, 1) := by decide +kernel
theorem dL_four_16 : decode cL_four 16 = .ok (.aload_n 0, 1) := by decide +kernel
theorem dL_four_17 : decode cL_four 17 = .ok (.invokevirtual 8, 3) := by decide +kernel
theorem dL_four_20 : decode cL_four 20 = .ok (.if_icmp .ge 13, 3) := by decide +kernel
theorem dL_four_23 : decode cL_four 23 = .ok (.aload_n 0, 1) := by decide +kernel
theorem dL_four_24 : decode cL_four 24 = .ok (.iload_n 1, 1) := by decide +kernel
theorem dL_four_25 : decode cL_four 25 = .ok (.iload_n 3, 1) := by decide +kernel
theorem dL_four_26 : decode cL_four 26 = .ok (.iadd, 1) := by decide +kernel
theorem dL_four_27 : decode cL_four 27 = .ok (.invokevirtual 14, 3) := by decide +kernel
theorem dL_four_30 : decode cL_four 30 = .ok (.goto 4, 3) := by decide +kernel
theorem dL_four_33 : decode cL_four 33 = .ok (.iconst 0, 1) := by decide +kernel
theorem dL_four_34 : decode cL_four 34 = .ok (.ior, 1) := by decide +kernel
theorem dL_four_35 : decode cL_four 35 = .ok (.istore_n 2, 1) := by decide +kernel
theorem dL_four_36 : decode cL_four 36 = .ok (.iinc 3 1, 3) := by decide +kernel
theorem dL_four_39 : decode cL_four 39 = .ok (.goto (-35), 3) := by decide +kernel
set_option maxRecDepth 20000 in
theorem fo_1 (hs : StO G h B w v T) (hT : TA T) (hl : T.length ≤ 4000) {k a k0 u0 : Nat} {x : Int32} (hd : 4 ≤ d) (hk : k < 4) (ha : a ≤ 2000) (kk : Tr l G mL_four d k0 u0 4 [(3, .int (nI (k + 1))), (2, .int (sh8 x (T.getD (a + k) 0))), (0, .ref v), (1, .int (nI a))] [] h Q) : Tr l G mL_four d k0 u0 4 [(3, .int (nI k)), (2, .int x), (0, .ref v), (1, .int (nI a))] [] h Q := by
  refine am_iload_n dL_four_4 0 rfl ?_
  refine am_iconst (v := 4) dL_four_5 (by decide) ?_
  refine am_icmp_ge dL_four_6 (by decide : ((6 : Nat) : Int) + (36) = ((42 : Nat) : Int)) (fun zq => absurd zq (nI_ge (b := 4) hk (by decide))) (fun _ => ?_)
  refine am_iload_n dL_four_9 1 rfl ?_
  refine am_bipush (v := 8) dL_four_10 (by decide) ?_
  refine am_ishl dL_four_12 ?_
  refine am_iload_n dL_four_13 3 rfl ?_
  refine am_iload_n dL_four_14 0 rfl ?_
  refine am_iadd dL_four_15 ?_
  rw [show nI a + nI k = nI (a + k) from nI_add a k]
  refine am_aload_n dL_four_16 2 rfl ?_
  refine am_sl (rest := [.int (nI (a + k)), .int (x <<< ((8 : Int32) &&& 31))]) dL_four_17 kML_8 hs (Nat.le_of_ble_eq_true rfl) (by omega) ?_
  by_cases c : a + k < T.length
  · refine am_icmp_ge dL_four_20 (by decide : ((20 : Nat) : Int) + (13) = ((33 : Nat) : Int)) (fun zq => absurd zq (nI_ge c (by omega))) (fun _ => ?_)
    refine am_aload_n dL_four_23 2 rfl ?_
    refine am_iload_n dL_four_24 3 rfl ?_
    refine am_iload_n dL_four_25 0 rfl ?_
    refine am_iadd dL_four_26 ?_
    rw [show nI a + nI k = nI (a + k) from nI_add a k]
    refine am_sc (rest := [.int (x <<< ((8 : Int32) &&& 31))]) dL_four_27 kML_14 hs hT (by omega) c (Nat.le_of_ble_eq_true rfl) (by omega) ?_
    refine am_goto dL_four_30 (by decide : ((30 : Nat) : Int) + (4) = ((34 : Nat) : Int)) ?_
    refine am_ior dL_four_34 ?_
    refine am_istore_n dL_four_35 (by decide) (lv' := [(2, .int (sh8 x (T.getD (a + k) 0))), (3, .int (nI k)), (0, .ref v), (1, .int (nI a))]) rfl ?_
    refine am_iinc (v := (nI (k + 1))) dL_four_36 1 rfl (nI_1 k) (by decide) (lv' := [(3, .int (nI (k + 1))), (2, .int (sh8 x (T.getD (a + k) 0))), (0, .ref v), (1, .int (nI a))]) rfl ?_
    refine am_goto dL_four_39 (by decide : ((39 : Nat) : Int) + (-35) = ((4 : Nat) : Int)) ?_
    exact kk
  · refine am_icmp_ge dL_four_20 (by decide : ((20 : Nat) : Int) + (13) = ((33 : Nat) : Int)) (fun _ => ?_) (fun zq => absurd (nI_le (by omega) (by omega)) zq)
    have e0 : (0 : Int32) = T.getD (a + k) 0 := by rw [List.getD_eq_getElem?_getD, List.getElem?_eq_none (by omega)]; rfl
    refine am_iconst (v := 0) dL_four_33 (by decide) ?_
    rw [e0]
    refine am_ior dL_four_34 ?_
    refine am_istore_n dL_four_35 (by decide) (lv' := [(2, .int (sh8 x (T.getD (a + k) 0))), (3, .int (nI k)), (0, .ref v), (1, .int (nI a))]) rfl ?_
    refine am_iinc (v := (nI (k + 1))) dL_four_36 1 rfl (nI_1 k) (by decide) (lv' := [(3, .int (nI (k + 1))), (2, .int (sh8 x (T.getD (a + k) 0))), (0, .ref v), (1, .int (nI a))]) rfl ?_
    refine am_goto dL_four_39 (by decide : ((39 : Nat) : Int) + (-35) = ((4 : Nat) : Int)) ?_
    exact kk
theorem dL_four_0 : decode cL_four 0 = .ok (.iconst 0, 1) := by decide +kernel
theorem dL_four_1 : decode cL_four 1 = .ok (.istore_n 2, 1) := by decide +kernel
theorem dL_four_2 : decode cL_four 2 = .ok (.iconst 0, 1) := by decide +kernel
theorem dL_four_3 : decode cL_four 3 = .ok (.istore_n 3, 1) := by decide +kernel
theorem dL_four_42 : decode cL_four 42 = .ok (.iload_n 2, 1) := by decide +kernel
theorem dL_four_43 : decode cL_four 43 = .ok (.ireturn, 1) := by decide +kernel
set_option maxRecDepth 20000 in
theorem ctL_four (hs : StO G h B w v T) (hT : TA T) (hl : T.length ≤ 4000) {a : Nat} (ha : a ≤ 2000) : Ct l G mL_four 4 0 0 [.ref v, .int (nI a)] h (fun r h1 => r = some (.int (qg (fun j => T.getD j 0) a)) ∧ h1 = h) := by
  show Tr l G mL_four 4 0 0 0 [(0, .ref v), (1, .int (nI a))] [] h _
  refine am_iconst (v := 0) dL_four_0 (by decide) ?_
  refine am_istore_n dL_four_1 (by decide) (lv' := [(2, .int 0), (0, .ref v), (1, .int (nI a))]) rfl ?_
  refine am_iconst (v := 0) dL_four_2 (by decide) ?_
  refine am_istore_n dL_four_3 (by decide) (lv' := [(3, .int 0), (2, .int 0), (0, .ref v), (1, .int (nI a))]) rfl ?_
  refine fo_1 hs hT hl (k := 0) (by decide) (by decide) ha ?_
  refine fo_1 hs hT hl (k := 1) (by decide) (by decide) ha ?_
  refine fo_1 hs hT hl (k := 2) (by decide) (by decide) ha ?_
  refine fo_1 hs hT hl (k := 3) (by decide) (by decide) ha ?_
  refine am_iload_n dL_four_4 0 rfl ?_
  refine am_iconst (v := 4) dL_four_5 (by decide) ?_
  refine am_icmp_ge dL_four_6 (by decide : ((6 : Nat) : Int) + (36) = ((42 : Nat) : Int)) (fun _ => ?_) (fun zq => absurd (Int32.le_refl _) zq)
  refine am_iload_n dL_four_42 1 rfl ?_
  exact am_ireturn dL_four_43 rfl rfl ⟨rfl, rfl⟩
theorem dL_feed_2 : decode cL_feed 2 = .ok (.iload_n 2, 1) := by decide +kernel
theorem dL_feed_3 : decode cL_feed 3 = .ok (.aload_n 1, 1) := by decide +kernel
theorem dL_feed_4 : decode cL_feed 4 = .ok (.invokevirtual 8, 3) := by decide +kernel
theorem dL_feed_7 : decode cL_feed 7 = .ok (.if_icmp .lt 7, 3) := by decide +kernel
theorem dL_feed_10 : decode cL_feed 10 = .ok (.iload_n 2, 1) := by decide +kernel
theorem dL_feed_11 : decode cL_feed 11 = .ok (.ifCond .ne 54, 3) := by decide +kernel
theorem dL_feed_14 : decode cL_feed 14 = .ok (.aload_n 0, 1) := by decide +kernel
theorem dL_feed_15 : decode cL_feed 15 = .ok (.aload_n 1, 1) := by decide +kernel
theorem dL_feed_16 : decode cL_feed 16 = .ok (.iload_n 2, 1) := by decide +kernel
theorem dL_feed_17 : decode cL_feed 17 = .ok (.invokestatic 18, 3) := by decide +kernel
theorem dL_feed_20 : decode cL_feed 20 = .ok (.aload_n 1, 1) := by decide +kernel
theorem dL_feed_21 : decode cL_feed 21 = .ok (.iload_n 2, 1) := by decide +kernel
theorem dL_feed_22 : decode cL_feed 22 = .ok (.iconst 4, 1) := by decide +kernel
theorem dL_feed_23 : decode cL_feed 23 = .ok (.iadd, 1) := by decide +kernel
theorem dL_feed_24 : decode cL_feed 24 = .ok (.invokestatic 18, 3) := by decide +kernel
theorem dL_feed_27 : decode cL_feed 27 = .ok (.aload_n 1, 1) := by decide +kernel
theorem dL_feed_28 : decode cL_feed 28 = .ok (.iload_n 2, 1) := by decide +kernel
theorem dL_feed_29 : decode cL_feed 29 = .ok (.bipush 8, 2) := by decide +kernel
theorem dL_feed_31 : decode cL_feed 31 = .ok (.iadd, 1) := by decide +kernel
theorem dL_feed_32 : decode cL_feed 32 = .ok (.invokestatic 18, 3) := by decide +kernel
theorem dL_feed_35 : decode cL_feed 35 = .ok (.aload_n 1, 1) := by decide +kernel
theorem dL_feed_36 : decode cL_feed 36 = .ok (.iload_n 2, 1) := by decide +kernel
theorem dL_feed_37 : decode cL_feed 37 = .ok (.bipush 12, 2) := by decide +kernel
theorem dL_feed_39 : decode cL_feed 39 = .ok (.iadd, 1) := by decide +kernel
theorem dL_feed_40 : decode cL_feed 40 = .ok (.invokestatic 18, 3) := by decide +kernel
theorem dL_feed_43 : decode cL_feed 43 = .ok (.aload_n 1, 1) := by decide +kernel
theorem dL_feed_44 : decode cL_feed 44 = .ok (.iload_n 2, 1) := by decide +kernel
theorem dL_feed_45 : decode cL_feed 45 = .ok (.bipush 16, 2) := by decide +kernel
theorem dL_feed_47 : decode cL_feed 47 = .ok (.iadd, 1) := by decide +kernel
theorem dL_feed_48 : decode cL_feed 48 = .ok (.invokestatic 18, 3) := by decide +kernel
theorem dL_feed_51 : decode cL_feed 51 = .ok (.invokevirtual 24, 3) := by decide +kernel
theorem dL_feed_54 : decode cL_feed 54 = .ok (.ifCond .ge 5, 3) := by decide +kernel
theorem dL_feed_59 : decode cL_feed 59 = .ok (.iinc 2 20, 3) := by decide +kernel
theorem dL_feed_62 : decode cL_feed 62 = .ok (.goto (-60), 3) := by decide +kernel
set_option maxRecDepth 20000 in
theorem fe_l (hT : TA T) (hl : T.length ≤ 1100) (hp : 0 < T.length) {k0 u0 : Nat} (hd : 5 ≤ d) : ∀ (r K : Nat), T.length + 20 ≤ r + K → K ≤ T.length + 19 → ∀ (h : List va_E) (w : Wd), OB G h B w → Fg K (fun j => T.getD j 0) w → StO G h B w v T → (∀ h1 w1 K1, OB G h1 B w1 → T.length ≤ K1 → K1 ≤ 1200 → Fg K1 (fun j => T.getD j 0) w1 → StO G h1 B w1 v T → OG B w w1 h h1 → hz_wi w w1 → Tr l G mL_feed d k0 u0 65 [(2, .int (nI K1)), (0, .ref (gz G + B)), (1, .ref v)] [] h1 Q) → Tr l G mL_feed d k0 u0 2 [(2, .int (nI K)), (0, .ref (gz G + B)), (1, .ref v)] [] h Q := by
  intro r
  induction r with
  | zero =>
    intro K h1 h2 h w ho hF hs kk
    omega
  | succ r ih =>
    intro K h1 h2 h w ho hF hs kk
    refine am_iload_n dL_feed_2 0 rfl ?_
    refine am_aload_n dL_feed_3 2 rfl ?_
    refine am_sl (rest := [.int (nI K)]) dL_feed_4 kML_8 hs (Nat.le_of_ble_eq_true rfl) (by omega) ?_
    by_cases c : K < T.length
    · refine am_icmp_lt dL_feed_7 (by decide : ((7 : Nat) : Int) + (7) = ((14 : Nat) : Int)) (fun _ => ?_) (fun zq => absurd (nI_lt c (by omega)) zq)
      refine am_aload_n dL_feed_14 1 rfl ?_
      refine am_aload_n dL_feed_15 2 rfl ?_
      refine am_iload_n dL_feed_16 0 rfl ?_
      refine am_callS (As := [.ref v, .int (nI (K))]) (rest := [.ref (gz G + B)]) dL_feed_17 kML_18 rfl rfl (Nat.le_of_ble_eq_true rfl) (d2 := 4) (by omega) (k2 := 0) (Nat.zero_le _) (u2 := 0) (Nat.zero_le _) (Nat.le_of_ble_eq_true rfl) (ctL_four hs hT (by omega) (a := K) (by omega)) (fun r1 h0 q3 => ?_)
      obtain ⟨rfl, e0⟩ := q3
      subst e0
      refine am_aload_n dL_feed_20 2 rfl ?_
      refine am_iload_n dL_feed_21 0 rfl ?_
      refine am_iconst (v := 4) dL_feed_22 (by decide) ?_
      refine am_iadd dL_feed_23 ?_
      rw [show nI K + 4 = nI (K + 4) from nI_add K 4]
      refine am_callS (As := [.ref v, .int (nI (K + 4))]) (rest := [.int (qg (fun j => T.getD j 0) (K)), .ref (gz G + B)]) dL_feed_24 kML_18 rfl rfl (Nat.le_of_ble_eq_true rfl) (d2 := 4) (by omega) (k2 := 0) (Nat.zero_le _) (u2 := 0) (Nat.zero_le _) (Nat.le_of_ble_eq_true rfl) (ctL_four hs hT (by omega) (a := K + 4) (by omega)) (fun r1 h0 q3 => ?_)
      obtain ⟨rfl, e0⟩ := q3
      subst e0
      refine am_aload_n dL_feed_27 2 rfl ?_
      refine am_iload_n dL_feed_28 0 rfl ?_
      refine am_bipush (v := 8) dL_feed_29 (by decide) ?_
      refine am_iadd dL_feed_31 ?_
      rw [show nI K + 8 = nI (K + 8) from nI_add K 8]
      refine am_callS (As := [.ref v, .int (nI (K + 8))]) (rest := [.int (qg (fun j => T.getD j 0) (K + 4)), .int (qg (fun j => T.getD j 0) (K)), .ref (gz G + B)]) dL_feed_32 kML_18 rfl rfl (Nat.le_of_ble_eq_true rfl) (d2 := 4) (by omega) (k2 := 0) (Nat.zero_le _) (u2 := 0) (Nat.zero_le _) (Nat.le_of_ble_eq_true rfl) (ctL_four hs hT (by omega) (a := K + 8) (by omega)) (fun r1 h0 q3 => ?_)
      obtain ⟨rfl, e0⟩ := q3
      subst e0
      refine am_aload_n dL_feed_35 2 rfl ?_
      refine am_iload_n dL_feed_36 0 rfl ?_
      refine am_bipush (v := 12) dL_feed_37 (by decide) ?_
      refine am_iadd dL_feed_39 ?_
      rw [show nI K + 12 = nI (K + 12) from nI_add K 12]
      refine am_callS (As := [.ref v, .int (nI (K + 12))]) (rest := [.int (qg (fun j => T.getD j 0) (K + 8)), .int (qg (fun j => T.getD j 0) (K + 4)), .int (qg (fun j => T.getD j 0) (K)), .ref (gz G + B)]) dL_feed_40 kML_18 rfl rfl (Nat.le_of_ble_eq_true rfl) (d2 := 4) (by omega) (k2 := 0) (Nat.zero_le _) (u2 := 0) (Nat.zero_le _) (Nat.le_of_ble_eq_true rfl) (ctL_four hs hT (by omega) (a := K + 12) (by omega)) (fun r1 h0 q3 => ?_)
      obtain ⟨rfl, e0⟩ := q3
      subst e0
      refine am_aload_n dL_feed_43 2 rfl ?_
      refine am_iload_n dL_feed_44 0 rfl ?_
      refine am_bipush (v := 16) dL_feed_45 (by decide) ?_
      refine am_iadd dL_feed_47 ?_
      rw [show nI K + 16 = nI (K + 16) from nI_add K 16]
      refine am_callS (As := [.ref v, .int (nI (K + 16))]) (rest := [.int (qg (fun j => T.getD j 0) (K + 12)), .int (qg (fun j => T.getD j 0) (K + 8)), .int (qg (fun j => T.getD j 0) (K + 4)), .int (qg (fun j => T.getD j 0) (K)), .ref (gz G + B)]) dL_feed_48 kML_18 rfl rfl (Nat.le_of_ble_eq_true rfl) (d2 := 4) (by omega) (k2 := 0) (Nat.zero_le _) (u2 := 0) (Nat.zero_le _) (Nat.le_of_ble_eq_true rfl) (ctL_four hs hT (by omega) (a := K + 16) (by omega)) (fun r1 h0 q3 => ?_)
      obtain ⟨rfl, e0⟩ := q3
      subst e0
      obtain ⟨fs, hfs⟩ := ob_cell ho
      obtain ⟨w1, ea, eb, ec⟩ := o_ap hF (by omega) (fun j => ta_g hT j)
      have hc := om_append (l := l) ho (qg (fun j => T.getD j 0) K) (qg (fun j => T.getD j 0) (K + 4)) (qg (fun j => T.getD j 0) (K + 8)) (qg (fun j => T.getD j 0) (K + 12)) (qg (fun j => T.getD j 0) (K + 16))
      rw [ea] at hc
      refine mm_callV (As := [.int (qg (fun j => T.getD j 0) K), .int (qg (fun j => T.getD j 0) (K + 4)), .int (qg (fun j => T.getD j 0) (K + 8)), .int (qg (fun j => T.getD j 0) (K + 12)), .int (qg (fun j => T.getD j 0) (K + 16))]) (rest := []) dL_feed_51 kML_24 rfl hfs rfl rfl (Nat.le_of_ble_eq_true rfl) (d2 := 2) (by omega) (k2 := 0) (Nat.zero_le _) (u2 := 0) (Nat.zero_le _) hc (fun r1 h1 q3 => ?_)
      obtain ⟨rfl, hb, hg⟩ := q3
      refine am_if_ge dL_feed_54 (by decide : ((54 : Nat) : Int) + (5) = ((59 : Nat) : Int)) (fun _ => ?_) (fun zq => absurd (nI_pos' (by omega)) zq)
      refine am_iinc (v := (nI (K + 20))) dL_feed_59 0 rfl (nI_add K 20) (by decide) (lv' := [(2, .int (nI (K + 20))), (0, .ref (gz G + B)), (1, .ref v)]) rfl ?_
      refine am_goto dL_feed_62 (by decide : ((62 : Nat) : Int) + (-60) = ((2 : Nat) : Int)) ?_
      exact ih (K + 20) (by omega) (by omega) h1 w1 hb eb (st_og hs hg) (fun h2 w2 K1 a1 a2 a3 a4 a5 a6 a7 => kk h2 w2 K1 a1 a2 a3 a4 a5 (og_T hg a6) (wi_T ec a7))
    · refine am_icmp_lt dL_feed_7 (by decide : ((7 : Nat) : Int) + (7) = ((14 : Nat) : Int)) (fun zq => absurd zq (nI_nlt (by omega) (by omega))) (fun _ => ?_)
      refine am_iload_n dL_feed_10 0 rfl ?_
      refine am_if_ne dL_feed_11 (by decide : ((11 : Nat) : Int) + (54) = ((65 : Nat) : Int)) (fun _ => ?_) (fun zq => absurd zq (nI_ne0 (by omega) (by omega)))
      exact kk h w K ho (by omega) (by omega) hF hs (og_0 _ _ _) (wi_0 _)
theorem dL_feed_0 : decode cL_feed 0 = .ok (.iconst 0, 1) := by decide +kernel
theorem dL_feed_1 : decode cL_feed 1 = .ok (.istore_n 2, 1) := by decide +kernel
theorem dL_feed_65 : decode cL_feed 65 = .ok (.aload_n 0, 1) := by decide +kernel
theorem dL_feed_66 : decode cL_feed 66 = .ok (.aload_n 1, 1) := by decide +kernel
theorem dL_feed_67 : decode cL_feed 67 = .ok (.invokevirtual 8, 3) := by decide +kernel
theorem dL_feed_70 : decode cL_feed 70 = .ok (.invokevirtual 30, 3) := by decide +kernel
theorem dL_feed_73 : decode cL_feed 73 = .ok (.aload_n 1, 1) := by decide +kernel
theorem dL_feed_74 : decode cL_feed 74 = .ok (.invokevirtual 8, 3) := by decide +kernel
theorem dL_feed_77 : decode cL_feed 77 = .ok (.if_icmp .ne 7, 3) := by decide +kernel
theorem dL_feed_80 : decode cL_feed 80 = .ok (.iconst 1, 1) := by decide +kernel
theorem dL_feed_81 : decode cL_feed 81 = .ok (.goto 4, 3) := by decide +kernel
theorem dL_feed_85 : decode cL_feed 85 = .ok (.ireturn, 1) := by decide +kernel
set_option maxRecDepth 20000 in
/-- feeding a text -/
theorem ctL_feed (ho : OB G h B w) (hs : StO G h B w v T) (hT : TA T) (hl : T.length ≤ 1100) (hp : 0 < T.length) (h0 : Fg 0 (fun j => T.getD j 0) w) : Ct l G mL_feed 5 0 0 [.ref (gz G + B), .ref v] h (fun r h1 => r = some (.int 1) ∧ ∃ w1, OB G h1 B w1 ∧ OG B w w1 h h1 ∧ Fg T.length (fun j => T.getD j 0) w1 ∧ hz_wi w w1) := by
  show Tr l G mL_feed 5 0 0 0 [(0, .ref (gz G + B)), (1, .ref v)] [] h _
  refine am_iconst (v := 0) dL_feed_0 (by decide) ?_
  refine am_istore_n dL_feed_1 (by decide) (lv' := [(2, .int 0), (0, .ref (gz G + B)), (1, .ref v)]) rfl ?_
  refine fe_l hT hl hp (Nat.le_refl 5) (T.length + 20) 0 (by omega) (by omega) h w ho h0 hs (fun h1 w1 K1 a1 a2 a3 a4 a5 a6 a7 => ?_)
  refine am_aload_n dL_feed_65 1 rfl ?_
  refine am_aload_n dL_feed_66 2 rfl ?_
  refine am_sl (rest := [.ref (gz G + B)]) dL_feed_67 kML_8 a5 (Nat.le_of_ble_eq_true rfl) (by omega) ?_
  obtain ⟨fs, hfs⟩ := ob_cell a1
  obtain ⟨w2, ea, eb, ec⟩ := o_tr a4 a3 a2
  have hc := om_truncate (l := l) a1 (nI T.length)
  rw [ea] at hc
  refine mm_callV (As := [.int (nI T.length)]) (rest := []) dL_feed_70 kML_30 rfl hfs rfl rfl (Nat.le_of_ble_eq_true rfl) (d2 := 0) (by omega) (k2 := 0) (Nat.zero_le _) (u2 := 0) (Nat.zero_le _) hc (fun r1 h2 q3 => ?_)
  obtain ⟨rfl, hb, hg⟩ := q3
  refine am_aload_n dL_feed_73 2 rfl ?_
  refine am_sl (rest := [.int (nI T.length)]) dL_feed_74 kML_8 (st_og a5 hg) (Nat.le_of_ble_eq_true rfl) (by omega) ?_
  refine am_icmp_ne dL_feed_77 (by decide : ((77 : Nat) : Int) + (7) = ((84 : Nat) : Int)) (fun zq => absurd zq (fun z => z rfl)) (fun _ => ?_)
  refine am_iconst (v := 1) dL_feed_80 (by decide) ?_
  refine am_goto dL_feed_81 (by decide : ((81 : Nat) : Int) + (4) = ((85 : Nat) : Int)) ?_
  exact am_ireturn dL_feed_85 rfl rfl ⟨rfl, w2, hb, og_T a6 hg, eb, wi_T a7 ec⟩
end LFD
