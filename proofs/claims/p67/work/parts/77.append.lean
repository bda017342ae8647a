/-! The JDK's StringBuilder: appending a char, a String. -/
def sbK (q n : Nat) : Nat := if q ≤ n then 0 else 1
def sbU (q n : Nat) : Nat := if q ≤ n then 0 else n + (n + 2)
def sbN (q n : Nat) : Nat := if q ≤ n then n else n + (n + 2)
theorem sbN_ge (q n : Nat) (h : q ≤ 2 * n + 2 := by omega) : q ≤ sbN q n := by
  unfold sbN
  split <;> omega
def SBf (h h1 : List va_E) (v v1 : Nat) : Prop := h.length ≤ h1.length ∧ (∀ a, a < h.length → ¬ a = 19 → ¬ a = v → h1[a]? = h[a]?) ∧ (v1 = v ∨ h.length ≤ v1)
theorem sbf0 (h : List va_E) (v : Nat) : SBf h h v v := ⟨Nat.le_refl _, fun _ _ _ _ => rfl, Or.inl rfl⟩
theorem sbfT {h h1 h2 : List va_E} {v v1 v2 : Nat} (a : SBf h h1 v v1) (b : SBf h1 h2 v1 v2) : SBf h h2 v v2 := by
  obtain ⟨a1, a2, a3⟩ := a
  obtain ⟨b1, b2, b3⟩ := b
  refine ⟨by omega, fun x hx h2 h3 => (b2 x (by omega) h2 (by omega)).trans (a2 x hx h2 h3), by omega⟩
theorem sb_ctW {l : Launch} {G : GM} {M : MD} {d k u : Nat} {As : List Value} {h : List va_E} {Q Q2 : Option Value → List va_E → Prop} (hc : Ct l G M d k u As h Q) (hq : ∀ v h1, Q v h1 → Q2 v h1) : Ct l G M d k u As h Q2 := am_post hq hc
theorem bb_fit0 : hz_fit (fun _ => 0) := fun _ => rfl
theorem bb_fitB (x : Int32) : fits .byte (.int x.toInt8.toInt32) = true := by
  have h1 : -128 ≤ x.toInt8.toInt32 := by rw [hz_le, Int8.toInt_toInt32]; exact Int8.le_toInt _
  have h2 : x.toInt8.toInt32 ≤ 127 := by rw [hz_le, Int8.toInt_toInt32]; exact Int8.toInt_le _
  show (decide (-128 ≤ x.toInt8.toInt32) && decide (x.toInt8.toInt32 ≤ 127)) = true
  rw [decide_eq_true h1, decide_eq_true h2]
  rfl
theorem bb_fitU {f : Nat → Int32} (hf : hz_fit f) (i : Nat) (x : Int32) : hz_fit (upd f i x.toInt8.toInt32) := fun j => by
  by_cases c : j = i
  · rw [c, pk_us]; exact bb_fitB x
  · rw [pk_un c]; exact hf j
theorem bb_fitC {f g : Nat → Int32} (hf : hz_fit f) (hg : hz_fit g) (a b n : Nat) : hz_fit (va_cpy f g a b n) := fun j => by
  unfold va_cpy
  split
  · exact hf _
  · exact hg j
theorem sq_fit {j : Nat} {q : String × Nat × String × List Int32} (hj : strTab[j]? = some q) : hz_fit (fun i => q.2.2.2.getD i 0) := by
  have h := (by decide : ∀ q ∈ strTab, q.2.2.2.all (fun x => fits .byte (.int x)) = true) q (List.mem_of_getElem? hj)
  intro i
  show fits .byte (.int (q.2.2.2.getD i 0)) = true
  rw [List.getD_eq_getElem?_getD]
  cases e : q.2.2.2[i]? with
  | none => rfl
  | some x => exact List.all_eq_true.mp h x (List.mem_of_getElem? e)
theorem sq_len12 {j : Nat} {q : String × Nat × String × List Int32} (hj : strTab[j]? = some q) (h21 : j < 21) : q.2.2.2.length ≤ 12 :=
  (by decide : ∀ q ∈ strTab.take 21, q.2.2.2.length ≤ 12) q (List.mem_of_getElem? (i := j) (by rw [List.getElem?_take_of_lt h21]; exact hj))
theorem sb_comm {h : List va_E} {v : Nat} {x y : va_E} (hv : ¬ v = 19) : (h.set v x).set 19 y = (h.set 19 y).set v x := List.set_comm _ _ (by omega)
theorem sb_set {G : GM} {h h1 : List va_E} {v n C C1 : Nat} {f g : Nat → Int32} {ml : Int32} (hb : SBc G h v n C f ml) (hg : hz_fit g) (hC : C1 ≤ n) (e : h1 = (h.set 19 (.inr (0, [.ref (gz G + v), .int 0, .int ml, .int (nI C1)]))).set v (.inl (1, n, .inl g))) : SBc G h1 v n C1 g ml ∧ SBf h h1 v v := by
  obtain ⟨b1, b2, b3, b4, b5, b6, b7, b8⟩ := hb
  subst e
  refine ⟨⟨hs_ne (hs_self b1) (by omega), hs_self (hs_ne b2 (by omega)), b3, by rw [List.length_set, List.length_set]; exact b4, hg, hC, b7, b8⟩, by rw [List.length_set, List.length_set]; exact Nat.le_refl _, fun a ha h2 h3 => ?_, Or.inl rfl⟩
  rw [List.getElem?_set_ne (by omega), List.getElem?_set_ne (by omega)]
theorem sb_grow {G : GM} {h : List va_E} {v n C : Nat} {f : Nat → Int32} {ml : Int32} (hb : SBc G h v n C f ml) {N : Nat} (hN : N ≤ 4096) (h2 : n ≤ N := by omega) : SBc G ((h ++ [(.inl (1, N, .inl (va_cpy f (fun _ => 0) 0 0 n)) : va_E)]).set 19 (.inr (0, [.ref (gz G + h.length), .int 0, .int ml, .int (nI C)]))) h.length N C (va_cpy f (fun _ => 0) 0 0 n) ml ∧ SBf h ((h ++ [(.inl (1, N, .inl (va_cpy f (fun _ => 0) 0 0 n)) : va_E)]).set 19 (.inr (0, [.ref (gz G + h.length), .int 0, .int ml, .int (nI C)]))) v h.length := by
  obtain ⟨b1, b2, b3, b4, b5, b6, b7, b8⟩ := hb
  refine ⟨⟨hs_self (hs_push b1), hs_ne (hs_newc rfl) (by omega), by omega, ⟨?_, by omega⟩, bb_fitC b5 bb_fit0 _ _ _, by omega, by omega, hN⟩, ?_, fun a ha h2 h3 => ?_, Or.inr (Nat.le_refl _)⟩
  · rw [List.length_set, List.length_append]; show 20 ≤ h.length + 1; omega
  · rw [List.length_set, List.length_append]; exact Nat.le_add_right _ _
  · rw [List.getElem?_set_ne (by omega), List.getElem?_append_left ha]
theorem ctJ5_ens {l : Launch} {G : GM} {h : List va_E} {v n C : Nat} {f : Nat → Int32} {ml : Int32} (hb : SBc G h v n C f ml) {q : Nat} (h1 : q ≤ 2 * n + 2) (h2 : q ≤ 2000) : Ct l G mJ5_ensureCapacityInternal_d00df 3 (sbK q n) (sbU q n) [.ref (gz G + 19), .int (nI q)] h (fun r h1 => r = none ∧ ∃ v1 n1 f1, SBc G h1 v1 n1 C f1 ml ∧ SBf h h1 v v1 ∧ n1 = sbN q n ∧ ∀ j, j < n → f1 j = f j) := by
  by_cases c : q ≤ n
  · unfold sbK sbU sbN
    rw [if_pos c, if_pos c, if_pos c]
    refine sb_ctW (ctJ5_ens0 hb c) (fun r h3 hq => ?_)
    obtain ⟨rfl, rfl⟩ := hq
    exact ⟨rfl, v, n, f, hb, sbf0 h3 v, rfl, fun _ _ => rfl⟩
  · unfold sbK sbU sbN
    rw [if_neg c, if_neg c, if_neg c]
    refine sb_ctW (ctJ5_ens1 hb (by omega) h1) (fun r h3 hq => ?_)
    obtain ⟨rfl, rfl⟩ := hq
    obtain ⟨x1, x2⟩ := sb_grow hb (show n + (n + 2) ≤ 4096 by omega)
    exact ⟨rfl, h.length, n + (n + 2), va_cpy f (fun _ => 0) 0 0 n, x1, x2, rfl, fun j hj => by rw [pk_cpy_in (by omega) (by omega)]; congr 1; omega⟩
theorem dJ1_canEncode_fc78d_0 : decode cJ1_canEncode_fc78d 0 = .ok (.iload_n 0, 1) := by decide +kernel
theorem dJ1_canEncode_fc78d_1 : decode cJ1_canEncode_fc78d 1 = .ok (.sipush 255, 3) := by decide +kernel
theorem dJ1_canEncode_fc78d_4 : decode cJ1_canEncode_fc78d 4 = .ok (.if_icmp .gt 7, 3) := by decide +kernel
theorem dJ1_canEncode_fc78d_7 : decode cJ1_canEncode_fc78d 7 = .ok (.iconst 1, 1) := by decide +kernel
theorem dJ1_canEncode_fc78d_8 : decode cJ1_canEncode_fc78d 8 = .ok (.goto 4, 3) := by decide +kernel
theorem dJ1_canEncode_fc78d_12 : decode cJ1_canEncode_fc78d 12 = .ok (.ireturn, 1) := by decide +kernel
set_option maxRecDepth 20000 in
theorem ctJ1_canEncode {l : Launch} {G : GM} {h : List va_E} {c : Int32} (hc : ¬ 255 < c) : Ct l G mJ1_canEncode_fc78d 0 0 0 [.int c] h (fun r h1 => r = some (.int 1) ∧ h1 = h) := by
  show Tr l G mJ1_canEncode_fc78d 0 0 0 0 [(0, .int c)] [] h _
  refine am_iload_n dJ1_canEncode_fc78d_0 0 rfl ?_
  refine am_sipush (v := 255) dJ1_canEncode_fc78d_1 (by decide) ?_
  refine am_icmp_gt dJ1_canEncode_fc78d_4 (by decide : ((4 : Nat) : Int) + (7) = ((11 : Nat) : Int)) (fun zq => absurd zq hc) (fun _ => ?_)
  refine am_iconst (v := 1) dJ1_canEncode_fc78d_7 (by decide) ?_
  refine am_goto dJ1_canEncode_fc78d_8 (by decide : ((8 : Nat) : Int) + (4) = ((12 : Nat) : Int)) ?_
  exact am_ireturn dJ1_canEncode_fc78d_12 rfl rfl ⟨rfl, rfl⟩
theorem dJ5_append_3fe6f_0 : decode cJ5_append_3fe6f 0 = .ok (.aload_n 0, 1) := by decide +kernel
theorem dJ5_append_3fe6f_1 : decode cJ5_append_3fe6f 1 = .ok (.aload_n 0, 1) := by decide +kernel
theorem dJ5_append_3fe6f_2 : decode cJ5_append_3fe6f 2 = .ok (.getfield 79, 3) := by decide +kernel
theorem dJ5_append_3fe6f_5 : decode cJ5_append_3fe6f 5 = .ok (.iconst 1, 1) := by decide +kernel
theorem dJ5_append_3fe6f_6 : decode cJ5_append_3fe6f 6 = .ok (.iadd, 1) := by decide +kernel
theorem dJ5_append_3fe6f_7 : decode cJ5_append_3fe6f 7 = .ok (.invokevirtual 100, 3) := by decide +kernel
theorem dJ5_append_3fe6f_10 : decode cJ5_append_3fe6f 10 = .ok (.aload_n 0, 1) := by decide +kernel
theorem dJ5_append_3fe6f_11 : decode cJ5_append_3fe6f 11 = .ok (.invokevirtual 83, 3) := by decide +kernel
theorem dJ5_append_3fe6f_14 : decode cJ5_append_3fe6f 14 = .ok (.ifCond .eq 31, 3) := by decide +kernel
theorem dJ5_append_3fe6f_17 : decode cJ5_append_3fe6f 17 = .ok (.iload_n 1, 1) := by decide +kernel
theorem dJ5_append_3fe6f_18 : decode cJ5_append_3fe6f 18 = .ok (.invokestatic 191, 3) := by decide +kernel
theorem dJ5_append_3fe6f_21 : decode cJ5_append_3fe6f 21 = .ok (.ifCond .eq 24, 3) := by decide +kernel
theorem dJ5_append_3fe6f_24 : decode cJ5_append_3fe6f 24 = .ok (.aload_n 0, 1) := by decide +kernel
theorem dJ5_append_3fe6f_25 : decode cJ5_append_3fe6f 25 = .ok (.getfield 15, 3) := by decide +kernel
theorem dJ5_append_3fe6f_28 : decode cJ5_append_3fe6f 28 = .ok (.aload_n 0, 1) := by decide +kernel
theorem dJ5_append_3fe6f_29 : decode cJ5_append_3fe6f 29 = .ok (.dup, 1) := by decide +kernel
theorem dJ5_append_3fe6f_30 : decode cJ5_append_3fe6f 30 = .ok (.getfield 79, 3) := by decide +kernel
theorem dJ5_append_3fe6f_33 : decode cJ5_append_3fe6f 33 = .ok (.dup_x1, 1) := by decide +kernel
theorem dJ5_append_3fe6f_34 : decode cJ5_append_3fe6f 34 = .ok (.iconst 1, 1) := by decide +kernel
theorem dJ5_append_3fe6f_35 : decode cJ5_append_3fe6f 35 = .ok (.iadd, 1) := by decide +kernel
theorem dJ5_append_3fe6f_36 : decode cJ5_append_3fe6f 36 = .ok (.putfield 79, 3) := by decide +kernel
theorem dJ5_append_3fe6f_39 : decode cJ5_append_3fe6f 39 = .ok (.iload_n 1, 1) := by decide +kernel
theorem dJ5_append_3fe6f_40 : decode cJ5_append_3fe6f 40 = .ok (.i2b, 1) := by decide +kernel
theorem dJ5_append_3fe6f_41 : decode cJ5_append_3fe6f 41 = .ok (.bastore, 1) := by decide +kernel
theorem dJ5_append_3fe6f_42 : decode cJ5_append_3fe6f 42 = .ok (.goto 33, 3) := by decide +kernel
theorem dJ5_append_3fe6f_75 : decode cJ5_append_3fe6f 75 = .ok (.aload_n 0, 1) := by decide +kernel
theorem dJ5_append_3fe6f_76 : decode cJ5_append_3fe6f 76 = .ok (.areturn, 1) := by decide +kernel
set_option maxRecDepth 20000 in
theorem ctJ5_appendC {l : Launch} {G : GM} {h : List va_E} {v n C : Nat} {f : Nat → Int32} {ml : Int32} (hb : SBc G h v n C f ml) {c : Int32} (hc : ¬ 255 < c) (hC : C + 1 ≤ 2000) : Ct l G mJ5_append_3fe6f 4 (sbK (C + 1) n) (sbU (C + 1) n) [.ref (gz G + 19), .int c] h (fun r h1 => r = some (.ref (gz G + 19)) ∧ ∃ v1 n1 f1, SBc G h1 v1 n1 (C + 1) f1 ml ∧ SBf h h1 v v1 ∧ n1 = sbN (C + 1) n ∧ (∀ j, j < C → f1 j = f j) ∧ f1 C = c.toInt8.toInt32.toInt8.toInt32) := by
  show Tr l G mJ5_append_3fe6f 4 (sbK (C + 1) n) (sbU (C + 1) n) 0 [(0, .ref (gz G + 19)), (1, .int c)] [] h _
  have hCn := hb.2.2.2.2.2.1
  refine am_aload_n dJ5_append_3fe6f_0 0 rfl ?_
  refine am_aload_n dJ5_append_3fe6f_1 0 rfl ?_
  refine am_get dJ5_append_3fe6f_2 kGJ5_79 hb.1 rfl ?_
  refine am_iconst (v := 1) dJ5_append_3fe6f_5 (by decide) ?_
  refine am_iadd dJ5_append_3fe6f_6 ?_
  rw [show nI C + 1 = nI (C + 1) from (nI_succ C).symm]
  refine am_callU (As := [.int (nI (C + 1))]) (rest := []) dJ5_append_3fe6f_7 kUJ5_100 rfl hb.1 rfl rfl (Nat.le_of_ble_eq_true rfl) (d2 := 3) (by decide) (k2 := sbK (C + 1) n) (Nat.le_refl _) (u2 := sbU (C + 1) n) (Nat.le_refl _) (Nat.le_of_ble_eq_true rfl) (ctJ5_ens hb (q := C + 1) (by omega) hC) (fun r1 h1 q3 => ?_)
  obtain ⟨rfl, v1, n1, f1, hb1, hF1, hn1, hk1⟩ := q3
  have hv1 := hb1.2.2.1
  have hn4 := hb1.2.2.2.2.2.2.2
  have hq1 : C + 1 ≤ n1 := by rw [hn1]; exact sbN_ge _ _
  refine am_aload_n dJ5_append_3fe6f_10 0 rfl ?_
  refine am_callU (As := []) (rest := []) dJ5_append_3fe6f_11 kUJ5_83 rfl hb1.1 rfl rfl (Nat.le_of_ble_eq_true rfl) (d2 := 0) (by decide) (k2 := 0) (Nat.zero_le _) (u2 := 0) (Nat.zero_le _) (Nat.le_of_ble_eq_true rfl) (ctJ5_isLatin1 hb1) (fun r2 h2 q3 => ?_)
  obtain ⟨rfl, rfl⟩ := q3
  refine am_if_eq dJ5_append_3fe6f_14 (by decide : ((14 : Nat) : Int) + (31) = ((45 : Nat) : Int)) (fun zq => absurd zq (by decide)) (fun _ => ?_)
  refine am_iload_n dJ5_append_3fe6f_17 1 rfl ?_
  refine am_callS (As := [.int c]) (rest := []) dJ5_append_3fe6f_18 kMJ5_191 rfl rfl (Nat.le_of_ble_eq_true rfl) (d2 := 0) (by decide) (k2 := 0) (Nat.zero_le _) (u2 := 0) (Nat.zero_le _) (Nat.le_of_ble_eq_true rfl) (ctJ1_canEncode hc) (fun r3 h3 q3 => ?_)
  obtain ⟨rfl, rfl⟩ := q3
  refine am_if_eq dJ5_append_3fe6f_21 (by decide : ((21 : Nat) : Int) + (24) = ((45 : Nat) : Int)) (fun zq => absurd zq (by decide)) (fun _ => ?_)
  refine am_aload_n dJ5_append_3fe6f_24 0 rfl ?_
  refine am_get dJ5_append_3fe6f_25 kGJ5_15 hb1.1 rfl ?_
  refine am_aload_n dJ5_append_3fe6f_28 0 rfl ?_
  refine am_dup dJ5_append_3fe6f_29 rfl ?_
  refine am_get dJ5_append_3fe6f_30 kGJ5_79 hb1.1 rfl ?_
  refine am_dup_x1 dJ5_append_3fe6f_33 rfl rfl ?_
  refine am_iconst (v := 1) dJ5_append_3fe6f_34 (by decide) ?_
  refine am_iadd dJ5_append_3fe6f_35 ?_
  rw [show nI C + 1 = nI (C + 1) from (nI_succ C).symm]
  refine am_put dJ5_append_3fe6f_36 kFJ5_79 hb1.1 (Nat.le_of_ble_eq_true rfl) rfl rfl ?_
  refine am_iload_n dJ5_append_3fe6f_39 1 rfl ?_
  refine am_i2b (v := c.toInt8.toInt32) dJ5_append_3fe6f_40 rfl ?_
  refine am_bast (n := n1) (f := f1) dJ5_append_3fe6f_41 (hs_ne hb1.2.1 (by omega)) (vp_in_nI (by omega) (by omega)) ?_
  rw [nI_clamp (by omega)]
  refine am_goto dJ5_append_3fe6f_42 (by decide : ((42 : Nat) : Int) + (33) = ((75 : Nat) : Int)) ?_
  refine am_aload_n dJ5_append_3fe6f_75 0 rfl ?_
  have hx := sb_set hb1 (g := upd f1 C c.toInt8.toInt32.toInt8.toInt32) (bb_fitU hb1.2.2.2.2.1 C _) hq1 rfl
  exact am_areturn dJ5_append_3fe6f_76 rfl (Or.inl ⟨_, rfl⟩) ⟨rfl, v1, n1, _, hx.1, sbfT hF1 hx.2, hn1, fun j hj => by rw [pk_un (by omega)]; exact hk1 j (by omega), pk_us⟩
theorem dJ5_inflateIfNeededFor_a7421_0 : decode cJ5_inflateIfNeededFor_a7421 0 = .ok (.getstatic 18, 3) := by decide +kernel
theorem dJ5_inflateIfNeededFor_a7421_3 : decode cJ5_inflateIfNeededFor_a7421 3 = .ok (.ifCond .eq 18, 3) := by decide +kernel
theorem dJ5_inflateIfNeededFor_a7421_6 : decode cJ5_inflateIfNeededFor_a7421 6 = .ok (.aload_n 0, 1) := by decide +kernel
theorem dJ5_inflateIfNeededFor_a7421_7 : decode cJ5_inflateIfNeededFor_a7421 7 = .ok (.getfield 22, 3) := by decide +kernel
theorem dJ5_inflateIfNeededFor_a7421_10 : decode cJ5_inflateIfNeededFor_a7421 10 = .ok (.aload_n 1, 1) := by decide +kernel
theorem dJ5_inflateIfNeededFor_a7421_11 : decode cJ5_inflateIfNeededFor_a7421 11 = .ok (.invokevirtual 40, 3) := by decide +kernel
theorem dJ5_inflateIfNeededFor_a7421_14 : decode cJ5_inflateIfNeededFor_a7421 14 = .ok (.if_icmp .eq 7, 3) := by decide +kernel
theorem dJ5_inflateIfNeededFor_a7421_21 : decode cJ5_inflateIfNeededFor_a7421 21 = .ok (.return_, 1) := by decide +kernel
set_option maxRecDepth 20000 in
theorem ctJ5_inflIf {l : Launch} {G : GM} {h : List va_E} {v n C : Nat} {f : Nat → Int32} {ml : Int32} (hb : SBc G h v n C f ml) {j : Nat} {qs : String × Nat × String × List Int32} (hj : strTab[j]? = some qs) : Ct l G mJ5_inflateIfNeededFor_a7421 1 0 0 [.ref (gz G + 19), .ref (gS G j)] h (fun r h1 => r = none ∧ h1 = h) := by
  show Tr l G mJ5_inflateIfNeededFor_a7421 1 0 0 0 [(0, .ref (gz G + 19)), (1, .ref (gS G j))] [] h _
  refine am_compact dJ5_inflateIfNeededFor_a7421_0 (lw_k1 221 (by decide +kernel) (by decide +kernel)) ?_
  refine am_if_eq dJ5_inflateIfNeededFor_a7421_3 (by decide : ((3 : Nat) : Int) + (18) = ((21 : Nat) : Int)) (fun zq => absurd zq (by decide)) (fun _ => ?_)
  refine am_aload_n dJ5_inflateIfNeededFor_a7421_6 0 rfl ?_
  refine am_get dJ5_inflateIfNeededFor_a7421_7 kGJ5_22 hb.1 rfl ?_
  refine am_aload_n dJ5_inflateIfNeededFor_a7421_10 1 rfl ?_
  refine am_callK (As := []) (rest := [.int 0]) dJ5_inflateIfNeededFor_a7421_11 kMJ5_40 rfl (q := qs) hj rfl rfl (Nat.le_of_ble_eq_true rfl) (d2 := 0) (by decide) (k2 := 0) (Nat.zero_le _) (u2 := 0) (Nat.zero_le _) (Nat.le_of_ble_eq_true rfl) (ctJ0_coder_7d493 hj) (fun v1 h2 q3 => ?_)
  obtain ⟨rfl, rfl⟩ := q3
  refine am_icmp_eq dJ5_inflateIfNeededFor_a7421_14 (by decide : ((14 : Nat) : Int) + (7) = ((21 : Nat) : Int)) (fun _ => ?_) (fun zq => absurd rfl zq)
  exact am_return dJ5_inflateIfNeededFor_a7421_21 rfl ⟨rfl, rfl⟩
theorem dJ0_getBytes_840e7_0 : decode cJ0_getBytes_840e7 0 = .ok (.aload_n 0, 1) := by decide +kernel
theorem dJ0_getBytes_840e7_1 : decode cJ0_getBytes_840e7 1 = .ok (.invokevirtual 335, 3) := by decide +kernel
theorem dJ0_getBytes_840e7_4 : decode cJ0_getBytes_840e7 4 = .ok (.iload_n 3, 1) := by decide +kernel
theorem dJ0_getBytes_840e7_5 : decode cJ0_getBytes_840e7 5 = .ok (.if_icmp .ne 23, 3) := by decide +kernel
theorem dJ0_getBytes_840e7_8 : decode cJ0_getBytes_840e7 8 = .ok (.aload_n 0, 1) := by decide +kernel
theorem dJ0_getBytes_840e7_9 : decode cJ0_getBytes_840e7 9 = .ok (.getfield 9, 3) := by decide +kernel
theorem dJ0_getBytes_840e7_12 : decode cJ0_getBytes_840e7 12 = .ok (.iconst 0, 1) := by decide +kernel
theorem dJ0_getBytes_840e7_13 : decode cJ0_getBytes_840e7 13 = .ok (.aload_n 1, 1) := by decide +kernel
theorem dJ0_getBytes_840e7_14 : decode cJ0_getBytes_840e7 14 = .ok (.iload_n 2, 1) := by decide +kernel
theorem dJ0_getBytes_840e7_15 : decode cJ0_getBytes_840e7 15 = .ok (.iload_n 3, 1) := by decide +kernel
theorem dJ0_getBytes_840e7_16 : decode cJ0_getBytes_840e7 16 = .ok (.ishl, 1) := by decide +kernel
theorem dJ0_getBytes_840e7_17 : decode cJ0_getBytes_840e7 17 = .ok (.aload_n 0, 1) := by decide +kernel
theorem dJ0_getBytes_840e7_18 : decode cJ0_getBytes_840e7 18 = .ok (.getfield 9, 3) := by decide +kernel
theorem dJ0_getBytes_840e7_21 : decode cJ0_getBytes_840e7 21 = .ok (.arraylength, 1) := by decide +kernel
theorem dJ0_getBytes_840e7_22 : decode cJ0_getBytes_840e7 22 = .ok (.invokestatic 212, 3) := by decide +kernel
theorem dJ0_getBytes_840e7_25 : decode cJ0_getBytes_840e7 25 = .ok (.goto 18, 3) := by decide +kernel
theorem dJ0_getBytes_840e7_43 : decode cJ0_getBytes_840e7 43 = .ok (.return_, 1) := by decide +kernel
set_option maxRecDepth 20000 in
theorem ctJ0_getBytes {l : Launch} {G : GM} {h : List va_E} {v n C : Nat} {f : Nat → Int32} (hv : h[v]? = some (.inl (1, n, .inl f))) {j : Nat} {qs : String × Nat × String × List Int32} (hj : strTab[j]? = some qs) (h1 : C + qs.2.2.2.length ≤ n) (h2 : n ≤ 4096) : Ct l G mJ0_getBytes_840e7 1 0 0 [.ref (gS G j), .ref (gz G + v), .int (nI C), .int 0] h (fun r h1 => r = none ∧ h1 = h.set v (.inl (1, n, .inl (va_cpy (fun i => qs.2.2.2.getD i 0) f 0 C qs.2.2.2.length)))) := by
  show Tr l G mJ0_getBytes_840e7 1 0 0 0 [(0, .ref (gS G j)), (1, .ref (gz G + v)), (2, .int (nI C)), (3, .int 0)] [] h _
  refine am_aload_n dJ0_getBytes_840e7_0 0 rfl ?_
  refine am_callK (As := []) (rest := []) dJ0_getBytes_840e7_1 kMJ0_335 rfl (q := qs) hj rfl rfl (Nat.le_of_ble_eq_true rfl) (d2 := 0) (by decide) (k2 := 0) (Nat.zero_le _) (u2 := 0) (Nat.zero_le _) (Nat.le_of_ble_eq_true rfl) (ctJ0_coder_7d493 hj) (fun v1 h2 q3 => ?_)
  obtain ⟨rfl, rfl⟩ := q3
  refine am_iload_n dJ0_getBytes_840e7_4 3 rfl ?_
  refine am_icmp_ne dJ0_getBytes_840e7_5 (by decide : ((5 : Nat) : Int) + (23) = ((28 : Nat) : Int)) (fun zq => absurd zq (fun z => z rfl)) (fun _ => ?_)
  refine am_aload_n dJ0_getBytes_840e7_8 0 rfl ?_
  refine am_getSv dJ0_getBytes_840e7_9 hj (lw_k5 51 (by decide +kernel) (by decide +kernel)) ?_
  refine am_iconst (v := 0) dJ0_getBytes_840e7_12 (by decide) ?_
  refine am_aload_n dJ0_getBytes_840e7_13 1 rfl ?_
  refine am_iload_n dJ0_getBytes_840e7_14 2 rfl ?_
  refine am_iload_n dJ0_getBytes_840e7_15 3 rfl ?_
  refine am_ishl dJ0_getBytes_840e7_16 ?_
  rw [sh0l (nI C)]
  refine am_aload_n dJ0_getBytes_840e7_17 0 rfl ?_
  refine am_getSv dJ0_getBytes_840e7_18 hj (lw_k5 51 (by decide +kernel) (by decide +kernel)) ?_
  refine am_alenS (v := nI qs.2.2.2.length) dJ0_getBytes_840e7_21 hj rfl ?_
  refine am_copyS (qs := qs) (g := f) dJ0_getBytes_840e7_22 (lw_k4 218 (by decide +kernel) (by decide +kernel)) hj hv (by decide) (nI_pos (by omega)) (nI_pos (by omega)) (by rw [nI_clamp (by omega)]; show 0 + _ ≤ _; omega) (by rw [nI_clamp (by omega), nI_clamp (by omega)]; omega) (sq_fit hj) (Nat.le_of_ble_eq_true rfl) (by decide) ?_
  rw [nI_clamp (n := C) (by omega), nI_clamp (n := qs.2.2.2.length) (by omega)]
  refine am_goto dJ0_getBytes_840e7_25 (by decide : ((25 : Nat) : Int) + (18) = ((43 : Nat) : Int)) ?_
  exact am_return dJ0_getBytes_840e7_43 rfl ⟨rfl, rfl⟩
theorem dJ5_putStringAt_47b60_0 : decode cJ5_putStringAt_47b60 0 = .ok (.aload_n 0, 1) := by decide +kernel
theorem dJ5_putStringAt_47b60_1 : decode cJ5_putStringAt_47b60 1 = .ok (.aload_n 2, 1) := by decide +kernel
theorem dJ5_putStringAt_47b60_2 : decode cJ5_putStringAt_47b60 2 = .ok (.invokevirtual 397, 3) := by decide +kernel
theorem dJ5_putStringAt_47b60_5 : decode cJ5_putStringAt_47b60 5 = .ok (.aload_n 2, 1) := by decide +kernel
theorem dJ5_putStringAt_47b60_6 : decode cJ5_putStringAt_47b60 6 = .ok (.aload_n 0, 1) := by decide +kernel
theorem dJ5_putStringAt_47b60_7 : decode cJ5_putStringAt_47b60 7 = .ok (.getfield 15, 3) := by decide +kernel
theorem dJ5_putStringAt_47b60_10 : decode cJ5_putStringAt_47b60 10 = .ok (.iload_n 1, 1) := by decide +kernel
theorem dJ5_putStringAt_47b60_11 : decode cJ5_putStringAt_47b60 11 = .ok (.aload_n 0, 1) := by decide +kernel
theorem dJ5_putStringAt_47b60_12 : decode cJ5_putStringAt_47b60 12 = .ok (.getfield 22, 3) := by decide +kernel
theorem dJ5_putStringAt_47b60_15 : decode cJ5_putStringAt_47b60 15 = .ok (.invokevirtual 399, 3) := by decide +kernel
theorem dJ5_putStringAt_47b60_18 : decode cJ5_putStringAt_47b60 18 = .ok (.return_, 1) := by decide +kernel
set_option maxRecDepth 20000 in
theorem ctJ5_putStr {l : Launch} {G : GM} {h : List va_E} {v n C : Nat} {f : Nat → Int32} {ml : Int32} (hb : SBc G h v n C f ml) {j : Nat} {qs : String × Nat × String × List Int32} (hj : strTab[j]? = some qs) (h1 : C + qs.2.2.2.length ≤ n) : Ct l G mJ5_putStringAt_47b60 2 0 0 [.ref (gz G + 19), .int (nI C), .ref (gS G j)] h (fun r h1 => r = none ∧ h1 = h.set v (.inl (1, n, .inl (va_cpy (fun i => qs.2.2.2.getD i 0) f 0 C qs.2.2.2.length)))) := by
  show Tr l G mJ5_putStringAt_47b60 2 0 0 0 [(0, .ref (gz G + 19)), (1, .int (nI C)), (2, .ref (gS G j))] [] h _
  refine am_aload_n dJ5_putStringAt_47b60_0 0 rfl ?_
  refine am_aload_n dJ5_putStringAt_47b60_1 2 rfl ?_
  refine am_callU (As := [.ref (gS G j)]) (rest := []) dJ5_putStringAt_47b60_2 kUJ5_397 rfl hb.1 rfl rfl (Nat.le_of_ble_eq_true rfl) (d2 := 1) (by decide) (k2 := 0) (Nat.zero_le _) (u2 := 0) (Nat.zero_le _) (Nat.le_of_ble_eq_true rfl) (ctJ5_inflIf hb hj) (fun v1 h2 q3 => ?_)
  obtain ⟨rfl, rfl⟩ := q3
  refine am_aload_n dJ5_putStringAt_47b60_5 2 rfl ?_
  refine am_aload_n dJ5_putStringAt_47b60_6 0 rfl ?_
  refine am_get dJ5_putStringAt_47b60_7 kGJ5_15 hb.1 rfl ?_
  refine am_iload_n dJ5_putStringAt_47b60_10 1 rfl ?_
  refine am_aload_n dJ5_putStringAt_47b60_11 0 rfl ?_
  refine am_get dJ5_putStringAt_47b60_12 kGJ5_22 hb.1 rfl ?_
  refine am_callK (As := [.ref (gz G + v), .int (nI C), .int 0]) (rest := []) dJ5_putStringAt_47b60_15 kMJ5_399 rfl (q := qs) hj rfl rfl (Nat.le_of_ble_eq_true rfl) (d2 := 1) (by decide) (k2 := 0) (Nat.zero_le _) (u2 := 0) (Nat.zero_le _) (Nat.le_of_ble_eq_true rfl) (ctJ0_getBytes hb.2.1 hj h1 hb.2.2.2.2.2.2.2) (fun v1 h2 q3 => ?_)
  obtain ⟨rfl, rfl⟩ := q3
  exact am_return dJ5_putStringAt_47b60_18 rfl ⟨rfl, rfl⟩
theorem dJ5_append_cf1ce_0 : decode cJ5_append_cf1ce 0 = .ok (.aload_n 1, 1) := by decide +kernel
theorem dJ5_append_cf1ce_1 : decode cJ5_append_cf1ce 1 = .ok (.ifnonnull 8, 3) := by decide +kernel
theorem dJ5_append_cf1ce_9 : decode cJ5_append_cf1ce 9 = .ok (.aload_n 1, 1) := by decide +kernel
theorem dJ5_append_cf1ce_10 : decode cJ5_append_cf1ce 10 = .ok (.invokevirtual 32, 3) := by decide +kernel
theorem dJ5_append_cf1ce_13 : decode cJ5_append_cf1ce 13 = .ok (.istore_n 2, 1) := by decide +kernel
theorem dJ5_append_cf1ce_14 : decode cJ5_append_cf1ce 14 = .ok (.aload_n 0, 1) := by decide +kernel
theorem dJ5_append_cf1ce_15 : decode cJ5_append_cf1ce 15 = .ok (.aload_n 0, 1) := by decide +kernel
theorem dJ5_append_cf1ce_16 : decode cJ5_append_cf1ce 16 = .ok (.getfield 79, 3) := by decide +kernel
theorem dJ5_append_cf1ce_19 : decode cJ5_append_cf1ce 19 = .ok (.iload_n 2, 1) := by decide +kernel
theorem dJ5_append_cf1ce_20 : decode cJ5_append_cf1ce 20 = .ok (.iadd, 1) := by decide +kernel
theorem dJ5_append_cf1ce_21 : decode cJ5_append_cf1ce 21 = .ok (.invokevirtual 100, 3) := by decide +kernel
theorem dJ5_append_cf1ce_24 : decode cJ5_append_cf1ce 24 = .ok (.aload_n 0, 1) := by decide +kernel
theorem dJ5_append_cf1ce_25 : decode cJ5_append_cf1ce 25 = .ok (.aload_n 0, 1) := by decide +kernel
theorem dJ5_append_cf1ce_26 : decode cJ5_append_cf1ce 26 = .ok (.getfield 79, 3) := by decide +kernel
theorem dJ5_append_cf1ce_29 : decode cJ5_append_cf1ce 29 = .ok (.aload_n 1, 1) := by decide +kernel
theorem dJ5_append_cf1ce_30 : decode cJ5_append_cf1ce 30 = .ok (.invokevirtual 208, 3) := by decide +kernel
theorem dJ5_append_cf1ce_33 : decode cJ5_append_cf1ce 33 = .ok (.aload_n 0, 1) := by decide +kernel
theorem dJ5_append_cf1ce_34 : decode cJ5_append_cf1ce 34 = .ok (.dup, 1) := by decide +kernel
theorem dJ5_append_cf1ce_35 : decode cJ5_append_cf1ce 35 = .ok (.getfield 79, 3) := by decide +kernel
theorem dJ5_append_cf1ce_38 : decode cJ5_append_cf1ce 38 = .ok (.iload_n 2, 1) := by decide +kernel
theorem dJ5_append_cf1ce_39 : decode cJ5_append_cf1ce 39 = .ok (.iadd, 1) := by decide +kernel
theorem dJ5_append_cf1ce_40 : decode cJ5_append_cf1ce 40 = .ok (.putfield 79, 3) := by decide +kernel
theorem dJ5_append_cf1ce_43 : decode cJ5_append_cf1ce 43 = .ok (.aload_n 0, 1) := by decide +kernel
theorem dJ5_append_cf1ce_44 : decode cJ5_append_cf1ce 44 = .ok (.areturn, 1) := by decide +kernel
set_option maxRecDepth 20000 in
theorem ctJ5_appendS {l : Launch} {G : GM} {h : List va_E} {v n C : Nat} {f : Nat → Int32} {ml : Int32} (hb : SBc G h v n C f ml) {j : Nat} {qs : String × Nat × String × List Int32} (hj : strTab[j]? = some qs) (h21 : j < 21) (hC : C + qs.2.2.2.length ≤ 2000) : Ct l G mJ5_append_cf1ce 4 (sbK (C + qs.2.2.2.length) n) (sbU (C + qs.2.2.2.length) n) [.ref (gz G + 19), .ref (gS G j)] h (fun r h1 => r = some (.ref (gz G + 19)) ∧ ∃ v1 n1 f1, SBc G h1 v1 n1 (C + qs.2.2.2.length) f1 ml ∧ SBf h h1 v v1 ∧ n1 = sbN (C + qs.2.2.2.length) n ∧ (∀ j, j < C → f1 j = f j) ∧ ∀ i, i < qs.2.2.2.length → f1 (C + i) = qs.2.2.2.getD i 0) := by
  show Tr l G mJ5_append_cf1ce 4 (sbK (C + qs.2.2.2.length) n) (sbU (C + qs.2.2.2.length) n) 0 [(0, .ref (gz G + 19)), (1, .ref (gS G j))] [] h _
  have hCn := hb.2.2.2.2.2.1
  have hn16 := hb.2.2.2.2.2.2.1
  have hsl := sq_len12 hj h21
  refine am_aload_n dJ5_append_cf1ce_0 1 rfl ?_
  refine am_ifnonnull dJ5_append_cf1ce_1 (by decide : ((1 : Nat) : Int) + (8) = ((9 : Nat) : Int)) ?_
  refine am_aload_n dJ5_append_cf1ce_9 1 rfl ?_
  refine am_callK (As := []) (rest := []) dJ5_append_cf1ce_10 kMJ5_32 rfl (q := qs) hj rfl rfl (Nat.le_of_ble_eq_true rfl) (d2 := 1) (by decide) (k2 := 0) (Nat.zero_le _) (u2 := 0) (Nat.zero_le _) (Nat.le_of_ble_eq_true rfl) (ctJ0_length_8abf5 hj) (fun v1 h2 q3 => ?_)
  obtain ⟨rfl, rfl⟩ := q3
  refine am_istore_n dJ5_append_cf1ce_13 (by decide) (lv' := [(2, .int (nI qs.2.2.2.length)), (0, .ref (gz G + 19)), (1, .ref (gS G j))]) rfl ?_
  refine am_aload_n dJ5_append_cf1ce_14 1 rfl ?_
  refine am_aload_n dJ5_append_cf1ce_15 1 rfl ?_
  refine am_get dJ5_append_cf1ce_16 kGJ5_79 hb.1 rfl ?_
  refine am_iload_n dJ5_append_cf1ce_19 0 rfl ?_
  refine am_iadd dJ5_append_cf1ce_20 ?_
  rw [nI_add]
  refine am_callU (As := [.int (nI (C + qs.2.2.2.length))]) (rest := []) dJ5_append_cf1ce_21 kUJ5_100 rfl hb.1 rfl rfl (Nat.le_of_ble_eq_true rfl) (d2 := 3) (by decide) (k2 := sbK (C + qs.2.2.2.length) n) (Nat.le_refl _) (u2 := sbU (C + qs.2.2.2.length) n) (Nat.le_refl _) (Nat.le_of_ble_eq_true rfl) (ctJ5_ens hb (q := C + qs.2.2.2.length) (by omega) hC) (fun r1 h1 q3 => ?_)
  obtain ⟨rfl, v1, n1, f1, hb1, hF1, hn1, hk1⟩ := q3
  have hv1 := hb1.2.2.1
  have hn4 := hb1.2.2.2.2.2.2.2
  have hq1 : C + qs.2.2.2.length ≤ n1 := by rw [hn1]; exact sbN_ge _ _
  refine am_aload_n dJ5_append_cf1ce_24 1 rfl ?_
  refine am_aload_n dJ5_append_cf1ce_25 1 rfl ?_
  refine am_get dJ5_append_cf1ce_26 kGJ5_79 hb1.1 rfl ?_
  refine am_aload_n dJ5_append_cf1ce_29 2 rfl ?_
  refine am_callU (As := [.int (nI C), .ref (gS G j)]) (rest := []) dJ5_append_cf1ce_30 kUJ5_208 rfl hb1.1 rfl rfl (Nat.le_of_ble_eq_true rfl) (d2 := 2) (by decide) (k2 := 0) (Nat.zero_le _) (u2 := 0) (Nat.zero_le _) (Nat.le_of_ble_eq_true rfl) (ctJ5_putStr hb1 hj hq1) (fun v9 h9 q3 => ?_)
  obtain ⟨rfl, rfl⟩ := q3
  have hb2 := hs_ne (c1 := (.inl (1, n1, .inl (va_cpy (fun i => qs.2.2.2.getD i 0) f1 0 C qs.2.2.2.length)) : va_E)) hb1.1 (fun z => hv1 z)
  refine am_aload_n dJ5_append_cf1ce_33 1 rfl ?_
  refine am_dup dJ5_append_cf1ce_34 rfl ?_
  refine am_get dJ5_append_cf1ce_35 kGJ5_79 hb2 rfl ?_
  refine am_iload_n dJ5_append_cf1ce_38 0 rfl ?_
  refine am_iadd dJ5_append_cf1ce_39 ?_
  rw [nI_add]
  refine am_put dJ5_append_cf1ce_40 kFJ5_79 hb2 (Nat.le_of_ble_eq_true rfl) rfl rfl ?_
  refine am_aload_n dJ5_append_cf1ce_43 1 rfl ?_
  have hx := sb_set hb1 (g := va_cpy (fun i => qs.2.2.2.getD i 0) f1 0 C qs.2.2.2.length) (bb_fitC (sq_fit hj) hb1.2.2.2.2.1 0 C _) hq1 (sb_comm hv1)
  exact am_areturn dJ5_append_cf1ce_44 rfl (Or.inl ⟨_, rfl⟩) ⟨rfl, v1, n1, _, hx.1, sbfT hF1 hx.2, hn1, fun j hj => by rw [pk_cpy_out (by omega)]; exact hk1 j (by omega), fun i hi => by rw [pk_cpy_in (by omega) (by omega)]; congr 1; omega⟩
