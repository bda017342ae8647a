/-! Texts that fail. -/
/-- the model, the text T fed, the last error c at p -/
def mTx (T : List Int32) (c p : Int32) : Md := (fun q => if q = 3 then nI T.length else if q = 9 then c else if q = 10 then p else 0, fun k j => if k = 0 then fE j else if k = 7 then T.getD j 0 else 0, 0)
def mOk (r : Int32 × Md) (c1 p1 : Int32) : Bool := decide (r.1 = -4) && decide (r.2.1 9 = c1) && decide (r.2.1 10 = p1) && decide (r.2.1 2 = 0) && decide (r.2.1 3 = 0) && decide (r.2.1 12 = 0) && decide (r.2.2.2 = 0) && (List.range 146).all (fun j => decide (r.2.2.1 0 j = fE j))
/-- an object on which nothing but failing texts were loaded -/
def ER (n : Nat) (w : Wd) (c p : Int32) : Prop := ∃ m : Md, hz_R n w m ∧ m.1 2 = 0 ∧ m.1 3 = 0 ∧ m.1 12 = 0 ∧ m.2.2 = 0 ∧ m.1 9 = c ∧ m.1 10 = p ∧ ∀ j, j < 146 → m.2.1 0 j = fE j
theorem by_8 : ∀ b, b < 128 → nI b = (nI b).toInt8.toInt32 := by decide +kernel
section ERR
variable {l : Launch} {G : GM} {n : Nat} {w w1 : Wd} {c p c1 p1 : Int32} {T : List Int32} {h : List va_E} {B v : Nat}
theorem n0_eq {k : Nat} (h : nI k = 0) (hk : k < 100000) : k = 0 := by
  have e : nI k = nI 0 := h
  rw [nI_eq (by omega) (by omega)] at e
  exact e
theorem er_0 : ER 0 wz0 0 (-1) := by
  refine ⟨mTx [] 0 (-1), ⟨0, 0, 0, 0, 0, ⟨rfl, ?_⟩, ⟨Nat.le_refl _, rfl, fun q _ => ?_⟩, Or.inl rfl, ⟨0, 0, by decide, by decide, rfl, rfl, rfl, fun i hi => absurd hi (Nat.not_lt_zero i)⟩, ⟨0, by decide, rfl, rfl, fun j hj => absurd hj (Nat.not_lt_zero j)⟩, ⟨rfl, rfl⟩, ⟨0, by decide, ⟨by decide, fun _ => rfl⟩, rfl, rfl, fun j hj => absurd hj (Nat.not_lt_zero j)⟩⟩, rfl, rfl, rfl, rfl, rfl, rfl, fun j _ => rfl⟩
  · exact ci_0.1
  · show (lshr 0 20).toInt ≤ (0 : Int)
    decide
theorem er_l (h : ER n w c p) : w.1 0 = nI 0 ∧ w.1 11 = 0 ∧ w.1 1 = c ∧ w.1 2 = p ∧ (w.2.2.1 1).1 8 = 0 := by
  obtain ⟨m, ⟨ny, ns, nz, np, r, hP, -, -, ⟨cnt, old, d1, d2, d3, d4, d5, -⟩, ⟨L, L1, L2, L3, -⟩, ⟨e1, e2⟩, -⟩, m2, m3, m12, m0, m9, m10, mr⟩ := h
  have h8 : m.2.1 0 8 = nI np := hP.2.2.2.1.2.2.2
  refine ⟨?_, ?_, e1.trans m9, e2.trans m10, ?_⟩
  · rw [L2, ← L3, m3]; rfl
  · rw [d3, ← d5, m2]
  · rw [hP.2.1.2.2.2, ← h8, mr 8 (by decide)]; rfl
/-- fed -/
theorem er_f (h : ER n w c p) (hT : TA T) (hl : T.length ≤ 1100) (hF : Fg T.length (fun j => T.getD j 0) w1) (hi : hz_wi w w1) : hz_R n w1 (mTx T c p) := by
  obtain ⟨m, ⟨ny, ns, nz, np, r, hP, ⟨r1, r2⟩, hK, ⟨cnt, old, d1, d2, d3, d4, d5, -⟩, -, ⟨e1, e2⟩, ⟨C, o1, o2, o3, o4, -⟩⟩, m2, m3, m12, m0, m9, m10, mr⟩ := h
  obtain ⟨k1, k2, k3⟩ := hi
  have c0 : cnt = 0 := n0_eq (by rw [← d5, m2]) (by omega)
  have C0 : C = 0 := n0_eq (by rw [← o4, m12]) (by omega)
  refine ⟨ny, ns, nz, np, r, ⟨rfl, ?_⟩, ⟨r1, by unfold hz_mo at r2 ⊢; rw [k3]; exact r2⟩, ?_, ⟨0, old, by decide, d2, ?_, (k1 12 (by decide)).trans d4, rfl, fun i hi => absurd hi (Nat.not_lt_zero i)⟩, ⟨T.length, by omega, hF.1, rfl, fun j hj => ?_⟩, ⟨(k1 1 (by decide)).trans (e1.trans m9), (k1 2 (by decide)).trans (e2.trans m10)⟩, ⟨0, by decide, ?_, ?_, rfl, fun j hj => absurd hj (Nat.not_lt_zero j)⟩⟩
  · rw [k3]
    exact hz_fr hP.2 (fun _ _ => rfl) (fun _ _ _ _ => rfl) (fun j hj => (mr j hj).symm)
  · rcases hK with z | ⟨z1, z2, z3, z4⟩
    · exact Or.inl ((k1 13 (by decide)).trans z)
    · refine Or.inr ⟨by rw [k1 13 (by decide)]; exact z1, ?_⟩
      rw [k3]
      exact ⟨fun j hj => by rw [k2 3 (by decide)]; exact z2 j hj, by rw [k1 14 (by decide)]; exact z3, by rw [k1 15 (by decide)]; exact z4⟩
  · rw [k1 11 (by decide), d3, c0]
  · obtain ⟨b, b1, b2⟩ := hT j hj
    exact ⟨b, by omega, (hF.2 j hj).trans b2, (show T.getD j 0 = _ from b2.trans (by_8 b b1))⟩
  · rw [k3]
    exact ⟨Nat.zero_le _, o2.2⟩
  · rw [k1 16 (by decide), o3, C0]
/-- loaded -/
theorem er_ld (h : hz_R n w (mTx T c p)) (hk : mOk (fX7_load (mTx T c p)) c1 p1 = true) : ∃ w1, fX6_load w = (-4, w1) ∧ ER (n + 1) w1 c1 p1 := by
  obtain ⟨-, e, R⟩ := hp_load h
  generalize fX7_load (mTx T c p) = X at e R hk
  generalize fX6_load w = Y at e R ⊢
  unfold mOk at hk
  simp only [Bool.and_eq_true, decide_eq_true_eq, List.all_eq_true, List.mem_range] at hk
  obtain ⟨⟨⟨⟨⟨⟨⟨k1, k2⟩, k3⟩, k4⟩, k5⟩, k6⟩, k7⟩, k8⟩ := hk
  exact ⟨Y.2, Prod.ext (e.trans k1) rfl, X.2, R, k4, k5, k6, k7, k2, k3, k8⟩
theorem dL_fails_0 : decode cL_fails 0 = .ok (.aload_n 0, 1) := by decide +kernel
theorem dL_fails_1 : decode cL_fails 1 = .ok (.invokevirtual 141, 3) := by decide +kernel
theorem dL_fails_4 : decode cL_fails 4 = .ok (.istore 4, 2) := by decide +kernel
theorem dL_fails_6 : decode cL_fails 6 = .ok (.aload_n 0, 1) := by decide +kernel
theorem dL_fails_7 : decode cL_fails 7 = .ok (.aload_n 1, 1) := by decide +kernel
theorem dL_fails_8 : decode cL_fails 8 = .ok (.invokestatic 122, 3) := by decide +kernel
theorem dL_fails_11 : decode cL_fails 11 = .ok (.ifCond .eq 50, 3) := by decide +kernel
theorem dL_fails_14 : decode cL_fails 14 = .ok (.aload_n 0, 1) := by decide +kernel
theorem dL_fails_15 : decode cL_fails 15 = .ok (.invokevirtual 126, 3) := by decide +kernel
theorem dL_fails_18 : decode cL_fails 18 = .ok (.bipush (-4), 2) := by decide +kernel
theorem dL_fails_20 : decode cL_fails 20 = .ok (.if_icmp .ne 41, 3) := by decide +kernel
theorem dL_fails_23 : decode cL_fails 23 = .ok (.aload_n 0, 1) := by decide +kernel
theorem dL_fails_24 : decode cL_fails 24 = .ok (.invokevirtual 129, 3) := by decide +kernel
theorem dL_fails_27 : decode cL_fails 27 = .ok (.iload_n 2, 1) := by decide +kernel
theorem dL_fails_28 : decode cL_fails 28 = .ok (.if_icmp .ne 33, 3) := by decide +kernel
theorem dL_fails_31 : decode cL_fails 31 = .ok (.aload_n 0, 1) := by decide +kernel
theorem dL_fails_32 : decode cL_fails 32 = .ok (.invokevirtual 132, 3) := by decide +kernel
theorem dL_fails_35 : decode cL_fails 35 = .ok (.iload_n 3, 1) := by decide +kernel
theorem dL_fails_36 : decode cL_fails 36 = .ok (.if_icmp .ne 25, 3) := by decide +kernel
theorem dL_fails_39 : decode cL_fails 39 = .ok (.aload_n 0, 1) := by decide +kernel
theorem dL_fails_40 : decode cL_fails 40 = .ok (.invokevirtual 141, 3) := by decide +kernel
theorem dL_fails_43 : decode cL_fails 43 = .ok (.iload 4, 2) := by decide +kernel
theorem dL_fails_45 : decode cL_fails 45 = .ok (.if_icmp .ne 16, 3) := by decide +kernel
theorem dL_fails_48 : decode cL_fails 48 = .ok (.aload_n 0, 1) := by decide +kernel
theorem dL_fails_49 : decode cL_fails 49 = .ok (.iconst 1, 1) := by decide +kernel
theorem dL_fails_50 : decode cL_fails 50 = .ok (.invokevirtual 30, 3) := by decide +kernel
theorem dL_fails_53 : decode cL_fails 53 = .ok (.iconst (-1), 1) := by decide +kernel
theorem dL_fails_54 : decode cL_fails 54 = .ok (.if_icmp .ne 7, 3) := by decide +kernel
theorem dL_fails_57 : decode cL_fails 57 = .ok (.iconst 1, 1) := by decide +kernel
theorem dL_fails_58 : decode cL_fails 58 = .ok (.goto 4, 3) := by decide +kernel
theorem dL_fails_62 : decode cL_fails 62 = .ok (.ireturn, 1) := by decide +kernel
set_option maxRecDepth 20000 in
theorem ctL_fails (hE : ER n w c p) (ho : OB G h B w) (hs : StO G h B w v T) (hT : TA T) (hl : T.length ≤ 1100) (hp : 0 < T.length) (hk : mOk (fX7_load (mTx T c p)) c1 p1 = true) : Ct l G mL_fails 10 0 0 [.ref (gz G + B), .ref v, .int c1, .int p1] h (fun r h1 => r = some (.int 1) ∧ ∃ w1, OB G h1 B w1 ∧ OG B w w1 h h1 ∧ ER (n + 1) w1 c1 p1) := by
  show Tr l G mL_fails 10 0 0 0 [(0, .ref (gz G + B)), (1, .ref v), (2, .int c1), (3, .int p1)] [] h _
  have W := er_l hE
  refine am_aload_n dL_fails_0 0 rfl ?_
  have q1 := om_undoCount (l := l) ho
  rw [show fX6_undoCount w = 0 from W.2.1] at q1
  obtain ⟨fs, hfs⟩ := ob_cell ho
  refine mm_callV (As := []) (rest := []) dL_fails_1 kML_141 rfl hfs rfl rfl (Nat.le_of_ble_eq_true rfl) (d2 := 0) (by omega) (k2 := 0) (Nat.zero_le _) (u2 := 0) (Nat.zero_le _) (q1) (fun r1 h4 q3 => ?_)
  obtain ⟨rfl, e0⟩ := q3
  subst e0
  refine am_istore dL_fails_4 (by decide) (lv' := [(4, .int 0), (0, .ref (gz G + B)), (1, .ref v), (2, .int c1), (3, .int p1)]) rfl ?_
  refine am_aload_n dL_fails_6 1 rfl ?_
  refine am_aload_n dL_fails_7 2 rfl ?_
  refine am_callS (As := [.ref (gz G + B), .ref v]) (rest := []) dL_fails_8 kML_122 rfl rfl (Nat.le_of_ble_eq_true rfl) (d2 := 5) (by omega) (k2 := 0) (Nat.zero_le _) (u2 := 0) (Nat.zero_le _) (Nat.le_of_ble_eq_true rfl) (ctL_feed ho hs hT hl hp ⟨W.1, fun j hj => absurd hj (Nat.not_lt_zero j)⟩) (fun r1 h2 q3 => ?_)
  obtain ⟨rfl, w1, o2, g2, F2, i2⟩ := q3
  refine am_if_eq dL_fails_11 (by decide : ((11 : Nat) : Int) + (50) = ((61 : Nat) : Int)) (fun zq => absurd zq (by decide)) (fun _ => ?_)
  obtain ⟨w2, e1, E2⟩ := er_ld (er_f hE hT hl F2 i2) hk
  have W2 := er_l E2
  refine am_aload_n dL_fails_14 1 rfl ?_
  have hc := om_load (l := l) o2
  rw [e1] at hc
  obtain ⟨fs, hfs⟩ := ob_cell o2
  refine mm_callV (As := []) (rest := []) dL_fails_15 kML_126 rfl hfs rfl rfl (Nat.le_of_ble_eq_true rfl) (d2 := 9) (by omega) (k2 := 0) (Nat.zero_le _) (u2 := 0) (Nat.zero_le _) (hc) (fun r1 h3 q3 => ?_)
  obtain ⟨rfl, o3, g3⟩ := q3
  refine am_bipush (v := (-4)) dL_fails_18 (by decide) ?_
  refine am_icmp_ne dL_fails_20 (by decide : ((20 : Nat) : Int) + (41) = ((61 : Nat) : Int)) (fun zq => absurd zq (fun z => z rfl)) (fun _ => ?_)
  refine am_aload_n dL_fails_23 1 rfl ?_
  have q1 := om_errorCode (l := l) o3
  rw [show fX6_errorCode w2 = c1 from W2.2.2.1] at q1
  obtain ⟨fs, hfs⟩ := ob_cell o3
  refine mm_callV (As := []) (rest := []) dL_fails_24 kML_129 rfl hfs rfl rfl (Nat.le_of_ble_eq_true rfl) (d2 := 0) (by omega) (k2 := 0) (Nat.zero_le _) (u2 := 0) (Nat.zero_le _) (q1) (fun r1 h4 q3 => ?_)
  obtain ⟨rfl, e0⟩ := q3
  subst e0
  refine am_iload_n dL_fails_27 3 rfl ?_
  refine am_icmp_ne dL_fails_28 (by decide : ((28 : Nat) : Int) + (33) = ((61 : Nat) : Int)) (fun zq => absurd zq (fun z => z rfl)) (fun _ => ?_)
  refine am_aload_n dL_fails_31 1 rfl ?_
  have q1 := om_errorPosition (l := l) o3
  rw [show fX6_errorPosition w2 = p1 from W2.2.2.2.1] at q1
  obtain ⟨fs, hfs⟩ := ob_cell o3
  refine mm_callV (As := []) (rest := []) dL_fails_32 kML_132 rfl hfs rfl rfl (Nat.le_of_ble_eq_true rfl) (d2 := 0) (by omega) (k2 := 0) (Nat.zero_le _) (u2 := 0) (Nat.zero_le _) (q1) (fun r1 h5 q3 => ?_)
  obtain ⟨rfl, e0⟩ := q3
  subst e0
  refine am_iload_n dL_fails_35 4 rfl ?_
  refine am_icmp_ne dL_fails_36 (by decide : ((36 : Nat) : Int) + (25) = ((61 : Nat) : Int)) (fun zq => absurd zq (fun z => z rfl)) (fun _ => ?_)
  refine am_aload_n dL_fails_39 1 rfl ?_
  have q1 := om_undoCount (l := l) o3
  rw [show fX6_undoCount w2 = 0 from W2.2.1] at q1
  obtain ⟨fs, hfs⟩ := ob_cell o3
  refine mm_callV (As := []) (rest := []) dL_fails_40 kML_141 rfl hfs rfl rfl (Nat.le_of_ble_eq_true rfl) (d2 := 0) (by omega) (k2 := 0) (Nat.zero_le _) (u2 := 0) (Nat.zero_le _) (q1) (fun r1 h6 q3 => ?_)
  obtain ⟨rfl, e0⟩ := q3
  subst e0
  refine am_iload dL_fails_43 0 rfl ?_
  refine am_icmp_ne dL_fails_45 (by decide : ((45 : Nat) : Int) + (16) = ((61 : Nat) : Int)) (fun zq => absurd zq (fun z => z rfl)) (fun _ => ?_)
  refine am_aload_n dL_fails_48 1 rfl ?_
  refine am_iconst (v := 1) dL_fails_49 (by decide) ?_
  have et : fX6_truncate w2 1 = (-1, w2) := by
    unfold fX6_truncate
    rw [if_neg (by decide), W2.1, if_neg (by decide)]
  have hc := om_truncate (l := l) o3 1
  rw [et] at hc
  obtain ⟨fs, hfs⟩ := ob_cell o3
  refine mm_callV (As := [.int 1]) (rest := []) dL_fails_50 kML_30 rfl hfs rfl rfl (Nat.le_of_ble_eq_true rfl) (d2 := 0) (by omega) (k2 := 0) (Nat.zero_le _) (u2 := 0) (Nat.zero_le _) (hc) (fun r1 h7 q3 => ?_)
  obtain ⟨rfl, o4, g4⟩ := q3
  refine am_iconst (v := (-1)) dL_fails_53 (by decide) ?_
  refine am_icmp_ne dL_fails_54 (by decide : ((54 : Nat) : Int) + (7) = ((61 : Nat) : Int)) (fun zq => absurd zq (fun z => z rfl)) (fun _ => ?_)
  refine am_iconst (v := 1) dL_fails_57 (by decide) ?_
  refine am_goto dL_fails_58 (by decide : ((58 : Nat) : Int) + (4) = ((62 : Nat) : Int)) ?_
  exact am_ireturn dL_fails_62 rfl rfl ⟨rfl, w2, o4, og_T g2 (og_T g3 g4), E2⟩
end ERR
theorem ek_0 : mOk (fX7_load (mTx sq38.2.2.2 0 (-1))) 2 10 = true := by decide +kernel
theorem ek_1 : mOk (fX7_load (mTx sq39.2.2.2 2 10)) 3 8 = true := by decide +kernel
theorem ek_2 : mOk (fX7_load (mTx sq40.2.2.2 3 8)) 2 4 = true := by decide +kernel
theorem ek_3 : mOk (fX7_load (mTx (sq37.2.2.2 ++ sq37.2.2.2) 2 4)) 3 17 = true := by decide +kernel
theorem ek_4 : mOk (fX7_load (mTx (sq37.2.2.2 ++ sq41.2.2.2) 3 17)) 1 17 = true := by decide +kernel
theorem ek_5 : mOk (fX7_load (mTx (sq37.2.2.2 ++ sq42.2.2.2) 1 17)) 2 19 = true := by decide +kernel
theorem ek_6 : mOk (fX7_load (mTx sq43.2.2.2 2 19)) 2 8 = true := by decide +kernel
theorem ek_7 : mOk (fX7_load (mTx sq44.2.2.2 2 8)) 2 11 = true := by decide +kernel
theorem ek_8 : mOk (fX7_load (mTx (sq37.2.2.2 ++ sq45.2.2.2) 2 11)) 4 18 = true := by decide +kernel
theorem ek_9 : mOk (fX7_load (mTx (sq37.2.2.2 ++ sq46.2.2.2) 4 18)) 1 20 = true := by decide +kernel
theorem ek_10 : mOk (fX7_load (mTx (sq37.2.2.2 ++ sq47.2.2.2) 1 20)) 2 29 = true := by decide +kernel
theorem ek_11 : mOk (fX7_load (mTx (sq37.2.2.2 ++ sq48.2.2.2) 2 29)) 2 37 = true := by decide +kernel
theorem ek_12 : mOk (fX7_load (mTx (sq37.2.2.2 ++ sq49.2.2.2) 2 37)) 5 64 = true := by decide +kernel
theorem ek_13 : mOk (fX7_load (mTx (sq37.2.2.2 ++ sq50.2.2.2) 5 64)) 5 40 = true := by decide +kernel
theorem ek_14 : mOk (fX7_load (mTx (sq37.2.2.2 ++ sq51.2.2.2) 5 40)) 1 23 = true := by decide +kernel
theorem ek_15 : mOk (fX7_load (mTx (sq37.2.2.2 ++ sq52.2.2.2) 1 23)) 1 12 = true := by decide +kernel
