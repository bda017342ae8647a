/-! Reading a right text, the class alone: a piece. -/
def kdW (kd : Nat) : List Int32 := (kdq kd).2.2.2
theorem kd_L : ∀ kd, kd < 3 → (∀ c, c ∈ kdW kd → isL c) ∧ kdW kd ≠ [] := by
  intro kd h
  have hb : ∀ (K : List Int32), K.all (fun c => decide (97 ≤ c.toNatClampNeg) && decide (c.toNatClampNeg ≤ 122) && decide (c = nI c.toNatClampNeg)) = true → ∀ c, c ∈ K → isL c := by
    intro K hK c hc
    have := List.all_eq_true.mp hK c hc
    simp only [Bool.and_eq_true, decide_eq_true_eq] at this
    exact ⟨c.toNatClampNeg, this.1.1, this.1.2, this.2⟩
  rcases (show kd = 0 ∨ kd = 1 ∨ kd = 2 by omega) with rfl | rfl | rfl
  · exact ⟨hb _ (by decide +kernel), by decide +kernel⟩
  · exact ⟨hb _ (by decide +kernel), by decide +kernel⟩
  · exact ⟨hb _ (by decide +kernel), by decide +kernel⟩
section RC
variable {T R : List Int32} {w : Wd}
theorem rk_ok {kd : Nat} (hk : kd < 3) (h : TW T w (kdW kd) R) : fX4_readKind w = (nI kd, fX4_advance w) := by
  unfold fX4_readKind
  rw [sp_w h okq_8, sp_w h okq_9, sp_w h okq_7]
  rcases (show kd = 0 ∨ kd = 1 ∨ kd = 2 by omega) with rfl | rfl | rfl
  · have e8 : ¬ kdW 0 = sq8.2.2.2 := by decide +kernel
    have e9 : ¬ kdW 0 = sq9.2.2.2 := by decide +kernel
    have e7 : kdW 0 = sq7.2.2.2 := by decide +kernel
    rw [if_neg e8, if_neg e9, if_pos e7]
    rfl
  · have e8 : kdW 1 = sq8.2.2.2 := by decide +kernel
    rw [if_pos e8]
    rfl
  · have e8 : ¬ kdW 2 = sq8.2.2.2 := by decide +kernel
    have e9 : kdW 2 = sq9.2.2.2 := by decide +kernel
    rw [if_neg e8, if_pos e9]
    rfl
theorem rs_piece {X : List Int32} {L : List Nat} {i y ny kd a b : Nat} (h : TW T w X (nI 32 :: (nmW L ++ (nI 32 :: (kdW kd ++ (nI 32 :: (numB a ++ (nI 32 :: (numB b ++ (nI 59 :: R)))))))))) (hc : w.1 1 = 0) (hi : i < 14) (hn : (w.2.2.1 0).1 8 = nI i) (hL : hz_nmL L) (hk : ∀ k, k ∈ kwL → ¬ nmW L = k) (hny : (w.2.2.1 0).1 0 = nI ny) (hny6 : ny ≤ 6) (hy : y < ny) (hd : (w.2.2.1 0).2 0 y = nI (hz_e5 L)) (hd2 : ∀ j, j < y → ¬ (w.2.2.1 0).2 0 j = nI (hz_e5 L)) (hkd : kd < 3) (ha : 500 ≤ a ∧ a ≤ 9999) (hb : 0 ≤ b ∧ b ≤ 255) : ∃ w1, fX4_readPiece_6 w = w1 ∧ NT T w1 R ∧ RF w w1 ∧ (∀ k, 8 ≤ k → k ≤ 10 → w1.1 k = w.1 k) ∧ (w1.2.2.1 0).1 8 = nI (i + 1) ∧ (∀ k, ¬ k = 8 → (w1.2.2.1 0).1 k = (w.2.2.1 0).1 k) ∧ (w1.2.2.1 0).2 8 = upd ((w.2.2.1 0).2 8) i (nI y) ∧ (w1.2.2.1 0).2 9 = upd ((w.2.2.1 0).2 9) i (nI kd) ∧ (w1.2.2.1 0).2 10 = upd ((w.2.2.1 0).2 10) i (nI a) ∧ (w1.2.2.1 0).2 11 = upd ((w.2.2.1 0).2 11) i (nI a) ∧ (w1.2.2.1 0).2 12 = upd ((w.2.2.1 0).2 12) i (nI b) ∧ (w1.2.2.1 0).2 13 = upd ((w.2.2.1 0).2 13) i 0 ∧ (∀ r, r < 8 → (w1.2.2.1 0).2 r = (w.2.2.1 0).2 r) := by
  obtain ⟨a1, f1⟩ := w_32 h.1 (nmW_L hL).1 (nmW_L hL).2 (nlt_32 _)
  have e5 : fX4_startStatement w (if ((w.2.2.1 0).1 8) < 14 then 0 else 1) 5 = fX4_advance w := by rw [hn, if_pos (by rw [show (14 : Int32) = nI 14 from rfl, nI_ltI (by omega) (by decide)]; exact hi)]; exact sS_0 w 5
  generalize hr5 : fX4_advance w = r5 at a1 f1 e5
  have p5 : r5.2 = w.2 := f1.2
  have en := nh_w hL hk a1
  obtain ⟨a2, f2⟩ := w_32 a1.1 (kd_L kd hkd).1 (kd_L kd hkd).2 (nlt_32 _)
  have eix : fX6_indexOfName 6 ((r5.2.2.1 0).2 0) ((r5.2.2.1 0).1 0) (nI (hz_e5 L)) = nI y := by
    rw [p5, hny]
    exact ix_ok (by omega) (by decide) hy hd hd2
  have e14 : fX4_takeKnownYarn_6 r5 (fX4_nameHere r5) = (nI y, fX4_advance r5) := by
    unfold fX4_takeKnownYarn_6
    rw [en, if_neg (nm_ne hL), eix, if_neg (hz_nIm1 (by omega))]
    rfl
  generalize hr14 : fX4_advance r5 = r14 at a2 f2 e14
  have e20 := rk_ok hkd a2
  obtain ⟨a3, f3⟩ := n_32 a2.1 (by omega) (ndg_32 _)
  generalize hr20 : fX4_advance r14 = r20 at a3 f3 e20
  have e26 := sN_ok a3 (a := 500) (b := 9999) ha.1 ha.2 (by decide)
  obtain ⟨a4, f4⟩ := n_32 a3.1 (by omega) (ndg_59 _)
  generalize hr26 : fX4_advance r20 = r26 at a4 f4 e26
  have e32 := sN_ok a4 (a := 0) (b := 255) hb.1 hb.2 (by decide)
  obtain ⟨a5, f5⟩ := y_59 a4.1
  generalize hr32 : fX4_advance r26 = r32 at a5 f5 e32
  have e62 : (if fX4_spells r32 sq10 = 0 then ((1 : Int32), r32) else fX4_readTimes r32) = (1, r32) := if_pos (sp_n (by rw [a5.2.1]; decide) sq10)
  have e68 := sE_ok a5
  have fE := adv_fw r32
  have hN : NT T (fX4_advance r32) R := ⟨r32, a5.1, fun _ _ _ => rfl, rfl⟩
  generalize hrE : fX4_advance r32 = rE at fE hN e68
  have er := hz_rP w r5 rE (nI y, r14) (nI kd, r20) (nI a, r26) (nI b, r32) (1, r32) e5 e14 e20 e26 e32 e62 e68
  have fA : hz_fw w rE := fw_T (fw_T (fw_T (fw_T (fw_T f1 f2) f3) f4) f5) fE
  have pE : rE.2 = w.2 := fA.2
  have cE : rE.1 1 = 0 := (fA.1 1 (by decide) (by decide) (by decide) (by decide)).trans hc
  have hnE : (rE.2.2.1 0).1 8 = nI i := by rw [pE]; exact hn
  have el : (fX4_readPiece_6_85 1 (nI b) (nI a) (nI kd) (nI y) (fuU 1 0) 0 rE).2 = wP rE 0 (fX5_addPiece (rE.2.2.1 0) (nI y) (nI kd) (nI a) (nI b)) := by
    have hf : fuU 1 0 = 2 := hz_fu0 (n := 1) (by decide)
    rw [hf]
    have g2 : fX4_readPiece_6_85 1 (nI b) (nI a) (nI kd) (nI y) 2 0 rE = (if (1 : Int32) ≤ 0 then ((0 : Int32), rE) else (if (rE.1 1) = 0 then (fX4_readPiece_6_85 1 (nI b) (nI a) (nI kd) (nI y) 1 (0 + 1) (wP rE 0 (fX5_addPiece (rE.2.2.1 0) (nI y) (nI kd) (nI a) (nI b)))) else ((0 : Int32), rE))) := rfl
    rw [g2, if_neg (by decide), if_pos cE]
    generalize wP rE 0 (fX5_addPiece (rE.2.2.1 0) (nI y) (nI kd) (nI a) (nI b)) = Z
    have g1 : fX4_readPiece_6_85 1 (nI b) (nI a) (nI kd) (nI y) 1 (0 + 1) Z = (if (1 : Int32) ≤ 0 + 1 then ((0 : Int32) + 1, Z) else (if (Z.1 1) = 0 then (fX4_readPiece_6_85 1 (nI b) (nI a) (nI kd) (nI y) 0 (0 + 1 + 1) (wP Z 0 (fX5_addPiece (Z.2.2.1 0) (nI y) (nI kd) (nI a) (nI b)))) else ((0 : Int32) + 1, Z))) := rfl
    rw [g1, if_pos (by decide)]
  have er2 : fX4_readPiece_6 w = wP rE 0 (fX5_addPiece (rE.2.2.1 0) (nI y) (nI kd) (nI a) (nI b)) := er.trans el
  have hadd : fX5_addPiece (rE.2.2.1 0) (nI y) (nI kd) (nI a) (nI b) = upS (upR (upR (upR (upR (upR (upR (rE.2.2.1 0) 8 (upd ((rE.2.2.1 0).2 8) i (nI y))) 9 (upd ((rE.2.2.1 0).2 9) i (nI kd))) 10 (upd ((rE.2.2.1 0).2 10) i (nI a))) 11 (upd ((rE.2.2.1 0).2 11) i (nI a))) 12 (upd ((rE.2.2.1 0).2 12) i (nI b))) 13 (upd ((rE.2.2.1 0).2 13) i 0)) 8 (nI (i + 1)) := by
    have pu : ∀ (f : Nat → Int32) (v : Int32), fX6_put 14 f (nI i) v = upd f i v := fun f v => put_nI f v hi (by decide)
    unfold fX5_addPiece
    rw [hnE, if_pos (by rw [show (14 : Int32) = nI 14 from rfl, nI_ltI (by omega) (by decide)]; exact hi), pu, pu, pu]
    show upS (upR (upR (upR _ 11 (fX6_put 14 _ ((rE.2.2.1 0).1 8) _)) 12 (fX6_put 14 _ ((rE.2.2.1 0).1 8) _)) 13 (fX6_put 14 _ ((rE.2.2.1 0).1 8) _)) 8 ((rE.2.2.1 0).1 8 + 1) = _
    rw [hnE, pu, pu, pu, nI_1]
    rfl
  rw [hadd] at er2
  refine ⟨_, er2, ?_, ?_, ?_, ?_, ?_, ?_, ?_, ?_, ?_, ?_, ?_, ?_⟩
  · obtain ⟨w0, b1, b2⟩ := hN
    exact ⟨w0, b1, b2.1, b2.2⟩
  · refine ⟨fun k hk => (rf_fw fA).1 k hk, (rf_fw fA).2.1, fun q hq => ?_, (rf_fw fA).2.2.2⟩
    have e := (rf_fw fA).2.2.1 q hq
    exact (if_neg hq).trans e
  · exact fun k h1 h2 => fA.1 k (by omega) (by omega) (by omega) (by omega)
  · rfl
  · intro k hk
    rw [← pE]
    exact if_neg hk
  · rw [← pE]; rfl
  · rw [← pE]; rfl
  · rw [← pE]; rfl
  · rw [← pE]; rfl
  · rw [← pE]; rfl
  · rw [← pE]; rfl
  · intro r hr
    rw [← pE]
    show (if r = 13 then _ else if r = 12 then _ else if r = 11 then _ else if r = 10 then _ else if r = 9 then _ else if r = 8 then _ else (rE.2.2.1 0).2 r) = _
    rw [if_neg (by omega), if_neg (by omega), if_neg (by omega), if_neg (by omega), if_neg (by omega), if_neg (by omega)]
end RC
