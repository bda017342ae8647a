/-! The best shade: both sides agree. -/
section HZZ
variable {w : Wd} {m : Md} {ny ns nz np : Nat}
theorem hz_bD6 (w : Wd) (z1 : Int32) (F : Nat) (hF : fuL 255 0 = F) : fX6_bestDye w z1 = (if (fX6_isPiece w z1) = 0 then ((-2), w) else (if (fX5_isBoarded (w.2.2.1 1) z1) = 0 then ((-6), w) else ((fX6_bestDye_62 z1 (fX6_at 14 ((w.2.2.1 1).2 12) z1) F 0 (-1) 0 (-1) (fX6_at 14 ((w.2.2.1 1).2 12) z1) (wP w 2 (fX5_copyFrom (w.2.2.1 2) (w.2.2.1 1)))).2.2.2.2.1, (fX6_bestDye_62 z1 (fX6_at 14 ((w.2.2.1 1).2 12) z1) F 0 (-1) 0 (-1) (fX6_at 14 ((w.2.2.1 1).2 12) z1) (wP w 2 (fX5_copyFrom (w.2.2.1 2) (w.2.2.1 1)))).2.2.2.2.2))) := by
  subst hF; rfl
theorem hz_bD7 (m : Md) (z1 : Int32) (F : Nat) (hF : fuL 255 1 = F) : fX7_bestDye m z1 = (if (fX7_isPiece m z1) = 0 then ((-2), m) else (if (fX7_isIn m z1 1) = 0 then ((-6), m) else ((fX7_bestDye_41 z1 (fX7_field m z1 4) F 1 (fX7_countPairs m).1 (fX7_field m z1 4) (fX7_countPairs m).2).2.2.1, (fX7_bestDye_41 z1 (fX7_field m z1 4) F 1 (fX7_countPairs m).1 (fX7_field m z1 4) (fX7_countPairs m).2).2.2.2))) := by
  subst hF; rfl
theorem hz_bDs (m : Md) (z1 : Int32) (F : Nat) (hF : fuL 255 1 = F) : sX7_bestDye m z1 = ((sX7_isPiece m z1) ∧ (((fX7_isPiece m z1) = 0 → True) ∧ (¬ (fX7_isPiece m z1) = 0 → ((sX7_isIn m z1 1) ∧ (((fX7_isIn m z1 1) = 0 → True) ∧ (¬ (fX7_isIn m z1 1) = 0 → ((sX7_field m z1 4) ∧ ((sX7_countPairs m ) ∧ ((sX7_bestDye_41 z1 (fX7_field m z1 4) F 1 (fX7_countPairs m).1 (fX7_field m z1 4) (fX7_countPairs m).2) ∧ True))))))))) := by
  subst hF; rfl
theorem hz_bDe {n r : Nat} {K : Nat → Nat} {now : Nat} {X : Int32 × Int32 × Int32 × Int32 × Int32 × Wd} {Y : Int32 × Int32 × Int32 × Md} (h : hz_RP w m ny ns nz np) (hr : r ≤ 1000 * n) (hK : hz_RK w np) (hH : hz_hist w m) (hI : hz_inp w m) (hE : hz_err w m) (hO : hz_outp w m) (hnow : now ≤ 255) (LC : ∃ b, hz_bs K now (fun t => t < 256) b ∧ X.2.2.2.2.1 = nI b ∧ hz_skp w X.2.2.2.2.2 ∧ ∃ r1, r1 + 0 ≤ r + 256 ∧ hz_mo X.2.2.2.2.2 r1) (LM : ∃ c, hz_bs K now (fun t => t ≤ 255 ∧ hz_ds now t < 256) c ∧ Y.2.2.1 = nI c ∧ hz_mq m Y.2.2.2) : X.2.2.2.2.1 = Y.2.2.1 ∧ hz_R (n + 1) X.2.2.2.2.2 Y.2.2.2 := by
  obtain ⟨b, b1, b2, b3, r1, b4, b5⟩ := LC
  obtain ⟨c, c1', c2', c3'⟩ := LM
  have hD : ∀ t, (t ≤ 255 ∧ hz_ds now t < 256) ↔ t < 256 := fun t => by
    constructor
    · rintro ⟨t1, t2⟩
      omega
    · intro t1
      refine ⟨by omega, ?_⟩
      unfold hz_ds
      split <;> omega
  have ebc : b = c := hz_bsU b1 (hz_bsC c1' hD)
  refine ⟨by rw [b2, c2', ebc], hz_PDf h hK hH hI hE hO b3 c3' b5 (by omega)⟩
theorem hz_bD9 (h : hz_RP w m ny ns nz np) {a r now FC : Nat} (ha : a < np) (hnow : now ≤ 255) (hfuC : 256 < FC + 0) (hr : r ≤ 1000000) (hmo : hz_mo w r) : ∃ X, X = (fX6_bestDye_62 (nI a) (nI now) FC 0 (-1) 0 (-1) (nI now) (wP w 2 (fX5_copyFrom (w.2.2.1 2) (w.2.2.1 1)))) ∧ ∃ b, hz_bs (hz_Ks (w.2.2.1 1) np a) now (fun t => t < 256) b ∧ X.2.2.2.2.1 = nI b ∧ hz_skp w X.2.2.2.2.2 ∧ ∃ r1, r1 + 0 ≤ r + 256 ∧ hz_mo X.2.2.2.2.2 r1 := by
  have LC := hl_dyeC h ha hnow FC 0 r (-1) 0 (-1) (nI now) (wP w 2 (fX5_copyFrom (w.2.2.1 2) (w.2.2.1 1))) (m.2.1 0) (by omega) hfuC (by omega) (hz_skpP w _) hmo (hz_cp h.2 (fun _ _ => rfl)) (fun _ _ _ => rfl) (Or.inl rfl) (Or.inl ⟨rfl, rfl, rfl⟩)
  rw [nI_0] at LC
  exact ⟨_, rfl, LC⟩
theorem hz_bD5 (h : hz_RP w m ny ns nz np) {a now K FM : Nat} (ha : a < np) (hnow : now ≤ 255) (hfuM : 256 < FM + 1) (eK : hz_Ks (w.2.2.1 1) np a now = K) (v : Md) (hv : hz_mq m v) : sX7_bestDye_41 (nI a) (nI now) FM 1 (nI K) (nI now) v ∧ ∃ Y, fX7_bestDye_41 (nI a) (nI now) FM 1 (nI K) (nI now) v = Y ∧ ∃ c, hz_bs (hz_Ks (w.2.2.1 1) np a) now (fun t => t ≤ 255 ∧ hz_ds now t < 256) c ∧ Y.2.2.1 = nI c ∧ hz_mq m Y.2.2.2 := by
  have ds0 : hz_ds now now = 0 := by unfold hz_ds; rw [if_pos (Nat.le_refl _)]; omega
  have LM := hl_41 h ha hnow FM 1 now v (Nat.le_refl _) (by omega) hfuM hv hnow ⟨⟨hnow, by rw [ds0]; omega⟩, fun t ht => by
    have e0 := ht.2
    have : t = now := by
      unfold hz_ds at e0
      split at e0 <;> omega
    rw [this]; omega⟩
  rw [show nI 1 = 1 from rfl, eK] at LM
  exact ⟨LM.1, _, rfl, LM.2⟩
theorem hp_bestDye {n : Nat} (hn : n ≤ 1000) (hR : hz_R n w m) (z : Int32) : sX7_bestDye m z ∧ (fX6_bestDye w z).1 = (fX7_bestDye m z).1 ∧ hz_R (n + 1) (fX6_bestDye w z).2 (fX7_bestDye m z).2 := by
  have hR0 := hR
  obtain ⟨ny, ns, nz, np, r, h, ⟨hr, hmo⟩, hK, hH, hI, hE, hO⟩ := hR
  have hn14 : np ≤ 14 := h.2.2.1.2.2.2
  obtain ⟨sz, e1, e2⟩ := hz_pz h z
  have hfuC : 256 < fuL 255 0 + 0 := by
    unfold fuL
    rw [show (255 : Int32).toInt = 255 from rfl, show (0 : Int32).toInt = 0 from rfl]
    omega
  have hfuM : 256 < fuL 255 1 + 1 := by
    unfold fuL
    rw [show (255 : Int32).toInt = 255 from rfl, show (1 : Int32).toInt = 1 from rfl]
    omega
  rw [hz_bD6 w z _ rfl, hz_bD7 m z _ rfl, hz_bDs m z _ rfl]
  generalize fuL 255 0 = FC at *
  generalize fuL 255 1 = FM at *
  rw [e1, e2]
  by_cases c1 : hz_is np z = 0
  · rw [if_pos c1, if_pos c1]
    exact ⟨⟨sz, fun _ => trivial, fun h => absurd c1 h⟩, rfl, hz_Rup hR0 (by omega)⟩
  · obtain ⟨a, ha, rfl⟩ := hz_is_of (by omega) c1
    obtain ⟨i1, i2⟩ := hz_isIn (hz_rp h) ha 1
    have ei : fX5_isBoarded (w.2.2.1 1) (nI a) = fX7_isIn m (nI a) 1 := by rw [i1]; rfl
    rw [if_neg c1, if_neg c1, ei]
    by_cases c2 : fX7_isIn m (nI a) 1 = 0
    · rw [if_pos c2, if_pos c2]
      exact ⟨⟨sz, fun h => absurd h c1, fun _ => ⟨i2, fun _ => trivial, fun h => absurd c2 h⟩⟩, rfl, hz_Rup hR0 (by omega)⟩
    · obtain ⟨-, -, -, -, f4, -⟩ := hz_f (hz_rp h) ha
      have s4 := (hz_fs m (show a < 14 by omega)).2.2.2.2.1
      obtain ⟨now, n0, hnow, enow⟩ := hz_rgN (a := 0) (b := 255) (hz_len (hz_rp h) ha).2.2 (by omega)
      rw [if_neg c2, if_neg c2, f4, enow]
      have hn2 : m.2.2 ≤ 2 := by rw [h.1]; omega
      obtain ⟨s5, ⟨K, k7, ek, k1, -⟩, kk, -⟩ := hz_cntP (hz_rp h) hn2
      -- the present shade's pairs
      have hpn : hz_PR (hz_q (w.2.2.1 1) a now) (m.2.1 0) ny ns nz np := hz_fr (hz_qP h.2 ha hnow) (fun _ _ => rfl) (fun _ _ _ _ => rfl) (fun j hj => by
        by_cases e : j = 66 + 6 * a
        · rw [e, pk_us, ← enow, hz_at _ (show a < 14 by omega) (by decide)]
          exact (h.2.2.2.2.2.2.2.2.2 a ha).1.2.2.2.2.1
        · rw [pk_un e])
      have eK : hz_Ks (w.2.2.1 1) np a now = K := by
        unfold hz_Ks
        rw [← (hz_Af h.2 hpn).1, k1]
        omega
      obtain ⟨X, eX, LC⟩ := hz_bD9 h ha hnow hfuC (by omega) hmo
      obtain ⟨m1, Y, eY, LM⟩ := hz_bD5 h ha hnow hfuM eK (fX7_countPairs m).2 (hz_mqk kk (by omega))
      have E := hz_bDe h hr hK hH hI hE hO hnow LC LM
      rw [← eX, ek, eY]
      exact ⟨⟨sz, fun h => absurd h c1, fun _ => ⟨i2, fun h => absurd h c2, fun _ => ⟨s4, s5, m1, trivial⟩⟩⟩, E.1, E.2⟩
end HZZ
