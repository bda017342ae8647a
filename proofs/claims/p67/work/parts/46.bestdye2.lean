/-! The best shade for a piece, by the model. -/
theorem hz_bsA {K : Nat → Nat} {now : Nat} {D : Nat → Prop} {b s : Nat} (h : hz_bs K now D b) (hs : hz_ds now b < hz_ds now s ∨ (hz_ds now b = hz_ds now s ∧ b ≤ s)) : (K b < K s → hz_bs K now (fun t => D t ∨ t = s) s) ∧ (¬ K b < K s → hz_bs K now (fun t => D t ∨ t = s) b) := by
  refine ⟨fun hl => ⟨Or.inr rfl, fun t ht => ?_⟩, fun hl => ⟨Or.inl h.1, fun t ht => ?_⟩⟩
  · rcases ht with ht | ht
    · have := h.2 t ht; omega
    · rw [ht]; omega
  · rcases ht with ht | ht
    · exact h.2 t ht
    · rw [ht]; omega
section HZZ
variable {w : Wd} {m : Md} {ny ns nz np : Nat}
theorem hz_dy1 (h : hz_RP w m ny ns nz np) {a s : Nat} (ha : a < np) (hs : s ≤ 255) : sX7_pairsDyed m (nI a) (nI s) ∧ (fX7_pairsDyed m (nI a) (nI s)).1 = nI (hz_Ks (w.2.2.1 1) np a s) ∧ hz_mq m (fX7_pairsDyed m (nI a) (nI s)).2 := by
  have hn : np ≤ 14 := h.2.2.1.2.2.2
  obtain ⟨st, a1, a2, a3, a4⟩ := hz_start m
  have g4 : fX7_at (nI a) 4 = nI (66 + 6 * a) := by rw [show 66 + 6 * a = 62 + 6 * a + 4 by omega]; exact hz_ia3 62 6 4 a
  have hP0 : hz_PR (w.2.2.1 1) ((fX7_startPrediction m).2.1 2) ny ns nz np := hz_fr h.2 (fun _ _ => rfl) (fun _ _ _ _ => rfl) a4
  unfold sX7_pairsDyed fX7_pairsDyed
  simp only [bnd]
  rw [a2, g4, nI_clamp (by omega)]
  generalize hX : mA (fX7_startPrediction m) 2 (upd ((fX7_startPrediction m).2.1 2) (66 + 6 * a) (nI s)) = X
  have x2 : X.2.2 = 2 := by rw [← hX]; exact a2
  have xr : X.2.1 2 = upd ((fX7_startPrediction m).2.1 2) (66 + 6 * a) (nI s) := by rw [← hX, hz_mAs]
  have hPX : hz_PR (hz_q (w.2.2.1 1) a s) (X.2.1 X.2.2) ny ns nz np := by rw [x2, xr]; exact hz_qP hP0 ha hs
  obtain ⟨s2, ⟨K, k7, e, k1, -⟩, kk, -⟩ := hz_cntP hPX (by omega)
  refine ⟨⟨st, vp_in_nI (by omega) (by omega), s2, trivial⟩, ?_, hz_mqN h.1 (fun q _ => ?_) (fun q h1 h2 h3 h4 => ?_)⟩
  · rw [e]
    obtain ⟨q7, qW⟩ := hz_KsV h.2 ha hs
    congr 1
    omega
  · rw [kk.1, ← hX]
    show (fX7_startPrediction m).1 q = _
    rw [a1]
  · rw [kk.2.2 q (by omega), ← hX]
    show (if q = 2 then _ else (fX7_startPrediction m).2.1 q) = _
    rw [if_neg h1]
    exact a3 q h1
theorem hz_52f (z1 o5 o2 : Int32) (fu : Nat) (x6 x4 x3 : Int32) (y : Md) : fX7_bestDye_52 z1 o5 o2 (fu + 1) x6 x4 x3 y = (if 1 < x6 then (x6, x4, x3, y) else (if (fX7_in ((o2 + (x6 * o5)).toInt64) 0 255) = 0 then (fX7_bestDye_52 z1 o5 o2 fu (x6 + 2) x4 x3 y) else (if x4 < (fX7_pairsDyed y z1 (o2 + (x6 * o5))).1 then (fX7_bestDye_52 z1 o5 o2 fu (x6 + 2) (fX7_pairsDyed y z1 (o2 + (x6 * o5))).1 (o2 + (x6 * o5)) (fX7_pairsDyed y z1 (o2 + (x6 * o5))).2) else (fX7_bestDye_52 z1 o5 o2 fu (x6 + 2) x4 x3 (fX7_pairsDyed y z1 (o2 + (x6 * o5))).2)))) := rfl
theorem hz_52s (z1 o5 o2 : Int32) (fu : Nat) (x6 x4 x3 : Int32) (y : Md) : sX7_bestDye_52 z1 o5 o2 (fu + 1) x6 x4 x3 y = ((1 < x6 → True) ∧ (¬ 1 < x6 → (((fX7_in ((o2 + (x6 * o5)).toInt64) 0 255) = 0 → (sX7_bestDye_52 z1 o5 o2 fu (x6 + 2) x4 x3 y)) ∧ (¬ (fX7_in ((o2 + (x6 * o5)).toInt64) 0 255) = 0 → ((sX7_pairsDyed y z1 (o2 + (x6 * o5))) ∧ ((x4 < (fX7_pairsDyed y z1 (o2 + (x6 * o5))).1 → (sX7_bestDye_52 z1 o5 o2 fu (x6 + 2) (fX7_pairsDyed y z1 (o2 + (x6 * o5))).1 (o2 + (x6 * o5)) (fX7_pairsDyed y z1 (o2 + (x6 * o5))).2)) ∧ (¬ x4 < (fX7_pairsDyed y z1 (o2 + (x6 * o5))).1 → (sX7_bestDye_52 z1 o5 o2 fu (x6 + 2) x4 x3 (fX7_pairsDyed y z1 (o2 + (x6 * o5))).2)))))))) := rfl
theorem hl_52 (h : hz_RP w m ny ns nz np) {a : Nat} (ha : a < np) {now d : Nat} (hnow : now ≤ 255) (h1 : 1 ≤ d) (hd : d ≤ 255) (F : Nat) {b : Nat} (v : Md) (hm : hz_mq m v) (hb255 : b ≤ 255) (hb : hz_bs (hz_Ks (w.2.2.1 1) np a) now (fun t => t ≤ 255 ∧ hz_ds now t < d) b) : sX7_bestDye_52 (nI a) (nI d) (nI now) (F + 1 + 1 + 1) (-1) (nI (hz_Ks (w.2.2.1 1) np a b)) (nI b) v ∧ ∃ c, c ≤ 255 ∧ hz_bs (hz_Ks (w.2.2.1 1) np a) now (fun t => t ≤ 255 ∧ hz_ds now t < d + 1) c ∧ (fX7_bestDye_52 (nI a) (nI d) (nI now) (F + 1 + 1 + 1) (-1) (nI (hz_Ks (w.2.2.1 1) np a b)) (nI b) v).2.1 = nI (hz_Ks (w.2.2.1 1) np a c) ∧ (fX7_bestDye_52 (nI a) (nI d) (nI now) (F + 1 + 1 + 1) (-1) (nI (hz_Ks (w.2.2.1 1) np a b)) (nI b) v).2.2.1 = nI c ∧ hz_mq m (fX7_bestDye_52 (nI a) (nI d) (nI now) (F + 1 + 1 + 1) (-1) (nI (hz_Ks (w.2.2.1 1) np a b)) (nI b) v).2.2.2 := by
  -- the third time round nothing is done
  have s3 : ∀ x y (v : Md), sX7_bestDye_52 (nI a) (nI d) (nI now) (F + 1) 3 x y v ∧ fX7_bestDye_52 (nI a) (nI d) (nI now) (F + 1) 3 x y v = (3, x, y, v) := fun x y v => by
    rw [hz_52f, hz_52s, if_pos (show (1 : Int32) < 3 by decide)]
    exact ⟨⟨fun _ => trivial, fun h => absurd (show (1 : Int32) < 3 by decide) h⟩, rfl⟩
  -- the upper side
  have s2 : ∀ (v : Md) (b : Nat), hz_mq m v → b ≤ 255 → hz_bs (hz_Ks (w.2.2.1 1) np a) now (fun t => t ≤ 255 ∧ (hz_ds now t < d ∨ (hz_ds now t = d ∧ t ≤ now))) b → sX7_bestDye_52 (nI a) (nI d) (nI now) (F + 1 + 1) 1 (nI (hz_Ks (w.2.2.1 1) np a b)) (nI b) v ∧ ∃ c, c ≤ 255 ∧ hz_bs (hz_Ks (w.2.2.1 1) np a) now (fun t => t ≤ 255 ∧ hz_ds now t < d + 1) c ∧ (fX7_bestDye_52 (nI a) (nI d) (nI now) (F + 1 + 1) 1 (nI (hz_Ks (w.2.2.1 1) np a b)) (nI b) v).2.1 = nI (hz_Ks (w.2.2.1 1) np a c) ∧ (fX7_bestDye_52 (nI a) (nI d) (nI now) (F + 1 + 1) 1 (nI (hz_Ks (w.2.2.1 1) np a b)) (nI b) v).2.2.1 = nI c ∧ hz_mq m (fX7_bestDye_52 (nI a) (nI d) (nI now) (F + 1 + 1) 1 (nI (hz_Ks (w.2.2.1 1) np a b)) (nI b) v).2.2.2 := fun v b hm hb255 hb => by
    have h' := hz_RPs h (hz_skp0 w) hm
    have es : nI now + ((1 : Int32) * nI d) = nI (now + d) := by rw [show (1 : Int32) = nI 1 from rfl, pk_mul, Nat.one_mul, nI_add]
    have ei : fX7_in ((nI (now + d)).toInt64) 0 255 = fX6_isBetween (nI (now + d)) 0 255 := hz_in _ 0 255
    rw [hz_52f, hz_52s, if_neg (show ¬ (1 : Int32) < 1 by decide), es, ei, show (1 : Int32) + 2 = 3 from rfl]
    by_cases c : now + d ≤ 255
    · have e1 : fX6_isBetween (nI (now + d)) 0 255 = 1 := by
        unfold fX6_isBetween
        rw [if_neg (nI_pos (by omega)), if_neg (show ¬ (255 : Int32) < nI (now + d) from nI_nlt (a := now + d) (b := 255) |> fun _ => by
          have : ¬ nI 255 < nI (now + d) := by rw [nI_ltI (by omega) (by omega)]; omega
          exact this)]
      obtain ⟨d1, d2, d3⟩ := hz_dy1 h' ha (s := now + d) c
      have eds : hz_ds now (now + d) = d := by unfold hz_ds; rw [if_pos (by omega)]; omega
      obtain ⟨k1, -⟩ := hz_KsV h.2 ha hb255
      obtain ⟨k2, -⟩ := hz_KsV h.2 ha c
      have hA := hz_bsA (s := now + d) hb (by
        have := hb.1.2
        rw [eds]
        rcases this with t | ⟨t1, t2⟩
        · exact Or.inl t
        · exact Or.inr ⟨t1, by omega⟩)
      have hD : ∀ t, ((t ≤ 255 ∧ (hz_ds now t < d ∨ (hz_ds now t = d ∧ t ≤ now))) ∨ t = now + d) ↔ (t ≤ 255 ∧ hz_ds now t < d + 1) := fun t => by
        constructor
        · rintro (⟨t1, t2⟩ | t1)
          · exact ⟨t1, by omega⟩
          · rw [t1, eds]; omega
        · rintro ⟨t1, t2⟩
          by_cases e : hz_ds now t < d
          · exact Or.inl ⟨t1, Or.inl e⟩
          · by_cases e2 : t ≤ now
            · exact Or.inl ⟨t1, Or.inr ⟨by omega, e2⟩⟩
            · right
              unfold hz_ds at e t2
              rw [if_pos (by omega)] at e t2
              omega
      rw [e1, if_neg (by decide), d2]
      have hmv := hz_mqT hm d3
      by_cases cl : nI (hz_Ks (w.2.2.1 1) np a b) < nI (hz_Ks (w.2.2.1 1) np a (now + d))
      · have cl' := cl
        rw [nI_ltI (by omega) (by omega)] at cl'
        obtain ⟨t1, t2⟩ := s3 (nI (hz_Ks (w.2.2.1 1) np a (now + d))) (nI (now + d)) (fX7_pairsDyed v (nI a) (nI (now + d))).2
        rw [if_pos cl, t2]
        exact ⟨⟨fun h => absurd h (by decide), fun _ => ⟨fun h => absurd h (by decide), fun _ => ⟨d1, fun _ => t1, fun h => absurd cl h⟩⟩⟩, now + d, c, hz_bsC (hA.1 cl') hD, rfl, rfl, hmv⟩
      · have cl' := cl
        rw [nI_ltI (by omega) (by omega)] at cl'
        obtain ⟨t1, t2⟩ := s3 (nI (hz_Ks (w.2.2.1 1) np a b)) (nI b) (fX7_pairsDyed v (nI a) (nI (now + d))).2
        rw [if_neg cl, t2]
        exact ⟨⟨fun h => absurd h (by decide), fun _ => ⟨fun h => absurd h (by decide), fun _ => ⟨d1, fun h => absurd h cl, fun _ => t1⟩⟩⟩, b, hb255, hz_bsC (hA.2 cl') hD, rfl, rfl, hmv⟩
    · have e1 : fX6_isBetween (nI (now + d)) 0 255 = 0 := by
        unfold fX6_isBetween
        rw [if_neg (nI_pos (by omega)), if_pos (show (255 : Int32) < nI (now + d) from nI_lt (a := 255) (b := now + d) (by omega) (by omega))]
      have hD : ∀ t, (t ≤ 255 ∧ (hz_ds now t < d ∨ (hz_ds now t = d ∧ t ≤ now))) ↔ (t ≤ 255 ∧ hz_ds now t < d + 1) := fun t => by
        constructor
        · rintro ⟨t1, t2⟩
          exact ⟨t1, by omega⟩
        · rintro ⟨t1, t2⟩
          refine ⟨t1, ?_⟩
          by_cases e2 : t ≤ now
          · omega
          · unfold hz_ds at t2 ⊢
            rw [if_pos (by omega)] at t2 ⊢
            omega
      obtain ⟨t1, t2⟩ := s3 (nI (hz_Ks (w.2.2.1 1) np a b)) (nI b) v
      rw [e1, if_pos rfl, t2]
      exact ⟨⟨fun h => absurd h (by decide), fun _ => ⟨fun _ => t1, fun h => absurd rfl h⟩⟩, b, hb255, hz_bsC hb hD, rfl, rfl, hm⟩
  -- the lower side
  have h' := hz_RPs h (hz_skp0 w) hm
  rw [hz_52f, hz_52s]
  rw [if_neg (show ¬ (1 : Int32) < -1 by decide), show (-1 : Int32) + 2 = 1 from rfl]
  have tm : ((-1 : Int32) * nI d).toInt = -(d : Int) := by
    rw [hz_mul (by rw [nI_toInt (by omega), show (-1 : Int32).toInt = -1 from rfl]; omega) (by rw [nI_toInt (by omega), show (-1 : Int32).toInt = -1 from rfl]; omega), nI_toInt (by omega), show (-1 : Int32).toInt = -1 from rfl]
    omega
  have ts : (nI now + ((-1 : Int32) * nI d)).toInt = (now : Int) - d := by
    rw [i32_add (by rw [tm, nI_toInt (by omega)]; omega) (by rw [tm, nI_toInt (by omega)]; omega), tm, nI_toInt (by omega)]
    omega
  have ei : fX7_in ((nI now + ((-1 : Int32) * nI d)).toInt64) 0 255 = fX6_isBetween (nI now + ((-1 : Int32) * nI d)) 0 255 := hz_in _ 0 255
  rw [ei]
  by_cases c : d ≤ now
  · have es : nI now + ((-1 : Int32) * nI d) = nI (now - d) := by rw [hz_inj, ts, nI_toInt (by omega)]; omega
    have e1 : fX6_isBetween (nI (now - d)) 0 255 = 1 := by
      unfold fX6_isBetween
      have : ¬ nI 255 < nI (now - d) := by rw [nI_ltI (by omega) (by omega)]; omega
      rw [if_neg (nI_pos (by omega)), if_neg (show ¬ (255 : Int32) < nI (now - d) from this)]
    obtain ⟨d1, d2, d3⟩ := hz_dy1 h' ha (s := now - d) (by omega)
    have eds : hz_ds now (now - d) = d := by unfold hz_ds; rw [if_neg (by omega)]; omega
    obtain ⟨k1, -⟩ := hz_KsV h.2 ha hb255
    obtain ⟨k2, -⟩ := hz_KsV h.2 ha (show now - d ≤ 255 by omega)
    have hA := hz_bsA (s := now - d) hb (by rw [eds]; exact Or.inl hb.1.2)
    have hD : ∀ t, ((t ≤ 255 ∧ hz_ds now t < d) ∨ t = now - d) ↔ (t ≤ 255 ∧ (hz_ds now t < d ∨ (hz_ds now t = d ∧ t ≤ now))) := fun t => by
      constructor
      · rintro (⟨t1, t2⟩ | t1)
        · exact ⟨t1, Or.inl t2⟩
        · rw [t1, eds]; omega
      · rintro ⟨t1, t2 | ⟨t2, t3⟩⟩
        · exact Or.inl ⟨t1, t2⟩
        · right
          unfold hz_ds at t2
          split at t2 <;> omega
    have hmv := hz_mqT hm d3
    rw [es, e1, if_neg (by decide), d2]
    by_cases cl : nI (hz_Ks (w.2.2.1 1) np a b) < nI (hz_Ks (w.2.2.1 1) np a (now - d))
    · have cl' := cl
      rw [nI_ltI (by omega) (by omega)] at cl'
      obtain ⟨t1, t2⟩ := s2 (fX7_pairsDyed v (nI a) (nI (now - d))).2 (now - d) hmv (by omega) (hz_bsC (hA.1 cl') hD)
      rw [if_pos cl]
      exact ⟨⟨fun _ => trivial, fun _ => ⟨fun h => absurd h (by decide), fun _ => ⟨d1, fun _ => t1, fun h => absurd cl h⟩⟩⟩, t2⟩
    · have cl' := cl
      rw [nI_ltI (by omega) (by omega)] at cl'
      obtain ⟨t1, t2⟩ := s2 (fX7_pairsDyed v (nI a) (nI (now - d))).2 b hmv hb255 (hz_bsC (hA.2 cl') hD)
      rw [if_neg cl]
      exact ⟨⟨fun _ => trivial, fun _ => ⟨fun h => absurd h (by decide), fun _ => ⟨d1, fun h => absurd h cl, fun _ => t1⟩⟩⟩, t2⟩
  · have e1 : fX6_isBetween (nI now + ((-1 : Int32) * nI d)) 0 255 = 0 := by
      unfold fX6_isBetween
      rw [if_pos (by rw [hz_lt, ts, show (0 : Int32).toInt = 0 from rfl]; omega)]
    have hD : ∀ t, (t ≤ 255 ∧ hz_ds now t < d) ↔ (t ≤ 255 ∧ (hz_ds now t < d ∨ (hz_ds now t = d ∧ t ≤ now))) := fun t => by
      constructor
      · rintro ⟨t1, t2⟩
        exact ⟨t1, Or.inl t2⟩
      · rintro ⟨t1, t2 | ⟨t2, t3⟩⟩
        · exact ⟨t1, t2⟩
        · unfold hz_ds at t2
          split at t2 <;> omega
    obtain ⟨t1, t2⟩ := s2 v b hm hb255 (hz_bsC hb hD)
    rw [e1, if_pos rfl]
    exact ⟨⟨fun _ => trivial, fun _ => ⟨fun _ => t1, fun h => absurd rfl h⟩⟩, t2⟩
theorem hl_41 (h : hz_RP w m ny ns nz np) {a : Nat} (ha : a < np) {now : Nat} (hnow : now ≤ 255) : ∀ (fu d b : Nat) (v : Md), 1 ≤ d → d ≤ 256 → 256 < fu + d → hz_mq m v → b ≤ 255 → hz_bs (hz_Ks (w.2.2.1 1) np a) now (fun t => t ≤ 255 ∧ hz_ds now t < d) b → sX7_bestDye_41 (nI a) (nI now) fu (nI d) (nI (hz_Ks (w.2.2.1 1) np a b)) (nI b) v ∧ ∃ c, hz_bs (hz_Ks (w.2.2.1 1) np a) now (fun t => t ≤ 255 ∧ hz_ds now t < 256) c ∧ (fX7_bestDye_41 (nI a) (nI now) fu (nI d) (nI (hz_Ks (w.2.2.1 1) np a b)) (nI b) v).2.2.1 = nI c ∧ hz_mq m (fX7_bestDye_41 (nI a) (nI now) fu (nI d) (nI (hz_Ks (w.2.2.1 1) np a b)) (nI b) v).2.2.2 := by
  intro fu
  induction fu with
  | zero => intro d b v h1 h2 h3; omega
  | succ fu ih =>
    intro d b v h1 h2 hf hm hb255 hb
    simp only [fX7_bestDye_41, sX7_bestDye_41, bnd]
    by_cases c : (255 : Int32) < nI d
    · have c' : nI 255 < nI d := c
      rw [nI_ltI (by omega) (by omega)] at c'
      have e : d = 256 := by omega
      rw [if_pos c]
      rw [e] at hb
      exact ⟨⟨fun _ => trivial, fun hh => absurd c hh⟩, b, hb, rfl, hm⟩
    · have hd : d ≤ 255 := by
        have c' : ¬ nI 255 < nI d := c
        rw [nI_ltI (by omega) (by omega)] at c'
        omega
      have L : sX7_bestDye_52 (nI a) (nI d) (nI now) 5 (-1) (nI (hz_Ks (w.2.2.1 1) np a b)) (nI b) v ∧ ∃ c, c ≤ 255 ∧ hz_bs (hz_Ks (w.2.2.1 1) np a) now (fun t => t ≤ 255 ∧ hz_ds now t < d + 1) c ∧ (fX7_bestDye_52 (nI a) (nI d) (nI now) 5 (-1) (nI (hz_Ks (w.2.2.1 1) np a b)) (nI b) v).2.1 = nI (hz_Ks (w.2.2.1 1) np a c) ∧ (fX7_bestDye_52 (nI a) (nI d) (nI now) 5 (-1) (nI (hz_Ks (w.2.2.1 1) np a b)) (nI b) v).2.2.1 = nI c ∧ hz_mq m (fX7_bestDye_52 (nI a) (nI d) (nI now) 5 (-1) (nI (hz_Ks (w.2.2.1 1) np a b)) (nI b) v).2.2.2 := hl_52 h ha hnow h1 hd 2 v hm hb255 hb
      obtain ⟨l1, e, e255, l2, l3, l4, l5⟩ := L
      generalize fX7_bestDye_52 (nI a) (nI d) (nI now) 5 (-1) (nI (hz_Ks (w.2.2.1 1) np a b)) (nI b) v = X at *
      rw [if_neg c, l3, l4, ← nI_succ]
      obtain ⟨a1, a2⟩ := ih (d + 1) e X.2.2.2 (by omega) (by omega) (by omega) l5 e255 l2
      exact ⟨⟨fun hh => absurd hh c, fun _ => ⟨l1, a1⟩⟩, a2⟩
end HZZ
