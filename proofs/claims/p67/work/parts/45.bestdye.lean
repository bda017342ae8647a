/-! The best shade for a piece. -/
section HZY
variable {w : Wd} {m : Md} {ny ns nz np : Nat}
theorem hz_Af {p p1 : Pl} {f : Nat → Int32} {ny1 ns1 nz1 : Nat} (h : hz_PR p f ny ns nz np) (h1 : hz_PR p1 f ny1 ns1 nz1 np) : hz_A p np = hz_A p1 np ∧ ∀ a, a < np → fX5_matchSet p (nI a) = fX5_matchSet p1 (nI a) := by
  have hP : hz_PR p (((fun _ => 0, fun _ => f, 0) : Md).2.1 ((fun _ => 0, fun _ => f, 0) : Md).2.2) ny ns nz np := h
  have hP1 : hz_PR p1 (((fun _ => 0, fun _ => f, 0) : Md).2.1 ((fun _ => 0, fun _ => f, 0) : Md).2.2) ny1 ns1 nz1 np := h1
  refine ⟨?_, fun a ha => ?_⟩
  · funext i j
    unfold hz_A
    by_cases hi : i < np
    · by_cases hj : j < np
      · rw [← (hz_match (m := (fun _ => 0, fun _ => f, 0)) hP hi hj).1, ← (hz_match (m := (fun _ => 0, fun _ => f, 0)) hP1 hi hj).1]
      · rw [decide_eq_false hj, Bool.and_false, Bool.false_and, Bool.false_and]
    · rw [decide_eq_false hi, Bool.false_and, Bool.false_and, Bool.false_and]
  · rw [← (hz_matches (m := (fun _ => 0, fun _ => f, 0)) hP ha).1, ← (hz_matches (m := (fun _ => 0, fun _ => f, 0)) hP1 ha).1]
/-- the plant with this piece's shade s -/
def hz_q (p : Pl) (a s : Nat) : Pl := upR p 12 (fX6_put 14 (p.2 12) (nI a) (nI s))
def hz_Ks (p : Pl) (np a s : Nat) : Nat := (hz_W (hz_A (hz_q p a s) np) (fun _ _ => 0) (hz_aS np) / 100000).toNat
theorem hz_qP {p : Pl} {f : Nat → Int32} (h : hz_PR p f ny ns nz np) {a s : Nat} (ha : a < np) (hs : s ≤ 255) : hz_PR (hz_q p a s) (upd f (66 + 6 * a) (nI s)) ny ns nz np := hz_u12 h ha ⟨by rw [nI_toInt (by omega)]; omega, by rw [nI_toInt (by omega)]; omega⟩
theorem hz_KsV {p : Pl} {f : Nat → Int32} (h : hz_PR p f ny ns nz np) {a s : Nat} (ha : a < np) (hs : s ≤ 255) : hz_Ks p np a s ≤ 7 ∧ hz_W (hz_A (hz_q p a s) np) (fun _ _ => 0) (hz_aS np) = 100000 * (hz_Ks p np a s : Int) := by
  obtain ⟨K, k7, k1, -⟩ := hz_K (hz_qP h ha hs) (hz_aS np)
  have : hz_Ks p np a s = K := by unfold hz_Ks; rw [k1]; omega
  rw [this]
  exact ⟨k7, k1⟩
/-- where the matches are the same, so are the pairs -/
theorem hz_Kms {p : Pl} {f : Nat → Int32} (h : hz_PR p f ny ns nz np) {a s t : Nat} (ha : a < np) (hs : s ≤ 255) (ht : t ≤ 255) (he : fX5_matchSet (hz_q p a s) (nI a) = fX5_matchSet (hz_q p a t) (nI a)) : hz_Ks p np a s = hz_Ks p np a t := by
  have hn : np ≤ 14 := h.2.1.2.2.2
  have hps := hz_qP h ha hs
  have hpt := hz_qP h ha ht
  have hrow : ∀ j, j < np → hz_A (hz_q p a s) np a j = hz_A (hz_q p a t) np a j := fun j hj => by
    rw [← hz_ms (hz_q p a s) hn hps.1.2.2.2 ha (show j < 32 by omega), ← hz_ms (hz_q p a t) hn hpt.1.2.2.2 ha (show j < 32 by omega), he]
  have hA : hz_A (hz_q p a s) np = hz_A (hz_q p a t) np := by
    funext i j
    by_cases hi : i < np
    · by_cases hj : j < np
      · by_cases e1 : i = a
        · rw [e1]; exact hrow j hj
        · by_cases e2 : j = a
          · rw [e2, hz_sym hps, hz_sym hpt]; exact hrow i hi
          · have sh : ∀ (u : Nat) (q : Nat), q < np → q ≠ a → fX6_at 14 ((hz_q p a u).2 12) (nI q) = fX6_at 14 (p.2 12) (nI q) := fun u q hq hne => by
              rw [hz_at _ (show q < 14 by omega) (by decide), hz_at _ (show q < 14 by omega) (by decide)]
              show (upR p 12 (fX6_put 14 (p.2 12) (nI a) (nI u))).2 12 q = _
              rw [hz_upRs, hz_put _ _ (show a < 14 by omega) (by decide), pk_un hne]
            have e : fX5_fits (hz_q p a s) (nI i) (nI j) = fX5_fits (hz_q p a t) (nI i) (nI j) := by
              unfold fX5_fits
              rw [sh s i hi e1, sh s j hj e2, sh t i hi e1, sh t j hj e2]
              rfl
            unfold hz_A
            rw [e]
      · unfold hz_A
        rw [decide_eq_false hj, Bool.and_false, Bool.false_and, Bool.false_and]
    · unfold hz_A
      rw [decide_eq_false hi, Bool.false_and, Bool.false_and, Bool.false_and]
  unfold hz_Ks
  rw [hA]
/-- of these shades b is the best -/
def hz_ds (now s : Nat) : Nat := if now ≤ s then s - now else now - s
def hz_bs (K : Nat → Nat) (now : Nat) (D : Nat → Prop) (b : Nat) : Prop := D b ∧ ∀ t, D t → K t < K b ∨ (K t = K b ∧ (hz_ds now b < hz_ds now t ∨ (hz_ds now b = hz_ds now t ∧ b ≤ t)))
theorem hz_bsU {K : Nat → Nat} {now : Nat} {D : Nat → Prop} {b c : Nat} (h : hz_bs K now D b) (g : hz_bs K now D c) : b = c := by
  have h1 := h.2 c g.1
  have h2 := g.2 b h.1
  omega
theorem hz_bsC {K : Nat → Nat} {now : Nat} {D E : Nat → Prop} {b : Nat} (h : hz_bs K now D b) (e : ∀ t, D t ↔ E t) : hz_bs K now E b := ⟨(e b).mp h.1, fun t ht => h.2 t ((e t).mpr ht)⟩
theorem hz_dsI {now s : Nat} (h1 : now ≤ 255) (h2 : s ≤ 255) : iab (nI s - nI now) = nI (hz_ds now s) := by
  have e : (nI s - nI now).toInt = (s : Int) - now := by
    rw [hz_sub (by rw [nI_toInt (by omega), nI_toInt (by omega)]; omega) (by rw [nI_toInt (by omega), nI_toInt (by omega)]; omega), nI_toInt (by omega), nI_toInt (by omega)]
  have hd : hz_ds now s ≤ 255 := by unfold hz_ds; split <;> omega
  rw [hz_inj, hz_iab (by omega), e, nI_toInt (by omega)]
  unfold hz_ds
  split <;> split <;> omega
theorem hl_dyeC (h : hz_RP w m ny ns nz np) {a : Nat} (ha : a < np) {now : Nat} (hnow : now ≤ 255) : ∀ (fu s r : Nat) (x6 x5 x4 x3 : Int32) (y : Wd) (f : Nat → Int32), s ≤ 256 → 256 < fu + s → r + 300 < 2 ^ 40 + s → hz_skp w y → hz_mo y r → hz_PR (y.2.2.1 2) f ny ns nz np → (∀ j, j < 146 → ¬ j = 66 + 6 * a → f j = m.2.1 0 j) → (x6 = -1 ∨ ∃ t, t ≤ 255 ∧ x6 = fX5_matchSet (hz_q (w.2.2.1 1) a t) (nI a) ∧ x5 = nI (hz_Ks (w.2.2.1 1) np a t)) → ((s = 0 ∧ x4 = -1 ∧ x3 = nI now) ∨ ∃ b, hz_bs (hz_Ks (w.2.2.1 1) np a) now (fun t => t < s) b ∧ x4 = nI (hz_Ks (w.2.2.1 1) np a b) ∧ x3 = nI b) →
    ∃ b, hz_bs (hz_Ks (w.2.2.1 1) np a) now (fun t => t < 256) b ∧ (fX6_bestDye_62 (nI a) (nI now) fu (nI s) x6 x5 x4 x3 y).2.2.2.2.1 = nI b ∧ hz_skp w (fX6_bestDye_62 (nI a) (nI now) fu (nI s) x6 x5 x4 x3 y).2.2.2.2.2 ∧ ∃ r1, r1 + s ≤ r + 256 ∧ hz_mo (fX6_bestDye_62 (nI a) (nI now) fu (nI s) x6 x5 x4 x3 y).2.2.2.2.2 r1 := by
  have hn : np ≤ 14 := h.2.2.1.2.2.2
  intro fu
  induction fu with
  | zero => intro s r x6 x5 x4 x3 y f h1 h2; omega
  | succ fu ih =>
    intro s r x6 x5 x4 x3 y f hs hf hr hk hmo hP hfo h6 hb
    have eU : fX6_bestDye_62 (nI a) (nI now) (fu + 1) (nI s) x6 x5 x4 x3 y = (if 255 < nI s then (nI s, x6, x5, x4, x3, y) else (if (fX5_matchSet (upR (y.2.2.1 2) 12 (fX6_put 14 ((y.2.2.1 2).2 12) (nI a) (nI s))) (nI a)) = x6 then (if (iab (x3 - (nI now))) ≤ (iab ((nI s) - (nI now))) then (if x4 < x5 then (fX6_bestDye_62 (nI a) (nI now) fu (nI s + 1) x6 x5 x5 (nI s) (wP y 2 (upR (y.2.2.1 2) 12 (fX6_put 14 ((y.2.2.1 2).2 12) (nI a) (nI s))))) else (if x5 = x4 then (fX6_bestDye_62 (nI a) (nI now) fu (nI s + 1) x6 x5 x4 x3 (wP y 2 (upR (y.2.2.1 2) 12 (fX6_put 14 ((y.2.2.1 2).2 12) (nI a) (nI s))))) else (fX6_bestDye_62 (nI a) (nI now) fu (nI s + 1) x6 x5 x4 x3 (wP y 2 (upR (y.2.2.1 2) 12 (fX6_put 14 ((y.2.2.1 2).2 12) (nI a) (nI s))))))) else (if x4 < x5 then (fX6_bestDye_62 (nI a) (nI now) fu (nI s + 1) x6 x5 x5 (nI s) (wP y 2 (upR (y.2.2.1 2) 12 (fX6_put 14 ((y.2.2.1 2).2 12) (nI a) (nI s))))) else (if x5 = x4 then (fX6_bestDye_62 (nI a) (nI now) fu (nI s + 1) x6 x5 x5 (nI s) (wP y 2 (upR (y.2.2.1 2) 12 (fX6_put 14 ((y.2.2.1 2).2 12) (nI a) (nI s))))) else (fX6_bestDye_62 (nI a) (nI now) fu (nI s + 1) x6 x5 x4 x3 (wP y 2 (upR (y.2.2.1 2) 12 (fX6_put 14 ((y.2.2.1 2).2 12) (nI a) (nI s)))))))) else (bnd (fX2_mostPairs_37 (wP y 2 (upR (y.2.2.1 2) 12 (fX6_put 14 ((y.2.2.1 2).2 12) (nI a) (nI s)))) ) (fun r39 => (if (iab (x3 - (nI now))) ≤ (iab ((nI s) - (nI now))) then (if x4 < r39.1 then (fX6_bestDye_62 (nI a) (nI now) fu (nI s + 1) (fX5_matchSet (upR (y.2.2.1 2) 12 (fX6_put 14 ((y.2.2.1 2).2 12) (nI a) (nI s))) (nI a)) r39.1 r39.1 (nI s) r39.2) else (if r39.1 = x4 then (fX6_bestDye_62 (nI a) (nI now) fu (nI s + 1) (fX5_matchSet (upR (y.2.2.1 2) 12 (fX6_put 14 ((y.2.2.1 2).2 12) (nI a) (nI s))) (nI a)) r39.1 x4 x3 r39.2) else (fX6_bestDye_62 (nI a) (nI now) fu (nI s + 1) (fX5_matchSet (upR (y.2.2.1 2) 12 (fX6_put 14 ((y.2.2.1 2).2 12) (nI a) (nI s))) (nI a)) r39.1 x4 x3 r39.2))) else (if x4 < r39.1 then (fX6_bestDye_62 (nI a) (nI now) fu (nI s + 1) (fX5_matchSet (upR (y.2.2.1 2) 12 (fX6_put 14 ((y.2.2.1 2).2 12) (nI a) (nI s))) (nI a)) r39.1 r39.1 (nI s) r39.2) else (if r39.1 = x4 then (fX6_bestDye_62 (nI a) (nI now) fu (nI s + 1) (fX5_matchSet (upR (y.2.2.1 2) 12 (fX6_put 14 ((y.2.2.1 2).2 12) (nI a) (nI s))) (nI a)) r39.1 r39.1 (nI s) r39.2) else (fX6_bestDye_62 (nI a) (nI now) fu (nI s + 1) (fX5_matchSet (upR (y.2.2.1 2) 12 (fX6_put 14 ((y.2.2.1 2).2 12) (nI a) (nI s))) (nI a)) r39.1 x4 x3 r39.2)))))))) := rfl
    by_cases c : (255 : Int32) < nI s
    · have c' : nI 255 < nI s := c
      rw [nI_ltI (by omega) (by omega)] at c'
      have es : s = 256 := by omega
      rw [eU, if_pos c]
      rcases hb with ⟨b1, _⟩ | ⟨b, b1, b2, b3⟩
      · omega
      · rw [es] at b1
        exact ⟨b, b1, b3, hk, r, by omega, hmo⟩
    · have hs : s ≤ 255 := by
        have c' : ¬ nI 255 < nI s := c
        rw [nI_ltI (by omega) (by omega)] at c'
        omega
      obtain ⟨k7, kW⟩ := hz_KsV h.2 ha hs
      -- the trial with this shade
      have hP1 : hz_PR (upR (y.2.2.1 2) 12 (fX6_put 14 ((y.2.2.1 2).2 12) (nI a) (nI s))) (upd f (66 + 6 * a) (nI s)) ny ns nz np := hz_u12 hP ha ⟨by rw [nI_toInt (by omega)]; omega, by rw [nI_toInt (by omega)]; omega⟩
      have hq := hz_qP h.2 ha hs
      have hP2 : hz_PR (upR (y.2.2.1 2) 12 (fX6_put 14 ((y.2.2.1 2).2 12) (nI a) (nI s))) (upd (m.2.1 0) (66 + 6 * a) (nI s)) ny ns nz np := hz_fr hP1 (fun _ _ => rfl) (fun _ _ _ _ => rfl) (fun j hj => by
        by_cases e : j = 66 + 6 * a
        · rw [e, pk_us, pk_us]
        · rw [pk_un e, pk_un e]; exact (hfo j hj e).symm)
      obtain ⟨eA, eM⟩ := hz_Af hP2 hq
      have hfo1 : ∀ j, j < 146 → ¬ j = 66 + 6 * a → upd f (66 + 6 * a) (nI s) j = m.2.1 0 j := fun j hj e => by rw [pk_un e]; exact hfo j hj e
      generalize hT : upR (y.2.2.1 2) 12 (fX6_put 14 ((y.2.2.1 2).2 12) (nI a) (nI s)) = T at *
      have eMa := eM a ha
      rw [eU, if_neg c, eMa, ← nI_succ]
      -- how the best goes on
      have goB : ∀ (X4 X3 : Int32), (iab (x3 - nI now) ≤ iab (nI s - nI now) → (x4 < nI (hz_Ks (w.2.2.1 1) np a s) → X4 = nI (hz_Ks (w.2.2.1 1) np a s) ∧ X3 = nI s) ∧ (¬ x4 < nI (hz_Ks (w.2.2.1 1) np a s) → X4 = x4 ∧ X3 = x3)) → (¬ iab (x3 - nI now) ≤ iab (nI s - nI now) → ((x4 < nI (hz_Ks (w.2.2.1 1) np a s) ∨ nI (hz_Ks (w.2.2.1 1) np a s) = x4) → X4 = nI (hz_Ks (w.2.2.1 1) np a s) ∧ X3 = nI s) ∧ (¬ (x4 < nI (hz_Ks (w.2.2.1 1) np a s) ∨ nI (hz_Ks (w.2.2.1 1) np a s) = x4) → X4 = x4 ∧ X3 = x3)) → ∃ b, hz_bs (hz_Ks (w.2.2.1 1) np a) now (fun t => t < s + 1) b ∧ X4 = nI (hz_Ks (w.2.2.1 1) np a b) ∧ X3 = nI b := fun X4 X3 g1 g2 => by
        rcases hb with ⟨b1, b2, b3⟩ | ⟨b, b1, b2, b3⟩
        · have lt : x4 < nI (hz_Ks (w.2.2.1 1) np a s) := by
            rw [b2, hz_lt, nI_toInt (by omega), show (-1 : Int32).toInt = -1 from rfl]; omega
          have q : X4 = nI (hz_Ks (w.2.2.1 1) np a s) ∧ X3 = nI s := by
            by_cases hd : iab (x3 - nI now) ≤ iab (nI s - nI now)
            · exact (g1 hd).1 lt
            · exact (g2 hd).1 (Or.inl lt)
          refine ⟨s, ⟨by omega, fun t ht => ?_⟩, q.1, q.2⟩
          have : t = s := by omega
          rw [this]; omega
        · have hbs : b < s := b1.1
          obtain ⟨kb7, -⟩ := hz_KsV h.2 ha (show b ≤ 255 by omega)
          rw [b3, hz_dsI hnow (by omega), hz_dsI hnow hs] at g1 g2
          have d1 : hz_ds now b ≤ 255 := by unfold hz_ds; split <;> omega
          have d2 : hz_ds now s ≤ 255 := by unfold hz_ds; split <;> omega
          rw [nI_leI (by omega) (by omega), b2, nI_ltI (by omega) (by omega)] at g1
          rw [nI_leI (by omega) (by omega), b2, nI_ltI (by omega) (by omega), nI_eq (by omega) (by omega)] at g2
          by_cases hd : hz_ds now b ≤ hz_ds now s
          · by_cases hl : hz_Ks (w.2.2.1 1) np a b < hz_Ks (w.2.2.1 1) np a s
            · obtain ⟨q1, q2⟩ := (g1 hd).1 hl
              refine ⟨s, ⟨by omega, fun t ht => ?_⟩, q1, q2⟩
              by_cases e : t = s
              · rw [e]; omega
              · have := b1.2 t (by omega)
                omega
            · obtain ⟨q1, q2⟩ := (g1 hd).2 hl
              refine ⟨b, ⟨by omega, fun t ht => ?_⟩, q1, q2⟩
              by_cases e : t = s
              · rw [e]; omega
              · exact b1.2 t (by omega)
          · by_cases hl : hz_Ks (w.2.2.1 1) np a b < hz_Ks (w.2.2.1 1) np a s ∨ hz_Ks (w.2.2.1 1) np a s = hz_Ks (w.2.2.1 1) np a b
            · obtain ⟨q1, q2⟩ := (g2 hd).1 hl
              refine ⟨s, ⟨by omega, fun t ht => ?_⟩, q1, q2⟩
              by_cases e : t = s
              · rw [e]; omega
              · have := b1.2 t (by omega)
                omega
            · obtain ⟨q1, q2⟩ := (g2 hd).2 hl
              refine ⟨b, ⟨by omega, fun t ht => ?_⟩, q1, q2⟩
              by_cases e : t = s
              · rw [e]; omega
              · exact b1.2 t (by omega)
      -- with the pairs' number known, in any branch
      have pick : ∀ (V : Int32) (Z : Int32 → Int32 → Int32 × Int32 × Int32 × Int32 × Int32 × Wd) (Pp : (Int32 × Int32 × Int32 × Int32 × Int32 × Wd) → Prop), V = nI (hz_Ks (w.2.2.1 1) np a s) → (∀ X4 X3, (∃ b, hz_bs (hz_Ks (w.2.2.1 1) np a) now (fun t => t < s + 1) b ∧ X4 = nI (hz_Ks (w.2.2.1 1) np a b) ∧ X3 = nI b) → Pp (Z X4 X3)) → Pp (if (iab (x3 - (nI now))) ≤ (iab ((nI s) - (nI now))) then (if x4 < V then Z V (nI s) else (if V = x4 then Z x4 x3 else Z x4 x3)) else (if x4 < V then Z V (nI s) else (if V = x4 then Z V (nI s) else Z x4 x3))) := fun V Z Pp hV hZ => by
        subst hV
        by_cases hd : iab (x3 - nI now) ≤ iab (nI s - nI now)
        · rw [if_pos hd]
          by_cases hl : x4 < nI (hz_Ks (w.2.2.1 1) np a s)
          · rw [if_pos hl]
            exact hZ _ _ (goB _ _ (fun _ => ⟨fun _ => ⟨rfl, rfl⟩, fun h => absurd hl h⟩) (fun h => absurd hd h))
          · rw [if_neg hl]
            have g := hZ x4 x3 (goB _ _ (fun _ => ⟨fun h => absurd h hl, fun _ => ⟨rfl, rfl⟩⟩) (fun h => absurd hd h))
            split <;> exact g
        · rw [if_neg hd]
          by_cases hl : x4 < nI (hz_Ks (w.2.2.1 1) np a s)
          · rw [if_pos hl]
            exact hZ _ _ (goB _ _ (fun h => absurd h hd) (fun _ => ⟨fun _ => ⟨rfl, rfl⟩, fun h => absurd (Or.inl hl) h⟩))
          · rw [if_neg hl]
            by_cases he : nI (hz_Ks (w.2.2.1 1) np a s) = x4
            · rw [if_pos he]
              exact hZ _ _ (goB _ _ (fun h => absurd h hd) (fun _ => ⟨fun _ => ⟨rfl, rfl⟩, fun h => absurd (Or.inr he) h⟩))
            · rw [if_neg he]
              exact hZ _ _ (goB _ _ (fun h => absurd h hd) (fun _ => ⟨fun h => absurd h (fun h => h.elim hl he), fun _ => ⟨rfl, rfl⟩⟩))
      by_cases c6 : fX5_matchSet (hz_q (w.2.2.1 1) a s) (nI a) = x6
      · rw [if_pos c6]
        have hne : ¬ x6 = -1 := fun e => by
          have : bt (fX5_matchSet (hz_q (w.2.2.1 1) a s) (nI a)) 20 = hz_A (hz_q (w.2.2.1 1) a s) np a 20 := hz_ms _ hn hq.1.2.2.2 ha (by decide)
          rw [c6, e, b_m1 20 (by decide)] at this
          have := (hz_An _ np a 20 this.symm).2
          omega
        obtain ⟨t, t1, t2, t3⟩ := h6.resolve_left hne
        have eK : hz_Ks (w.2.2.1 1) np a t = hz_Ks (w.2.2.1 1) np a s := hz_Kms h.2 ha t1 hs (by rw [← t2, c6])
        rw [eK] at t3
        refine pick x5 (fun X4 X3 => fX6_bestDye_62 (nI a) (nI now) fu (nI (s + 1)) x6 x5 X4 X3 (wP y 2 T)) (fun Z => ∃ b, hz_bs (hz_Ks (w.2.2.1 1) np a) now (fun t => t < 256) b ∧ Z.2.2.2.2.1 = nI b ∧ hz_skp w Z.2.2.2.2.2 ∧ ∃ r1, r1 + s ≤ r + 256 ∧ hz_mo Z.2.2.2.2.2 r1) t3 (fun X4 X3 hX => ?_)
        obtain ⟨b, e1, e2, e3, r1, e4, e5⟩ := ih (s + 1) r x6 x5 X4 X3 (wP y 2 T) (upd f (66 + 6 * a) (nI s)) (by omega) (by omega) (by omega) (hz_skpT hk (hz_skpP y _)) hmo hP1 hfo1 (Or.inr ⟨s, hs, c6.symm, t3⟩) (Or.inr hX)
        exact ⟨b, e1, e2, e3, r1, by omega, e5⟩
      · rw [if_neg c6]
        simp only [bnd]
        rw [← eA] at kW
        obtain ⟨w2, m1, m2, m3⟩ := hz_most hP1 (w := wP y 2 T) rfl (by omega) hmo kW k7
        rw [m1]
        have hk2 : hz_skp (wP y 2 T) w2 := ⟨m2.1, fun q h1 h2 => m2.2.1 q (by omega), fun q _ => by rw [m2.2.2.1], m2.2.2.2⟩
        refine pick (nI (hz_Ks (w.2.2.1 1) np a s)) (fun X4 X3 => fX6_bestDye_62 (nI a) (nI now) fu (nI (s + 1)) (fX5_matchSet (hz_q (w.2.2.1 1) a s) (nI a)) (nI (hz_Ks (w.2.2.1 1) np a s)) X4 X3 w2) (fun Z => ∃ b, hz_bs (hz_Ks (w.2.2.1 1) np a) now (fun t => t < 256) b ∧ Z.2.2.2.2.1 = nI b ∧ hz_skp w Z.2.2.2.2.2 ∧ ∃ r1, r1 + s ≤ r + 256 ∧ hz_mo Z.2.2.2.2.2 r1) rfl (fun X4 X3 hX => ?_)
        obtain ⟨b, e1, e2, e3, r1, e4, e5⟩ := ih (s + 1) (r + 1) (fX5_matchSet (hz_q (w.2.2.1 1) a s) (nI a)) (nI (hz_Ks (w.2.2.1 1) np a s)) X4 X3 w2 (upd f (66 + 6 * a) (nI s)) (by omega) (by omega) (by omega) (hz_skpT hk (hz_skpT (hz_skpP y T) hk2)) m3 (by rw [m2.2.2.1]; exact hP1) hfo1 (Or.inr ⟨s, hs, rfl, rfl⟩) (Or.inr hX)
        exact ⟨b, e1, e2, e3, r1, by omega, e5⟩
end HZY
