/-! The best pairing's partners, from the lowest piece on; the model lays them out. -/
def hz_nd (c : Nat → Bool) : Nat → Int32
  | 0 => -1
  | n + 1 => if hz_nd c n = -1 then (if c n = true then nI n else -1) else hz_nd c n
def hz_nx (c : Nat → Bool) (r : Int32) : Prop := (r = -1 ∧ ∀ q, q < 14 → c q = false) ∨ ∃ q, q < 14 ∧ r = nI q ∧ c q = true ∧ ∀ j, j < q → c j = false
theorem hz_nIm1 {q : Nat} (h : q < 1000000) : ¬ nI q = -1 := by
  intro e
  rw [hz_inj, nI_toInt (by omega), show (-1 : Int32).toInt = -1 from rfl] at e
  omega
theorem hz_ndL (c : Nat → Bool) : ∀ n, n ≤ 14 → (hz_nd c n = -1 ∧ ∀ q, q < n → c q = false) ∨ ∃ q, q < n ∧ hz_nd c n = nI q ∧ c q = true ∧ ∀ j, j < q → c j = false
  | 0, _ => Or.inl ⟨rfl, fun q hq => absurd hq (Nat.not_lt_zero q)⟩
  | n + 1, h => by
    simp only [hz_nd]
    rcases hz_ndL c n (by omega) with ⟨h1, h2⟩ | ⟨q, h1, h2, h3, h4⟩
    · rw [if_pos h1]
      by_cases hc : c n = true
      · rw [if_pos hc]
        exact Or.inr ⟨n, by omega, rfl, hc, h2⟩
      · rw [if_neg hc]
        refine Or.inl ⟨rfl, fun q hq => ?_⟩
        by_cases hqn : q = n
        · rw [hqn]; simpa using hc
        · exact h2 q (by omega)
    · rw [if_neg (by rw [h2]; exact hz_nIm1 (by omega))]
      exact Or.inr ⟨q, by omega, h2, h3, h4⟩
theorem hz_ndx (c : Nat → Bool) : hz_nx c (hz_nd c 14) := hz_ndL c 14 (Nat.le_refl _)
theorem hz_nxU {c : Nat → Bool} {r t : Int32} (h : hz_nx c r) (g : hz_nx c t) : r = t := by
  rcases h with ⟨h1, h2⟩ | ⟨q, h1, h2, h3, h4⟩
  · rcases g with ⟨g1, g2⟩ | ⟨j, g1, g2, g3, g4⟩
    · rw [h1, g1]
    · rw [h2 j g1] at g3; exact absurd g3 (by decide)
  · rcases g with ⟨g1, g2⟩ | ⟨j, g1, g2, g3, g4⟩
    · rw [g2 q h1] at h3; exact absurd h3 (by decide)
    · have : q = j := by
        rcases Nat.lt_trichotomy q j with e | e | e
        · rw [g4 q e] at h3; exact absurd h3 (by decide)
        · exact e
        · rw [h4 j e] at g3; exact absurd g3 (by decide)
      rw [h2, g2, this]
theorem hz_nxC {c c1 : Nat → Bool} {r : Int32} (h : ∀ q, q < 14 → c q = c1 q) (g : hz_nx c r) : hz_nx c1 r := by
  rcases g with ⟨g1, g2⟩ | ⟨j, g1, g2, g3, g4⟩
  · exact Or.inl ⟨g1, fun q hq => by rw [← h q hq]; exact g2 q hq⟩
  · exact Or.inr ⟨j, g1, g2, by rw [← h j g1]; exact g3, fun q hq => by rw [← h q (by omega)]; exact g4 q hq⟩
def hz_cS (A : Nat → Nat → Bool) (g : Nat → Nat → Int) (S : Nat → Bool) (i q : Nat) : Bool := decide (i < q) && S q && A i q && decide (100000 - g i q + hz_W A g (hz_rm (hz_rm S i) q) = hz_W A g S)
abbrev hz_GT : Type := (Nat → Int32) × Nat × Int
def hz_G (A : Nat → Nat → Bool) (g : Nat → Nat → Int) : Nat → (Nat → Bool) → hz_GT → hz_GT
  | 0, _, t => t
  | k + 1, S, t => if S (13 - k) = true then
      (if hz_nd (hz_cS A g S (13 - k)) 14 = -1 then hz_G A g k (hz_rm S (13 - k)) (upd t.1 (13 - k) (-1), t.2)
       else hz_G A g k (hz_rm (hz_rm S (13 - k)) (hz_nd (hz_cS A g S (13 - k)) 14).toNatClampNeg) (upd (upd t.1 (13 - k) (hz_nd (hz_cS A g S (13 - k)) 14)) (hz_nd (hz_cS A g S (13 - k)) 14).toNatClampNeg (nI (13 - k)), t.2.1 + 1, t.2.2 + g (13 - k) (hz_nd (hz_cS A g S (13 - k)) 14).toNatClampNeg))
    else hz_G A g k S t
section HZG
variable {A : Nat → Nat → Bool} {g : Nat → Nat → Int}
theorem hz_none {S : Nat → Bool} {i : Nat} (hi : i < 14) (hS : S i = true) (hl : ∀ j, j < i → S j = false) (hn : hz_nd (hz_cS A g S i) 14 = -1) : hz_W A g S = hz_W A g (hz_rm S i) := by
  have h0 : ∀ q, q < 14 → hz_cS A g S i q = false := by
    rcases hz_ndx (hz_cS A g S i) with ⟨_, h⟩ | ⟨q, h1, h2, _, _⟩
    · exact h
    · rw [h2] at hn; exact absurd hn (hz_nIm1 (by omega))
  rcases hz_bestA (fun q => decide (i < q) && S q && A i q) (fun q => 100000 - g i q + hz_W A g (hz_rm (hz_rm S i) q)) (hz_W A g (hz_rm S i)) 14 with h | ⟨q, h1, h2, h3⟩
  · rw [hz_Wu hi hS hl, h]
  · have e := h0 q h1
    have e2 : hz_W A g S = 100000 - g i q + hz_W A g (hz_rm (hz_rm S i) q) := by rw [hz_Wu hi hS hl, h3]
    unfold hz_cS at e
    rw [h2, decide_eq_true e2.symm] at e
    exact absurd e (by decide)
theorem hz_some {S : Nat → Bool} {i : Nat} (hn : ¬ hz_nd (hz_cS A g S i) 14 = -1) : ∃ q, q < 14 ∧ hz_nd (hz_cS A g S i) 14 = nI q ∧ i < q ∧ S q = true ∧ A i q = true ∧ 100000 - g i q + hz_W A g (hz_rm (hz_rm S i) q) = hz_W A g S := by
  rcases hz_ndx (hz_cS A g S i) with ⟨h, _⟩ | ⟨q, h1, h2, h3, _⟩
  · exact absurd h hn
  · unfold hz_cS at h3
    simp only [Bool.and_eq_true, decide_eq_true_eq] at h3
    exact ⟨q, h1, h2, h3.1.1.1, h3.1.1.2, h3.1.2, h3.2⟩
theorem hz_GW (g0 : ∀ i j, 0 ≤ g i j) (g1 : ∀ i j, g i j ≤ 12049) : ∀ (k : Nat) (S : Nat → Bool) (t : hz_GT), k ≤ 14 → (∀ j, j < 14 - k → S j = false) → ∃ (d : Nat) (e : Int), (hz_G A g k S t).2 = (t.2.1 + d, t.2.2 + e) ∧ 100000 * (d : Int) - e = hz_W A g S ∧ 0 ≤ e ∧ e ≤ 12049 * (d : Int)
  | 0, S, t, _, h => ⟨0, 0, by simp [hz_G], by rw [hz_W0 (fun j hj => h j (by omega))]; rfl, by omega, by omega⟩
  | k + 1, S, t, hk, h => by
    simp only [hz_G]
    by_cases hS : S (13 - k) = true
    · rw [if_pos hS]
      have hl : ∀ j, j < 13 - k → S j = false := fun j hj => h j (by omega)
      have l1 : ∀ j, j < 14 - k → hz_rm S (13 - k) j = false := fun j hj => by
        by_cases hj2 : j = 13 - k
        · rw [hj2, hz_rms]
        · rw [hz_rmn S hj2]; exact h j (by omega)
      by_cases hn : hz_nd (hz_cS A g S (13 - k)) 14 = -1
      · rw [if_pos hn]
        obtain ⟨d, e, a1, a2, a3, a4⟩ := hz_GW g0 g1 k (hz_rm S (13 - k)) (upd t.1 (13 - k) (-1), t.2) (by omega) l1
        exact ⟨d, e, a1, by rw [a2, hz_none (by omega) hS hl hn], a3, a4⟩
      · obtain ⟨q, q1, q2, q3, q4, q5, q6⟩ := hz_some hn
        rw [if_neg hn, q2, nI_clamp (by omega)]
        obtain ⟨d, e, a1, a2, a3, a4⟩ := hz_GW g0 g1 k (hz_rm (hz_rm S (13 - k)) q) (upd (upd t.1 (13 - k) (nI q)) q (nI (13 - k)), t.2.1 + 1, t.2.2 + g (13 - k) q) (by omega) (fun j hj => by
          unfold hz_rm at l1 ⊢
          rw [l1 j hj]; rfl)
        have b0 := g0 (13 - k) q
        have b1 := g1 (13 - k) q
        refine ⟨d + 1, e + g (13 - k) q, ?_, by rw [← q6, ← a2]; omega, by omega, by omega⟩
        rw [a1]
        show (t.2.1 + 1 + d, t.2.2 + g (13 - k) q + e) = _
        rw [show t.2.1 + 1 + d = t.2.1 + (d + 1) by omega, show t.2.2 + g (13 - k) q + e = t.2.2 + (e + g (13 - k) q) by omega]
    · rw [if_neg hS]
      exact hz_GW g0 g1 k S t (by omega) (fun j hj => by
        by_cases hj2 : j = 13 - k
        · rw [hj2]; simpa using hS
        · exact h j (by omega))
theorem hz_Wm {S T : Nat → Bool} (h1 : ∀ j, T j = true → S j = true) (h2 : ∀ j, j < 14 → S j = true → T j = false → ∀ i, A i j = false ∧ A j i = false) : hz_W A g S = hz_W A g T := hz_Vm 14 S T (by omega) h1 h2
theorem hz_GM : ∀ (k : Nat) (S T : Nat → Bool) (t : hz_GT), k ≤ 14 → (∀ j, T j = true → S j = true) → (∀ j, j < 14 → S j = true → T j = false → ∀ i, A i j = false ∧ A j i = false) → (∀ j, j < 14 → S j = true → t.1 j = -1) → hz_G A g k S t = hz_G A g k T t
  | 0, _, _, _, _, _, _, _ => rfl
  | k + 1, S, T, t, hk, h1, h2, h3 => by
    simp only [hz_G]
    have rmT : ∀ (U V : Nat → Bool) (q : Nat), (∀ j, V j = true → U j = true) → ∀ j, hz_rm V q j = true → hz_rm U q j = true := fun U V q hUV j hj => by
      simp only [hz_rm, Bool.and_eq_true] at hj ⊢
      exact ⟨hUV j hj.1, hj.2⟩
    have rmN : ∀ (U V : Nat → Bool) (q : Nat), (∀ j, j < 14 → U j = true → V j = false → ∀ i, A i j = false ∧ A j i = false) → ∀ j, j < 14 → hz_rm U q j = true → hz_rm V q j = false → ∀ i, A i j = false ∧ A j i = false := fun U V q hUV j hj a b => by
      simp only [hz_rm, Bool.and_eq_true] at a
      refine hUV j hj a.1 ?_
      simp only [hz_rm] at b
      rw [a.2, Bool.and_true] at b
      exact b
    by_cases hS : S (13 - k) = true
    · rw [if_pos hS]
      by_cases hT : T (13 - k) = true
      · have ec : hz_nd (hz_cS A g S (13 - k)) 14 = hz_nd (hz_cS A g T (13 - k)) 14 := by
          refine hz_nxU (hz_ndx _) (hz_nxC (fun q hq => ?_) (hz_ndx _))
          unfold hz_cS
          rw [hz_Wm (A := A) (g := g) h1 h2, hz_Wm (A := A) (g := g) (rmT _ _ q (rmT _ _ (13 - k) h1)) (rmN _ _ q (rmN _ _ (13 - k) h2))]
          congr 1
          by_cases hq1 : S q = true
          · by_cases hq2 : T q = true
            · rw [hq1, hq2]
            · have hq2' : T q = false := by simpa using hq2
              rw [(h2 q hq hq1 hq2' (13 - k)).1, Bool.and_false, Bool.and_false]
          · have hq2 : ¬ T q = true := fun h => hq1 (h1 q h)
            have a1 : S q = false := by simpa using hq1
            have a2 : T q = false := by simpa using hq2
            rw [a1, a2]
        rw [if_pos hT, ec]
        have hup : ∀ (r : Int32) j, j < 14 → hz_rm S (13 - k) j = true → upd t.1 (13 - k) r j = -1 := fun r j hj hjS => by
          by_cases hj2 : j = 13 - k
          · rw [hj2, hz_rms] at hjS; exact absurd hjS (by decide)
          · rw [pk_un hj2]
            rw [hz_rmn S hj2] at hjS
            exact h3 j hj hjS
        by_cases hn : hz_nd (hz_cS A g T (13 - k)) 14 = -1
        · rw [if_pos hn, if_pos hn]
          exact hz_GM k _ _ _ (by omega) (rmT _ _ _ h1) (rmN _ _ _ h2) (fun j hj hjS => hup (-1) j hj hjS)
        · rw [if_neg hn, if_neg hn]
          refine hz_GM k _ _ _ (by omega) (rmT _ _ _ (rmT _ _ _ h1)) (rmN _ _ _ (rmN _ _ _ h2)) (fun j hj hjS => ?_)
          by_cases hj2 : j = (hz_nd (hz_cS A g T (13 - k)) 14).toNatClampNeg
          · rw [hj2, hz_rms] at hjS; exact absurd hjS (by decide)
          · show upd (upd t.1 _ _) _ _ j = -1
            rw [pk_un hj2]
            rw [hz_rmn _ hj2] at hjS
            exact hup _ j hj hjS
      · have hT' : T (13 - k) = false := by simpa using hT
        have hA := h2 (13 - k) (by omega) hS hT'
        have hn : hz_nd (hz_cS A g S (13 - k)) 14 = -1 := by
          refine hz_nxU (hz_ndx _) (Or.inl ⟨rfl, fun q hq => ?_⟩)
          unfold hz_cS
          rw [(hA q).2, Bool.and_false, Bool.false_and]
        have eu : upd t.1 (13 - k) (-1) = t.1 := by
          funext j
          by_cases hj : j = 13 - k
          · rw [hj, pk_us, h3 (13 - k) (by omega) hS]
          · rw [pk_un hj]
        rw [if_neg hT, if_pos hn, eu]
        refine hz_GM k _ _ _ (by omega) (fun j hj => ?_) (fun j hj a b => ?_) (fun j hj hjS => ?_)
        · have : j ≠ 13 - k := fun e => hT (by rw [← e]; exact hj)
          rw [hz_rmn S this]; exact h1 j hj
        · simp only [hz_rm, Bool.and_eq_true] at a
          exact h2 j hj a.1 b
        · simp only [hz_rm, Bool.and_eq_true] at hjS
          exact h3 j hj hjS.1
    · have hT : ¬ T (13 - k) = true := fun h => hS (h1 _ h)
      rw [if_neg hS, if_neg hT]
      exact hz_GM k S T t (by omega) h1 h2 h3
end HZG
section HZH
variable {p : Pl} {ny ns nz np : Nat}
theorem hz_lp66 {S i : Nat} (hS : S < 2 ^ np) (hi : i < np) (hb : bt (nI S) i = true) (z : Int32) {y : Md} (hP : hz_PR p (y.2.1 y.2.2) ny ns nz np) (hm : y.2.1 4 i = fX5_matchSet p (nI i)) (hw : hz_wl p np (2 ^ np) (y.2.1 3)) : ∀ (fu q : Nat) (r : Int32), i ≤ q → q < np → q < fu + i → hz_nx (fun j => decide (q < j) && hz_cS (hz_A p np) (hz_g p np) (bt (nI S)) i j) r →
    sX7_layPartners_66 (nI S &&& (((1 : Int32) <<< (nI i &&& 31)) ^^^ (-1))) (nI i) (nI S) z y fu (nI q) r ∧ hz_nx (hz_cS (hz_A p np) (hz_g p np) (bt (nI S)) i) (fX7_layPartners_66 (nI S &&& (((1 : Int32) <<< (nI i &&& 31)) ^^^ (-1))) (nI i) (nI S) z y fu (nI q) r).2 := by
  have hn := hz_np hP
  have hpw := hz_pw hn
  obtain ⟨c1, c2⟩ := hz_count hP
  intro fu
  induction fu with
  | zero => intro q r h1 h2 h3; omega
  | succ fu ih =>
    intro q r hiq hq hf hx
    simp only [fX7_layPartners_66, sX7_layPartners_66]
    by_cases h : nI q ≤ nI i
    · rw [if_pos h]
      have h' := h
      rw [nI_leI (by omega) (by omega)] at h'
      have e : q = i := by omega
      refine ⟨⟨fun _ => trivial, fun h2 => absurd h h2⟩, hz_nxC (fun j hj => ?_) hx⟩
      rw [e]
      unfold hz_cS
      by_cases hj2 : i < j
      · rw [decide_eq_true hj2]; simp
      · rw [decide_eq_false hj2]; simp
    · have hlt : i < q := by
        rw [nI_leI (by omega) (by omega)] at h
        omega
      obtain ⟨q0, eq0⟩ : ∃ q0, q = q0 + 1 := ⟨q - 1, by omega⟩
      have em : nI q + (-1) = nI q0 := by rw [eq0]; exact pk_m1 q0
      have hbq : bt (fX5_matchSet p (nI i) &&& (nI S &&& (((1 : Int32) <<< (nI i &&& 31)) ^^^ (-1)))) q = (bt (nI S) q && hz_A p np i q) := by
        rw [b_and, hz_ms p hn c2 hi (by omega), hz_clr _ (by omega) (by omega), hz_rmn _ (by omega), Bool.and_comm]
      have hcS : hz_cS (hz_A p np) (hz_g p np) (bt (nI S)) i q = (bt (nI S) q && hz_A p np i q && decide (100000 - hz_g p np i q + hz_W (hz_A p np) (hz_g p np) (hz_rm (hz_rm (bt (nI S)) i) q) = hz_W (hz_A p np) (hz_g p np) (bt (nI S)))) := by
        unfold hz_cS
        rw [decide_eq_true hlt, Bool.true_and]
      have same : hz_cS (hz_A p np) (hz_g p np) (bt (nI S)) i q = false → hz_nx (fun j => decide (q0 < j) && hz_cS (hz_A p np) (hz_g p np) (bt (nI S)) i j) r := fun hc => hz_nxC (fun j hj => by
        by_cases hj2 : j = q
        · rw [hj2, hc]; simp
        · congr 1
          simp; omega) hx
      rw [if_neg h, em, nI_clamp (by omega), nI_clamp (by omega), hm]
      cases hcq : (bt (nI S) q && hz_A p np i q)
      · rw [hcq] at hbq
        rw [hz_hbF (by omega) hbq, if_pos rfl]
        obtain ⟨a1, a2⟩ := ih q0 r (by omega) (by omega) (by omega) (same (by rw [hcS, hcq]; rfl))
        exact ⟨⟨fun h2 => absurd h2 h, fun _ => ⟨vp_in_nI (by omega) (by omega), fun _ => a1, fun h2 => absurd rfl h2⟩⟩, a2⟩
      · rw [hcq] at hbq
        have hqS : hz_rm (bt (nI S)) i q = true := by
          rw [hz_rmn _ (by omega)]
          simp only [Bool.and_eq_true] at hcq
          exact hcq.1
        obtain ⟨w1, w2⟩ := hz_with hP (by omega) hi hq hqS hb (fun N hN => hw N (by omega))
        have eqv : (fX7_worthWith y (nI i) (nI q) (nI S &&& (((1 : Int32) <<< (nI i &&& 31)) ^^^ (-1))) = y.2.1 3 S) ↔ (100000 - hz_g p np i q + hz_W (hz_A p np) (hz_g p np) (hz_rm (hz_rm (bt (nI S)) i) q) = hz_W (hz_A p np) (hz_g p np) (bt (nI S))) := by
          rw [hz_inj, w2, hw S hS]
        rw [hz_hbT (by omega) hbq, if_neg (by decide)]
        by_cases hv : fX7_worthWith y (nI i) (nI q) (nI S &&& (((1 : Int32) <<< (nI i &&& 31)) ^^^ (-1))) = y.2.1 3 S
        · have hc : hz_cS (hz_A p np) (hz_g p np) (bt (nI S)) i q = true := by
            rw [hcS, hcq, decide_eq_true (eqv.mp hv)]; rfl
          rw [if_pos hv]
          obtain ⟨a1, a2⟩ := ih q0 (nI q) (by omega) (by omega) (by omega) (Or.inr ⟨q, by omega, rfl, by simp only [hc, Bool.and_true, decide_eq_true_eq]; omega, fun j hj => by
            show (decide (q0 < j) && _) = false
            rw [decide_eq_false (by omega), Bool.false_and]⟩)
          exact ⟨⟨fun h2 => absurd h2 h, fun _ => ⟨vp_in_nI (by omega) (by omega), fun h2 => absurd h2 (by decide), fun _ => ⟨w1, vp_in_nI (by omega) (by omega), fun _ => a1, fun h2 => absurd hv h2⟩⟩⟩, a2⟩
        · rw [if_neg hv]
          obtain ⟨a1, a2⟩ := ih q0 r (by omega) (by omega) (by omega) (same (by rw [hcS, hcq, decide_eq_false (fun e => hv (eqv.mpr e))]; rfl))
          exact ⟨⟨fun h2 => absurd h2 h, fun _ => ⟨vp_in_nI (by omega) (by omega), fun h2 => absurd h2 (by decide), fun _ => ⟨w1, vp_in_nI (by omega) (by omega), fun h2 => absurd h2 hv, fun _ => a1⟩⟩⟩, a2⟩
end HZH
