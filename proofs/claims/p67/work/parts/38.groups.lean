/-! Groups: the pieces that hang together. -/
theorem hz_popM : ∀ (k : Nat) (S T : Nat → Bool), (∀ j, j < 14 → S j = true → T j = true) → k ≤ 14 → hz_pop k S ≤ hz_pop k T
  | 0, _, _, _, _ => Nat.le_refl _
  | k + 1, S, T, h, hk => by
    have ih := hz_popM k S T h (by omega)
    simp only [hz_pop]
    by_cases hS : S (13 - k) = true
    · rw [if_pos hS, if_pos (h _ (by omega) hS)]; omega
    · rw [if_neg hS]; omega
theorem hz_popL {S T : Nat → Bool} (h : ∀ j, j < 14 → S j = true → T j = true) {q : Nat} (hq : q < 14) (hT : T q = true) (hS : S q = false) : hz_pop 14 S + 1 ≤ hz_pop 14 T := by
  have e := hz_popR 14 T q (Nat.le_refl _) (by omega) hq hT
  have m := hz_popM 14 S (hz_rm T q) (fun j hj hj2 => by
    by_cases e : j = q
    · rw [e, hS] at hj2; exact absurd hj2 (by decide)
    · rw [hz_rmn _ e]; exact h j hj hj2) (Nat.le_refl _)
  omega
theorem hz_popA : ∀ n, n < 15 → hz_pop 14 (hz_aS n) = n := by decide +kernel
def hz_cl (A : Nat → Nat → Bool) (S : Nat → Bool) : Prop := ∀ a j, a < 14 → S a = true → A a j = true → S j = true
section HZO
variable {p : Pl} {ny ns nz np : Nat}
/-- all of the group of i, no more -/
def hz_gr (A : Nat → Nat → Bool) (np i : Nat) (x : Int32) : Prop := (∀ j, j < 32 → bt x j = true → j < np) ∧ bt x i = true ∧ hz_cl A (bt x) ∧ ∀ T : Nat → Bool, hz_cl A T → T i = true → ∀ j, j < 32 → bt x j = true → T j = true
theorem hz_grU {A : Nat → Nat → Bool} {i : Nat} {x y : Int32} (hx : hz_gr A np i x) (hy : hz_gr A np i y) : x = y := by
  apply b_ext
  intro j hj
  have a := hx.2.2.2 (bt y) hy.2.2.1 hy.2.1 j hj
  have b := hy.2.2.2 (bt x) hx.2.2.1 hx.2.1 j hj
  cases h : bt x j
  · cases h2 : bt y j
    · rfl
    · rw [b h2] at h; exact absurd h (by decide)
  · rw [a h]
theorem hz_smlt {x : Int32} (hn : np ≤ 14) (h : ∀ j, j < 32 → bt x j = true → j < np) : hz_sm x := fun i h1 h2 => by
  cases hb : bt x i
  · rfl
  · have := h i h2 hb; omega
theorem hz_gsL (hn : np ≤ 14) (hc : p.1 8 = nI np) {i : Nat} (hi : i < np) (z : Int32) : ∀ (fu c : Nat) (D X : Int32), c ≤ np → np < fu + c → (∀ j, j < 32 → bt X j = true → j < np) → (∀ j, j < 32 → bt D j = true → bt X j = true) → hz_pop 14 (bt D) = c → bt X i = true → (∀ a j, a < 14 → bt D a = true → hz_A p np a j = true → bt X j = true) → (∀ T : Nat → Bool, hz_cl (hz_A p np) T → T i = true → ∀ j, j < 32 → bt X j = true → T j = true) → hz_gr (hz_A p np) np i (fX5_groupSet_9 z p fu (nI c) D X).2.2 := by
  intro fu
  induction fu with
  | zero => intro c D X h1 h2; omega
  | succ fu ih =>
    intro c D X hc1 hf hX hDX hpc hXi hD hT
    simp only [fX5_groupSet_9, hc]
    by_cases h : nI np ≤ nI c
    · rw [if_pos h]
      rw [nI_leI (by omega) (by omega)] at h
      have ec : c = np := by omega
      refine ⟨hX, hXi, fun a j ha hXa hA => ?_, hT⟩
      have ha2 := hX a (by omega) hXa
      refine hD a j ha ?_ hA
      cases hDa : bt D a
      · have q := hz_popL (S := bt D) (T := hz_aS np) (fun j hj hj2 => by
          unfold hz_aS
          exact decide_eq_true (hX j (by omega) (hDX j (by omega) hj2))) ha (by unfold hz_aS; exact decide_eq_true ha2) hDa
        rw [hz_popA np (by omega)] at q
        omega
      · rfl
    · have hlt : c < np := hz_c hc1 (by omega) h
      rw [if_neg h]
      by_cases hDX2 : D = X
      · rw [if_pos hDX2]
        exact ⟨hX, hXi, fun a j ha hXa hA => hD a j ha (by rw [hDX2]; exact hXa) hA, hT⟩
      · rw [if_neg hDX2, ← nI_succ]
        have hXs := hz_smlt hn hX
        have hYb : ∀ j, j < 32 → bt (X &&& (D ^^^ (-1))) j = (bt X j && !bt D j) := fun j hj => by
          rw [b_and, b_xor, b_m1 j hj]
          cases bt D j <;> rfl
        have hYs : hz_sm (X &&& (D ^^^ (-1))) := hz_smAnd hXs
        have hY0 : ¬ (X &&& (D ^^^ (-1))) = 0 := fun e => hDX2 (by
          apply b_ext
          intro j hj
          have q := hYb j hj
          rw [e, b_0] at q
          cases h1 : bt X j
          · cases h2 : bt D j
            · rfl
            · rw [hDX j hj h2] at h1; exact absurd h1 (by decide)
          · rw [h1] at q
            cases h2 : bt D j
            · rw [h2] at q; exact absurd q (by decide)
            · rfl)
        obtain ⟨S, s1, s2⟩ := hz_smN hYs
        obtain ⟨a, a14, -, hb, hl, -⟩ := hz_lowest hYs hY0
        rw [s2] at hb hl
        obtain ⟨el, -⟩ := hz_low s1 hb hl a14
        rw [s2, el]
        rw [← s2, hYb a (by omega)] at hb
        simp only [Bool.and_eq_true, Bool.not_eq_true'] at hb
        have ha := hX a (by omega) hb.1
        have hD1 : ∀ j, j < 32 → bt (D ||| ((1 : Int32) <<< (nI a &&& 31))) j = (bt D j || decide (a = j)) := fun j hj => by rw [b_or, hz_one (by omega) hj]
        have hX1 : ∀ j, j < 32 → bt (X ||| fX5_matchSet p (nI a)) j = (bt X j || hz_A p np a j) := fun j hj => by rw [b_or, hz_ms p hn hc ha hj]
        have b32 : ∀ (x : Int32) (j : Nat), bt x j = true → j < 32 := fun x j hj => by
          by_cases h : j < 32
          · exact h
          · rw [b_big (by omega)] at hj; exact absurd hj (by decide)
        refine ih (c + 1) _ _ hlt (by omega) (fun j hj hb2 => ?_) (fun j hj hb2 => ?_) ?_ ?_ (fun d j hd hb2 hA => ?_) (fun T hT1 hT2 j hj hb2 => ?_)
        · rw [hX1 j hj] at hb2
          simp only [Bool.or_eq_true] at hb2
          rcases hb2 with h1 | h1
          · exact hX j hj h1
          · exact (hz_An p np a j h1).2
        · rw [hD1 j hj] at hb2
          rw [hX1 j hj]
          simp only [Bool.or_eq_true, decide_eq_true_eq] at hb2
          rcases hb2 with h1 | h1
          · rw [hDX j hj h1]; rfl
          · rw [← h1, hb.1]; rfl
        · have e := hz_popR 14 (bt (D ||| ((1 : Int32) <<< (nI a &&& 31)))) a (Nat.le_refl _) (by omega) a14 (by rw [hD1 a (by omega), decide_eq_true rfl, Bool.or_true])
          have e2 : hz_pop 14 (hz_rm (bt (D ||| ((1 : Int32) <<< (nI a &&& 31)))) a) = hz_pop 14 (bt D) := hz_popC 14 _ _ (Nat.le_refl _) (fun j _ hj => by
            by_cases e : j = a
            · rw [e, hz_rms, hb.2]
            · rw [hz_rmn _ e, hD1 j (by omega), decide_eq_false (Ne.symm e), Bool.or_false])
          omega
        · rw [hX1 i (by omega), hXi]; rfl
        · rw [hD1 d (by omega)] at hb2
          simp only [Bool.or_eq_true, decide_eq_true_eq] at hb2
          have hj := (hz_An p np d j hA).2
          rw [hX1 j (by omega)]
          rcases hb2 with h1 | h1
          · rw [hD d j hd h1 hA]; rfl
          · rw [h1, hA, Bool.or_true]
        · rw [hX1 j hj] at hb2
          simp only [Bool.or_eq_true] at hb2
          rcases hb2 with h1 | h1
          · exact hT T hT1 hT2 j hj h1
          · exact hT1 a j a14 (hT T hT1 hT2 a (by omega) hb.1) h1
theorem hz_gs (hn : np ≤ 14) (hc : p.1 8 = nI np) {i : Nat} (hi : i < np) : hz_gr (hz_A p np) np i (fX5_groupSet p (nI i)) := by
  have hb : ∀ j, j < 32 → bt ((1 : Int32) <<< (nI i &&& 31)) j = decide (i = j) := fun j hj => hz_one (by omega) hj
  have h0 : hz_pop 14 (bt 0) = 0 := by
    have : ∀ k, hz_pop k (bt 0) = 0 := by
      intro k
      induction k with
      | zero => rfl
      | succ k ih => simp only [hz_pop]; rw [ih, b_0]; rfl
    exact this 14
  have L := hz_gsL hn hc hi (nI i) (np + 1) 0 0 ((1 : Int32) <<< (nI i &&& 31)) (Nat.zero_le _) (by omega) (fun j hj h => by
    rw [hb j hj] at h
    have : i = j := by simpa using h
    omega) (fun j hj h => by rw [b_0] at h; exact absurd h (by decide)) h0 (by rw [hb i (by omega)]; exact decide_eq_true rfl) (fun a j _ h => by rw [b_0] at h; exact absurd h (by decide)) (fun T _ hT j hj h => by
    rw [hb j hj] at h
    have : i = j := by simpa using h
    rw [← this]; exact hT)
  unfold fX5_groupSet
  simp only [bnd]
  rw [hc, hz_fuU (by omega)]
  rw [nI_0] at L
  exact L
/-- a round of the model's -/
theorem hz_tgI {m : Md} (hP : hz_PR p (m.2.1 m.2.2) ny ns nz np) (z1 z2 : Int32) : ∀ (fu c : Nat) (X : Int32), c ≤ np → np < fu + c → sX7_together_15 z1 z2 m fu (nI c) X ∧ (∀ j, j < 32 → bt X j = true → bt (fX7_together_15 z1 z2 m fu (nI c) X).2 j = true) ∧ (∀ a j, c ≤ a → a < 14 → bt X a = true → hz_A p np a j = true → bt (fX7_together_15 z1 z2 m fu (nI c) X).2 j = true) ∧ (∀ T : Nat → Bool, hz_cl (hz_A p np) T → (∀ j, j < 32 → bt X j = true → T j = true) → ∀ j, j < 32 → bt (fX7_together_15 z1 z2 m fu (nI c) X).2 j = true → T j = true) := by
  intro fu
  induction fu with
  | zero => intro c X h1 h2; omega
  | succ fu ih =>
    intro c X hc hf
    have hn := hz_np hP
    obtain ⟨c1, c2⟩ := hz_count hP
    simp only [fX7_together_15, sX7_together_15, c1]
    by_cases h : nI np ≤ nI c
    · rw [if_pos h]
      have h' := h
      rw [nI_leI (by omega) (by omega)] at h'
      refine ⟨⟨fun _ => trivial, fun h2 => absurd h h2⟩, fun _ _ h => h, fun a j h1 _ h2 h3 => ?_, fun T _ h j hj h2 => h j hj h2⟩
      have := hz_An p np a j h3; omega
    · have hlt : c < np := hz_c hc (by omega) h
      obtain ⟨e1, e2⟩ := hz_matches hP hlt
      rw [if_neg h, ← nI_succ, e1, hz_or0]
      cases hb : bt X c
      · rw [hz_hbF (by omega) hb, if_pos rfl]
        obtain ⟨a1, a2, a3, a4⟩ := ih (c + 1) X hlt (by omega)
        refine ⟨⟨fun h2 => absurd h2 h, fun _ => ⟨fun _ => a1, fun h2 => absurd rfl h2⟩⟩, a2, fun a j h1 h2 h3 h4 => ?_, a4⟩
        by_cases e : a = c
        · rw [e, hb] at h3; exact absurd h3 (by decide)
        · exact a3 a j (by omega) h2 h3 h4
      · rw [hz_hbT (by omega) hb, if_neg (by decide)]
        obtain ⟨a1, a2, a3, a4⟩ := ih (c + 1) (X ||| fX5_matchSet p (nI c)) hlt (by omega)
        have hX1 : ∀ j, j < 32 → bt (X ||| fX5_matchSet p (nI c)) j = (bt X j || hz_A p np c j) := fun j hj => by rw [b_or, hz_ms p hn c2 hlt hj]
        refine ⟨⟨fun h2 => absurd h2 h, fun _ => ⟨fun h2 => absurd h2 (by decide), fun _ => ⟨e2, a1⟩⟩⟩, fun j hj h2 => a2 j hj (by rw [hX1 j hj, h2]; rfl), fun a j h1 h2 h3 h4 => ?_, fun T hT hTX j hj h2 => ?_⟩
        · by_cases e : a = c
          · have hj := (hz_An p np a j h4).2
            refine a2 j (by omega) ?_
            rw [hX1 j (by omega), ← e, h4, Bool.or_true]
          · exact a3 a j (by omega) h2 (by rw [hX1 a (by omega), h3]; rfl) h4
        · refine a4 T hT (fun q hq h3 => ?_) j hj h2
          rw [hX1 q hq] at h3
          simp only [Bool.or_eq_true] at h3
          rcases h3 with h3 | h3
          · exact hTX q hq h3
          · exact hT c q (by omega) (hTX c (by omega) hb) h3
theorem hz_tgO {m : Md} (hP : hz_PR p (m.2.1 m.2.2) ny ns nz np) {i : Nat} (hi : i < np) (z : Int32) : ∀ (fu c : Nat) (X : Int32), c ≤ 14 → 14 < fu + c → (∀ j, j < 32 → bt X j = true → j < np) → bt X i = true → (hz_cl (hz_A p np) (bt X) ∨ c + 1 ≤ hz_pop 14 (bt X)) → (∀ T : Nat → Bool, hz_cl (hz_A p np) T → T i = true → ∀ j, j < 32 → bt X j = true → T j = true) → sX7_together_6 z m fu (nI c) X ∧ hz_gr (hz_A p np) np i (fX7_together_6 z m fu (nI c) X).2 := by
  intro fu
  induction fu with
  | zero => intro c X h1 h2; omega
  | succ fu ih =>
    intro c X hc hf hX hXi hcl hT
    have hn := hz_np hP
    obtain ⟨c1, c2⟩ := hz_count hP
    simp only [fX7_together_6, sX7_together_6, bnd]
    by_cases h : (14 : Int32) ≤ nI c
    · rw [if_pos h]
      have h' : nI 14 ≤ nI c := h
      rw [nI_leI (by omega) (by omega)] at h'
      refine ⟨⟨fun _ => trivial, fun h2 => absurd h h2⟩, hX, hXi, ?_, hT⟩
      rcases hcl with h1 | h1
      · exact h1
      · have := hz_pop14 14 (bt X); omega
    · have hlt : c < 14 := hz_c (n := 14) hc (by omega) h
      rw [if_neg h, ← nI_succ, c1]
      have L := hz_tgI hP z (nI c) (fuU (nI np) 0) 0 X (Nat.zero_le _) (by rw [hz_fuU (by omega)]; omega)
      rw [nI_0] at L
      obtain ⟨a1, a2, a3, a4⟩ := L
      generalize (fX7_together_15 z (nI c) m (fuU (nI np) 0) 0 X).2 = Y at *
      have aS : hz_cl (hz_A p np) (hz_aS np) := fun a j _ _ h3 => by unfold hz_aS; exact decide_eq_true (hz_An p np a j h3).2
      obtain ⟨b1, b2⟩ := ih (c + 1) Y hlt (by omega) (fun j hj h2 => by
        have := a4 (hz_aS np) aS (fun q hq h3 => by unfold hz_aS; exact decide_eq_true (hX q hq h3)) j hj h2
        exact hz_aSlt this) (a2 i (by omega) hXi) (by
        by_cases hx : hz_cl (hz_A p np) (bt X)
        · left
          intro a j ha h2 h3
          have hXa := a4 (bt X) hx (fun _ _ h => h) a (by omega) h2
          have hj := (hz_An p np a j h3).2
          exact a2 j (by omega) (hx a j ha hXa h3)
        · right
          have hp := hcl.resolve_left hx
          unfold hz_cl at hx
          obtain ⟨a, hx⟩ := Classical.not_forall.mp hx
          obtain ⟨j, hx⟩ := Classical.not_forall.mp hx
          have q1 : a < 14 := Classical.byContradiction fun hh => hx (fun h1 => absurd h1 hh)
          have q2 : bt X a = true := Classical.byContradiction fun hh => hx (fun _ h1 => absurd h1 hh)
          have q3 : hz_A p np a j = true := Classical.byContradiction fun hh => hx (fun _ _ h1 => absurd h1 hh)
          have q4 : bt X j = false := by
            cases hb : bt X j
            · rfl
            · exact absurd (fun _ _ _ => hb) hx
          have hj := (hz_An p np a j q3).2
          have := hz_popL (S := bt X) (T := bt Y) (fun j hj h => a2 j (by omega) h) (q := j) (by omega) (a3 a j (Nat.zero_le _) q1 q2 q3) q4
          omega) (fun T hT1 hT2 j hj h2 => a4 T hT1 (hT T hT1 hT2) j hj h2)
      exact ⟨⟨fun h2 => absurd h2 h, fun _ => ⟨a1, b1⟩⟩, b2⟩
theorem hz_tg {m : Md} (hP : hz_PR p (m.2.1 m.2.2) ny ns nz np) {i : Nat} (hi : i < np) : sX7_together m (nI i) ∧ fX7_together m (nI i) = fX5_groupSet p (nI i) ∧ (∃ k, fX7_lowest (fX7_together m (nI i)) = k ∧ fX6_lowestOf (fX5_groupSet p (nI i)) = k ∧ sX7_lowest (fX7_together m (nI i))) := by
  have hn := hz_np hP
  obtain ⟨c1, c2⟩ := hz_count hP
  have hb : ∀ j, j < 32 → bt ((1 : Int32) <<< (nI i &&& 31)) j = decide (i = j) := fun j hj => hz_one (by omega) hj
  have hp1 : 0 + 1 ≤ hz_pop 14 (bt ((1 : Int32) <<< (nI i &&& 31))) := by
    have := hz_popR 14 (bt ((1 : Int32) <<< (nI i &&& 31))) i (Nat.le_refl _) (by omega) (by omega) (by rw [hb i (by omega)]; exact decide_eq_true rfl)
    omega
  have hfu : 14 < fuU 14 0 + 0 := by
    unfold fuU
    rw [show (14 : Int32).toInt = 14 from rfl, show (0 : Int32).toInt = 0 from rfl]
    omega
  have L := hz_tgO hP hi (nI i) (fuU 14 0) 0 ((1 : Int32) <<< (nI i &&& 31)) (Nat.zero_le _) hfu (fun j hj h => by
    rw [hb j hj] at h
    have : i = j := by simpa using h
    omega) (by rw [hb i (by omega)]; exact decide_eq_true rfl) (Or.inr hp1) (fun T _ hT j hj h => by
    rw [hb j hj] at h
    have : i = j := by simpa using h
    rw [← this]; exact hT)
  rw [nI_0] at L
  obtain ⟨s, hg⟩ := L
  have G := hz_gs hn c2 hi
  unfold sX7_together fX7_together
  simp only [bnd]
  generalize (fX7_together_6 (nI i) m (fuU 14 0) 0 ((1 : Int32) <<< (nI i &&& 31))).2 = Y at *
  have e := hz_grU hg G
  refine ⟨⟨s, trivial⟩, e, ?_⟩
  rw [e]
  have hsm := hz_smlt hn G.1
  have h0 : ¬ fX5_groupSet p (nI i) = 0 := fun e => by
    have := G.2.1
    rw [e, b_0] at this
    exact absurd this (by decide)
  obtain ⟨a, a14, ea, hba, hl, sl⟩ := hz_lowest hsm h0
  obtain ⟨S, s1, s2⟩ := hz_smN hsm
  refine ⟨nI a, ea, ?_, sl⟩
  rw [s2] at hba hl ⊢
  exact (hz_low s1 hba hl a14).1
end HZO
section HZP
variable {w : Wd} {m : Md} {ny ns nz np : Nat}
theorem hl_groups (h : hz_RP w m ny ns nz np) : ∀ (fu i : Nat) (hi : i ≤ np) (s : Int32), fX7_groupCount_4 m fu (nI i) s = fX6_groupCount_4 w fu (nI i) s ∧ sX7_groupCount_4 m fu (nI i) s := by
  intro fu
  induction fu with
  | zero => intro i hi s; exact ⟨rfl, trivial⟩
  | succ fu ih =>
    intro i hi s
    have hn := hz_np (hz_rp h)
    obtain ⟨c1, c2⟩ := hz_count (hz_rp h)
    simp only [fX7_groupCount_4, fX6_groupCount_4, sX7_groupCount_4, c1, c2]
    by_cases c : nI np ≤ nI i
    · rw [if_pos c, if_pos c]
      exact ⟨rfl, fun _ => trivial, fun h2 => absurd c h2⟩
    · have hi : i < np := hz_c hi (by omega) c
      obtain ⟨e, se⟩ := hz_isIn (hz_rp h) hi 1
      have ei : fX5_isBoarded (w.2.2.1 1) (nI i) = fX7_isIn m (nI i) 1 := by rw [e]; rfl
      obtain ⟨t1, t2, k, t3, t4, t5⟩ := hz_tg (hz_rp h) hi
      have e0 : s + 0 = s := by rw [hz_inj, i32_add (by have := i32_rng s; have z : (0 : Int32).toInt = 0 := rfl; omega) (by have := i32_rng s; have z : (0 : Int32).toInt = 0 := rfl; omega), show (0 : Int32).toInt = 0 from rfl, Int.add_zero]
      rw [if_neg c, if_neg c, ei, t3, t4, e0, ← nI_succ]
      refine ⟨?_, fun h2 => absurd h2 c, fun _ => ⟨se, fun _ => (ih (i + 1) hi _).2, fun _ => ?_⟩⟩
      · by_cases c3 : fX7_isIn m (nI i) 1 = 0
        · rw [if_pos c3, if_pos c3]; exact (ih (i + 1) hi _).1
        · rw [if_neg c3, if_neg c3]
          by_cases c4 : k = nI i
          · rw [if_pos c4, if_pos c4]; exact (ih (i + 1) hi _).1
          · rw [if_neg c4, if_neg c4]; exact (ih (i + 1) hi _).1
      · exact ⟨t1, t5, fun _ => (ih (i + 1) hi _).2, fun _ => (ih (i + 1) hi _).2⟩
theorem hq_groupCount (h : hz_RP w m ny ns nz np) : sX7_groupCount m ∧ fX7_groupCount m = fX6_groupCount w := by
  obtain ⟨c1, c2⟩ := hz_count (hz_rp h)
  have L := hl_groups h (fuU (nI np) 0) 0 (Nat.zero_le _) 0
  rw [nI_0] at L
  obtain ⟨e, s⟩ := L
  unfold sX7_groupCount fX7_groupCount fX6_groupCount
  simp only [bnd, c1, c2, e]
  exact ⟨⟨s, trivial⟩, trivial⟩
theorem hq_groupOf (h : hz_RP w m ny ns nz np) (z : Int32) : sX7_groupOf m z ∧ fX7_groupOf m z = fX6_groupOf w z := by
  have hn : np ≤ 14 := h.2.2.1.2.2.2
  obtain ⟨s, e1, e2⟩ := hz_pz h z
  unfold sX7_groupOf fX7_groupOf fX6_groupOf
  rw [e1, e2]
  by_cases c : hz_is np z = 0
  · rw [if_pos c, if_pos c]
    exact ⟨⟨s, fun _ => trivial, fun h => absurd c h⟩, rfl⟩
  · obtain ⟨i, hi, rfl⟩ := hz_is_of (by omega) c
    obtain ⟨e, se⟩ := hz_isIn (hz_rp h) hi 1
    have ei : fX5_isBoarded (w.2.2.1 1) (nI i) = fX7_isIn m (nI i) 1 := by rw [e]; rfl
    obtain ⟨t1, t2, k, t3, t4, t5⟩ := hz_tg (hz_rp h) hi
    rw [if_neg c, if_neg c, ei, t3, t4]
    exact ⟨⟨s, fun h => absurd h c, fun _ => ⟨se, fun _ => trivial, fun _ => ⟨t1, t5, trivial⟩⟩⟩, rfl⟩
end HZP
