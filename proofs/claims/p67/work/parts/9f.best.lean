/-! The best shape, the least steam and tolerance, the best day. -/
theorem upd_id (f : Nat → Int32) (k : Nat) {v : Int32} (h : f k = v) : upd f k v = f := by
  funext j
  by_cases c : j = k
  · unfold upd; rw [if_pos c, c, h]
  · unfold upd; rw [if_neg c]
/-- b is the first greatest of K below N -/
def am (K : Nat → Nat) (N b : Nat) : Prop := b < N ∧ ∀ u, u < N → K u ≤ K b ∧ (K u = K b → b ≤ u)
def amI (K : Nat → Nat) (i : Nat) (x m : Int32) : Prop := (i = 0 ∧ m = -1) ∨ ∃ b, am K i b ∧ x = nI b ∧ m = nI (K b)
theorem am_st {K : Nat → Nat} {i : Nat} {x m : Int32} (h : amI K i x m) (hK : ∀ u, K u < 100) : (nI (K i) ≤ m → amI K (i + 1) x m) ∧ (¬ nI (K i) ≤ m → amI K (i + 1) (nI i) (nI (K i))) := by
  have hKi := hK i
  rcases h with ⟨rfl, rfl⟩ | ⟨b, ⟨b1, b2⟩, rfl, rfl⟩
  · refine ⟨fun c => ?_, fun _ => Or.inr ⟨0, ⟨Nat.one_pos, fun u hu => ?_⟩, rfl, rfl⟩⟩
    · rw [hz_le, nI_toInt (by omega), show (-1 : Int32).toInt = -1 from by decide] at c
      omega
    · rw [show u = 0 by omega]; exact ⟨Nat.le_refl _, fun _ => Nat.le_refl _⟩
  · have hKb := hK b
    refine ⟨fun c => ?_, fun c => ?_⟩
    · rw [nI_leI (by omega) (by omega)] at c
      refine Or.inr ⟨b, ⟨by omega, fun u hu => ?_⟩, rfl, rfl⟩
      by_cases cu : u = i
      · rw [cu]; exact ⟨c, fun _ => by omega⟩
      · exact b2 u (by omega)
    · rw [nI_leI (by omega) (by omega)] at c
      refine Or.inr ⟨i, ⟨Nat.lt_succ_self _, fun u hu => ?_⟩, rfl, rfl⟩
      by_cases cu : u = i
      · rw [cu]; exact ⟨Nat.le_refl _, fun _ => Nat.le_refl _⟩
      · have := (b2 u (by omega)).1
        exact ⟨by omega, fun e => by omega⟩
section BST
variable {f : Nat → Int32} {ny ns nz np n : Nat} {w : Wd}
theorem ns_8 (h : CI n w f ny ns nz np) : ns ≤ 8 := h.1.2.1.2.1
theorem l_bs (h : CI n w f ny ns nz np) {g : Nat} (hg : g ≤ 100) (hf : f 2 = nI g) {K : Nat → Nat} (hK : ∀ s, s < ns → KF (gBx f s) np (K s)) (hK7 : ∀ s, K s < 100) : ∀ (k i fu r : Nat) (x m : Int32) (y : Wd), i + k = ns → k < fu → hz_skp w y → hz_mo y r → r + 20 < 2 ^ 40 + i → amI K i x m → ∃ x' m' y' r', fX6_bestShape_6 fu (nI i) m x y = (nI ns, m', x', y') ∧ amI K ns x' m' ∧ hz_skp w y' ∧ hz_mo y' r' ∧ r' ≤ r + k := by
  intro k
  induction k with
  | zero =>
    intro i fu r x m y hi hfu hk hm hr ha
    obtain ⟨fu, rfl⟩ : ∃ a, fu = a + 1 := ⟨fu - 1, by omega⟩
    have e : fX6_bestShape_6 (fu + 1) (nI i) m x y = (if ((y.2.2.1 1).1 1) ≤ nI i then (nI i, m, x, y) else (if (fX6_pairsIfBoarded y (nI i) ((y.2.2.1 1).1 5)).1 ≤ m then (fX6_bestShape_6 fu (nI i + 1) m x (fX6_pairsIfBoarded y (nI i) ((y.2.2.1 1).1 5)).2) else (fX6_bestShape_6 fu (nI i + 1) (fX6_pairsIfBoarded y (nI i) ((y.2.2.1 1).1 5)).1 (nI i) (fX6_pairsIfBoarded y (nI i) ((y.2.2.1 1).1 5)).2))) := rfl
    have hin : i = ns := by omega
    subst hin
    refine ⟨x, m, y, r, ?_, ha, hk, hm, Nat.le_refl _⟩
    rw [e, hk.2.2.1 1 (by decide), h.1.1.2.1, if_pos (Int32.le_refl _)]
  | succ k ih =>
    intro i fu r x m y hi hfu hk hm hr ha
    obtain ⟨fu, rfl⟩ : ∃ a, fu = a + 1 := ⟨fu - 1, by omega⟩
    have hn8 := ns_8 h
    have e : fX6_bestShape_6 (fu + 1) (nI i) m x y = (if ((y.2.2.1 1).1 1) ≤ nI i then (nI i, m, x, y) else (if (fX6_pairsIfBoarded y (nI i) ((y.2.2.1 1).1 5)).1 ≤ m then (fX6_bestShape_6 fu (nI i + 1) m x (fX6_pairsIfBoarded y (nI i) ((y.2.2.1 1).1 5)).2) else (fX6_bestShape_6 fu (nI i + 1) (fX6_pairsIfBoarded y (nI i) ((y.2.2.1 1).1 5)).1 (nI i) (fX6_pairsIfBoarded y (nI i) ((y.2.2.1 1).1 5)).2))) := rfl
    have hs5 : (w.2.2.1 1).1 5 = nI g := h.1.2.2.2.1.2.2.1.symm.trans hf
    obtain ⟨y1, e1, e2, e3, e4⟩ := o_on h (r := r) (by omega) hk hm (s := i) (g := g) (by omega) hg (K := K i) (by rw [upd_id f 2 hf]; exact hK i (by omega))
    have hst := am_st ha hK7
    rw [e, hk.2.2.1 1 (by decide), h.1.1.2.1, if_neg (by rw [nI_leI (by omega) (by omega)]; omega), hs5, e1]
    by_cases c : nI (K i) ≤ m
    · rw [if_pos c, nI_1]
      obtain ⟨x', m', y', r', g1, g2, g3, g4, g5⟩ := ih (i + 1) fu (r + 1) x m y1 (by omega) (by omega) e3 e4 (by omega) (hst.1 c)
      exact ⟨x', m', y', r', g1, g2, g3, g4, by omega⟩
    · rw [if_neg c, nI_1]
      obtain ⟨x', m', y', r', g1, g2, g3, g4, g5⟩ := ih (i + 1) fu (r + 1) (nI i) (nI (K i)) y1 (by omega) (by omega) e3 e4 (by omega) (hst.2 c)
      exact ⟨x', m', y', r', g1, g2, g3, g4, by omega⟩
/-- bestShape, where there is a shape -/
theorem o_bs (h : CI n w f ny ns nz np) (hn : n ≤ 1000000) (hns : 0 < ns) {g : Nat} (hg : g ≤ 100) (hf : f 2 = nI g) {K : Nat → Nat} (hK : ∀ s, s < ns → KF (gBx f s) np (K s)) (hK7 : ∀ s, K s < 100) : ∃ b w1, fX6_bestShape w = (nI b, w1) ∧ am K ns b ∧ CI (n + 1) w1 f ny ns nz np ∧ hz_skp w w1 := by
  obtain ⟨r, r1, r2⟩ := h.2.1
  have hn8 := ns_8 h
  have hfu := hz_fuB (q := 0) (by decide)
  obtain ⟨x', m', y', r', g1, g2, g3, g4, g5⟩ := l_bs h hg hf hK hK7 ns 0 (fuU 2147483647 0) r (-1) (-1) w (Nat.zero_add _) (by rw [show nI 0 = 0 from rfl] at hfu; omega) (hz_skp0 w) r2 (by omega) (Or.inl ⟨rfl, rfl⟩)
  rcases g2 with ⟨g2, -⟩ | ⟨b, g2, rfl, -⟩
  · omega
  · refine ⟨b, y', ?_, g2, ci_skp h g3 (by omega) g4, g3⟩
    have e : fX6_bestShape w = ((fX6_bestShape_6 (fuU 2147483647 0) (nI 0) (-1) (-1) w).2.2.1, (fX6_bestShape_6 (fuU 2147483647 0) (nI 0) (-1) (-1) w).2.2.2) := rfl
    rw [e, g1]
theorem is_sh (h : CI n w f ny ns nz np) {s : Nat} (hs : s < ns) : ¬ fX6_isShape w (nI s) = 0 := by
  have hRP : hz_RP w (gm f) ny ns nz np := ⟨rfl, h.1⟩
  have hn8 := ns_8 h
  rw [(hz_shz hRP (nI s)).2.2]
  unfold hz_is
  rw [if_neg (nI_pos (by omega)), if_neg (by rw [nI_leI (by omega) (by omega)]; omega)]
  decide
/-- ifAllBoarded -/
theorem o_ia (h : CI n w f ny ns nz np) (hn : n ≤ 1000000) {s g : Nat} (hs : s < ns) (hg : g ≤ 100) (hf : f 2 = nI g) {K : Nat} (hK : KF (gBx f s) np K) : ∃ w1, fX6_ifAllBoarded w (nI s) = (nI K, w1) ∧ K ≤ 7 ∧ CI (n + 1) w1 f ny ns nz np ∧ hz_skp w w1 := by
  obtain ⟨r, r1, r2⟩ := h.2.1
  have hs5 : (w.2.2.1 1).1 5 = nI g := h.1.2.2.2.1.2.2.1.symm.trans hf
  obtain ⟨y1, e1, e2, e3, e4⟩ := o_on h (r := r) (by omega) (hz_skp0 w) r2 hs hg (K := K) (by rw [upd_id f 2 hf]; exact hK)
  refine ⟨y1, ?_, e2, ci_skp h e3 (by omega) e4, e3⟩
  have e : fX6_ifAllBoarded w (nI s) = (if (fX6_isShape w (nI s)) = 0 then ((-2), w) else ((fX6_pairsIfBoarded w (nI s) ((w.2.2.1 1).1 5)).1, (fX6_pairsIfBoarded w (nI s) ((w.2.2.1 1).1 5)).2)) := rfl
  rw [e, if_neg (is_sh h hs), hs5, e1]
/-- leastSteam -/
def lsI (K : Nat → Nat) (a : Nat) (x : Int32) : Prop := (x = -1 ∧ ∀ t, t ≤ 100 → K t < a) ∨ ∃ t, t ≤ 100 ∧ x = nI t ∧ a ≤ K t ∧ ∀ u, u < t → K u < a
theorem l_ls (h : CI n w f ny ns nz np) {s a : Nat} (hs : s < ns) (ha : a < 100) {K : Nat → Nat} (hK : ∀ t, t ≤ 100 → KF (gBx (upd f 2 (nI t)) s) np (K t)) : ∀ (k i fu r : Nat) (y : Wd), i + k = 101 → k < fu → hz_skp w y → hz_mo y r → r + 200 < 2 ^ 40 + i → (∀ u, u < i → K u < a) → ∃ x' y' r', fX6_leastSteam_23 (nI s) (nI a) fu (nI i) y = (x', y') ∧ lsI K a x' ∧ hz_skp w y' ∧ hz_mo y' r' ∧ r' ≤ r + k := by
  intro k
  induction k with
  | zero =>
    intro i fu r y hi hfu hk hm hr hp
    obtain ⟨fu, rfl⟩ : ∃ a, fu = a + 1 := ⟨fu - 1, by omega⟩
    have e : fX6_leastSteam_23 (nI s) (nI a) (fu + 1) (nI i) y = (if 100 < nI i then ((-1), y) else (if (fX6_pairsIfBoarded y (nI s) (nI i)).1 < nI a then (fX6_leastSteam_23 (nI s) (nI a) fu (nI i + 1) (fX6_pairsIfBoarded y (nI s) (nI i)).2) else (nI i, (fX6_pairsIfBoarded y (nI s) (nI i)).2))) := rfl
    refine ⟨-1, y, r, ?_, Or.inl ⟨rfl, fun t ht => hp t (by omega)⟩, hk, hm, Nat.le_refl _⟩
    rw [e, if_pos (by rw [show (100 : Int32) = nI 100 from rfl, nI_ltI (by decide) (by omega)]; omega)]
  | succ k ih =>
    intro i fu r y hi hfu hk hm hr hp
    obtain ⟨fu, rfl⟩ : ∃ a, fu = a + 1 := ⟨fu - 1, by omega⟩
    have e : fX6_leastSteam_23 (nI s) (nI a) (fu + 1) (nI i) y = (if 100 < nI i then ((-1), y) else (if (fX6_pairsIfBoarded y (nI s) (nI i)).1 < nI a then (fX6_leastSteam_23 (nI s) (nI a) fu (nI i + 1) (fX6_pairsIfBoarded y (nI s) (nI i)).2) else (nI i, (fX6_pairsIfBoarded y (nI s) (nI i)).2))) := rfl
    obtain ⟨y1, e1, e2, e3, e4⟩ := o_on h (r := r) (by omega) hk hm (s := s) (g := i) hs (by omega) (hK i (by omega))
    rw [e, if_neg (by rw [show (100 : Int32) = nI 100 from rfl, nI_ltI (by decide) (by omega)]; omega), e1]
    by_cases c : K i < a
    · rw [if_pos (by rw [nI_ltI (by omega) (by omega)]; exact c), nI_1]
      obtain ⟨x', y', r', g1, g2, g3, g4, g5⟩ := ih (i + 1) fu (r + 1) y1 (by omega) (by omega) e3 e4 (by omega) (fun u hu => by
        by_cases cu : u = i
        · rw [cu]; exact c
        · exact hp u (by omega))
      exact ⟨x', y', r', g1, g2, g3, g4, by omega⟩
    · rw [if_neg (by rw [nI_ltI (by omega) (by omega)]; exact c)]
      exact ⟨nI i, y1, r + 1, rfl, Or.inr ⟨i, by omega, rfl, by omega, hp⟩, e3, e4, by omega⟩
theorem btw_17 {a : Nat} (h1 : 1 ≤ a) (h2 : a ≤ 7) : ¬ fX6_isBetween (nI a) 1 7 = 0 := btw_ok (a := 1) (b := 7) h1 h2 (by decide)
theorem o_ls (h : CI n w f ny ns nz np) (hn : n ≤ 1000000) {s a : Nat} (hs : s < ns) (h1 : 1 ≤ a) (h2 : a ≤ 7) {K : Nat → Nat} (hK : ∀ t, t ≤ 100 → KF (gBx (upd f 2 (nI t)) s) np (K t)) : ∃ x w1, fX6_leastSteam w (nI s) (nI a) = (x, w1) ∧ lsI K a x ∧ CI (n + 1) w1 f ny ns nz np ∧ hz_skp w w1 := by
  obtain ⟨r, r1, r2⟩ := h.2.1
  obtain ⟨x', y', r', g1, g2, g3, g4, g5⟩ := l_ls h hs (show a < 100 by omega) hK 101 0 (fuL 100 0) r w (by decide) (by decide) (hz_skp0 w) r2 (by omega) (fun u hu => absurd hu (Nat.not_lt_zero u))
  refine ⟨x', y', ?_, g2, ci_skp h g3 (by omega) g4, g3⟩
  have e : fX6_leastSteam w (nI s) (nI a) = (if (fX6_isShape w (nI s)) = 0 then ((-2), w) else (if (fX6_isBetween (nI a) 1 7) = 0 then ((-2), w) else (fX6_leastSteam_23 (nI s) (nI a) (fuL 100 0) (nI 0) w))) := rfl
  rw [e, if_neg (is_sh h hs), if_neg (btw_17 h1 h2), g1]
end BST
