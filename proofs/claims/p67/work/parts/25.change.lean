/-! The plant's changing functions: model and class change alike. -/
theorem hz_fr {p p1 : Pl} {f f1 : Nat → Int32} {ny ns nz np : Nat} (hP : hz_PR p f ny ns nz np) (h1 : ∀ k, k < 9 → p1.1 k = p.1 k) (h2 : ∀ r i, r < 14 → i < plLen r → p1.2 r i = p.2 r i) (h3 : ∀ j, j < 146 → f1 j = f j) : hz_PR p1 f1 ny ns nz np := by
  obtain ⟨⟨a0, a1, a2, a3⟩, ⟨b0, b1, b2, b3⟩, ⟨c0, c1, c2, c3⟩, ⟨d0, d1, d2, d3, d4⟩, ⟨e0, e1, e2, e3⟩, g1, g2, g3, g4⟩ := hP
  refine ⟨⟨?_, ?_, ?_, ?_⟩, ⟨b0, b1, b2, b3⟩, ⟨?_, ?_, ?_, ?_⟩, ⟨?_, ?_, ?_, ?_, ?_⟩, ⟨?_, ?_, ?_, ?_⟩, fun i hi => ?_, fun i hi => ?_, fun i hi => ?_, fun i hi => ?_⟩
  · rw [h1 _ (by decide)]; exact a0
  · rw [h1 _ (by decide)]; exact a1
  · rw [h1 _ (by decide)]; exact a2
  · rw [h1 _ (by decide)]; exact a3
  · rw [h3 _ (by decide)]; exact c0
  · rw [h3 _ (by decide)]; exact c1
  · rw [h3 _ (by decide)]; exact c2
  · rw [h3 _ (by decide)]; exact c3
  · rw [h3 _ (by decide), h1 _ (by decide)]; exact d0
  · rw [h3 _ (by decide), h1 _ (by decide)]; exact d1
  · rw [h3 _ (by decide), h1 _ (by decide)]; exact d2
  · rw [h3 _ (by decide), h1 _ (by decide)]; exact d3
  · rw [h3 _ (by decide), h1 _ (by decide)]; exact d4
  · rw [h1 _ (by decide)]; exact e0
  · rw [h1 _ (by decide)]; exact e1
  · rw [h1 _ (by decide)]; exact e2
  · rw [h1 _ (by decide)]; exact e3
  · have q := g1 i hi
    rw [h2 0 i (by decide) (show i < 6 by omega), h2 1 i (by decide) (show i < 6 by omega), h2 2 i (by decide) (show i < 6 by omega), h3 _ (by omega), h3 _ (by omega), h3 _ (by omega)]
    exact q
  · have q := g2 i hi
    rw [h2 3 i (by decide) (show i < 8 by omega), h2 4 i (by decide) (show i < 8 by omega), h3 _ (by omega), h3 _ (by omega)]
    exact q
  · have q := g3 i hi
    rw [h2 5 i (by decide) (show i < 6 by omega), h2 6 i (by decide) (show i < 6 by omega), h2 7 i (by decide) (show i < 6 by omega), h3 _ (by omega), h3 _ (by omega), h3 _ (by omega)]
    exact q
  · have q := g4 i hi
    rw [h2 8 i (by decide) (show i < 14 by omega), h2 9 i (by decide) (show i < 14 by omega), h2 10 i (by decide) (show i < 14 by omega), h2 11 i (by decide) (show i < 14 by omega), h2 12 i (by decide) (show i < 14 by omega), h2 13 i (by decide) (show i < 14 by omega), h3 _ (by omega), h3 _ (by omega), h3 _ (by omega), h3 _ (by omega), h3 _ (by omega), h3 _ (by omega)]
    exact q
/-- a setting changes -/
theorem hz_uset {p p1 : Pl} {f f1 : Nat → Int32} {ny ns nz np : Nat} (hP : hz_PR p f ny ns nz np) (h1 : ∀ k, k < 9 → ¬ (3 ≤ k ∧ k ≤ 7) → p1.1 k = p.1 k) (h2 : p1.2 = p.2) (h3 : ∀ j, 5 ≤ j → f1 j = f j) (hs : f1 0 = p1.1 3 ∧ f1 1 = p1.1 4 ∧ f1 2 = p1.1 5 ∧ f1 3 = p1.1 6 ∧ f1 4 = p1.1 7) (hr : hz_rg 0 500 (p1.1 3) ∧ hz_rg 0 255 (p1.1 4) ∧ hz_rg 0 100 (p1.1 5) ∧ hz_rg 1 6 (p1.1 6)) : hz_PR p1 f1 ny ns nz np := by
  obtain ⟨⟨a0, a1, a2, a3⟩, ⟨b0, b1, b2, b3⟩, ⟨c0, c1, c2, c3⟩, -, -, g1, g2, g3, g4⟩ := hP
  refine ⟨⟨?_, ?_, ?_, ?_⟩, ⟨b0, b1, b2, b3⟩, ⟨?_, ?_, ?_, ?_⟩, hs, hr, fun i hi => ?_, fun i hi => ?_, fun i hi => ?_, fun i hi => ?_⟩
  · rw [h1 _ (by decide) (by decide)]; exact a0
  · rw [h1 _ (by decide) (by decide)]; exact a1
  · rw [h1 _ (by decide) (by decide)]; exact a2
  · rw [h1 _ (by decide) (by decide)]; exact a3
  · rw [h3 _ (by decide)]; exact c0
  · rw [h3 _ (by decide)]; exact c1
  · rw [h3 _ (by decide)]; exact c2
  · rw [h3 _ (by decide)]; exact c3
  · have q := g1 i hi
    rw [h2, h3 _ (by omega), h3 _ (by omega), h3 _ (by omega)]
    exact q
  · have q := g2 i hi
    rw [h2, h3 _ (by omega), h3 _ (by omega)]
    exact q
  · have q := g3 i hi
    rw [h2, h3 _ (by omega), h3 _ (by omega), h3 _ (by omega)]
    exact q
  · have q := g4 i hi
    rw [h2, h3 _ (by omega), h3 _ (by omega), h3 _ (by omega), h3 _ (by omega), h3 _ (by omega), h3 _ (by omega)]
    exact q
/-- what is said of a piece -/
def hz_pc (p : Pl) (f : Nat → Int32) (ny i : Nat) : Prop := (f (62 + 6 * i) = p.2 8 i ∧ f (63 + 6 * i) = p.2 9 i ∧ f (64 + 6 * i) = p.2 10 i ∧ f (65 + 6 * i) = p.2 11 i ∧ f (66 + 6 * i) = p.2 12 i ∧ f (67 + 6 * i) = p.2 13 i) ∧
    (∃ y, y < ny ∧ p.2 8 i = nI y) ∧ (∃ k, k < 3 ∧ p.2 9 i = nI k) ∧ hz_rg 500 9999 (p.2 10 i) ∧ hz_rg 500 9999 (p.2 11 i) ∧ hz_rg 0 255 (p.2 12 i) ∧ (∃ s, s < 4 ∧ p.2 13 i = nI s)
theorem hz_upc {p p1 : Pl} {f f1 : Nat → Int32} {ny ns nz np : Nat} (hP : hz_PR p f ny ns nz np) (h1 : p1.1 = p.1) (h2 : ∀ r, r < 8 → p1.2 r = p.2 r) (h3 : ∀ j, j < 62 → f1 j = f j) (h4 : ∀ i, i < np → hz_pc p1 f1 ny i) : hz_PR p1 f1 ny ns nz np := by
  obtain ⟨⟨a0, a1, a2, a3⟩, ⟨b0, b1, b2, b3⟩, ⟨c0, c1, c2, c3⟩, ⟨d0, d1, d2, d3, d4⟩, e, g1, g2, g3, g4⟩ := hP
  refine ⟨by rw [h1]; exact ⟨a0, a1, a2, a3⟩, ⟨b0, b1, b2, b3⟩, ⟨?_, ?_, ?_, ?_⟩, ⟨?_, ?_, ?_, ?_, ?_⟩, by rw [h1]; exact e, fun i hi => ?_, fun i hi => ?_, fun i hi => ?_, h4⟩
  · rw [h3 _ (by decide)]; exact c0
  · rw [h3 _ (by decide)]; exact c1
  · rw [h3 _ (by decide)]; exact c2
  · rw [h3 _ (by decide)]; exact c3
  · rw [h3 _ (by decide), h1]; exact d0
  · rw [h3 _ (by decide), h1]; exact d1
  · rw [h3 _ (by decide), h1]; exact d2
  · rw [h3 _ (by decide), h1]; exact d3
  · rw [h3 _ (by decide), h1]; exact d4
  · have q := g1 i hi
    rw [h2 0 (by decide), h2 1 (by decide), h2 2 (by decide), h3 _ (by omega), h3 _ (by omega), h3 _ (by omega)]
    exact q
  · have q := g2 i hi
    rw [h2 3 (by decide), h2 4 (by decide), h3 _ (by omega), h3 _ (by omega)]
    exact q
  · have q := g3 i hi
    rw [h2 5 (by decide), h2 6 (by decide), h2 7 (by decide), h3 _ (by omega), h3 _ (by omega), h3 _ (by omega)]
    exact q
theorem hz_upR {p : Pl} {r q : Nat} {f : Nat → Int32} (h : ¬ q = r) : (upR p r f).2 q = p.2 q := by
  show (if q = r then f else p.2 q) = _
  rw [if_neg h]
theorem hz_upRs {p : Pl} {r : Nat} {f : Nat → Int32} : (upR p r f).2 r = f := by
  show (if r = r then f else p.2 r) = _
  rw [if_pos rfl]
/-- a piece's length, shade, state change -/
theorem hz_u11 {p : Pl} {f : Nat → Int32} {ny ns nz np : Nat} (hP : hz_PR p f ny ns nz np) {i : Nat} (hi : i < np) {v : Int32} (hv : hz_rg 500 9999 v) : hz_PR (upR p 11 (fX6_put 14 (p.2 11) (nI i) v)) (upd f (65 + 6 * i) v) ny ns nz np := by
  have hn : np ≤ 14 := hP.2.1.2.2.2
  rw [hz_put _ _ (show i < 14 by omega) (by decide)]
  refine hz_upc hP rfl (fun r hr => hz_upR (by omega)) (fun j hj => pk_un (by omega)) (fun j hj => ?_)
  obtain ⟨⟨a0, a1, a2, a3, a4, a5⟩, b1, b2, b3, b4, b5, b6⟩ := hP.2.2.2.2.2.2.2.2 j hj
  unfold hz_pc
  rw [hz_upR (show ¬ 8 = 11 by decide), hz_upR (show ¬ 9 = 11 by decide), hz_upR (show ¬ 10 = 11 by decide), hz_upR (show ¬ 12 = 11 by decide), hz_upR (show ¬ 13 = 11 by decide), hz_upRs, pk_un (by omega), pk_un (by omega), pk_un (by omega), pk_un (show 66 + 6 * j ≠ 65 + 6 * i by omega), pk_un (show 67 + 6 * j ≠ 65 + 6 * i by omega)]
  by_cases hji : j = i
  · subst hji
    rw [pk_us, pk_us]
    exact ⟨⟨a0, a1, a2, rfl, a4, a5⟩, b1, b2, b3, hv, b5, b6⟩
  · rw [pk_un (show 65 + 6 * j ≠ 65 + 6 * i by omega), pk_un hji]
    exact ⟨⟨a0, a1, a2, a3, a4, a5⟩, b1, b2, b3, b4, b5, b6⟩
theorem hz_u12 {p : Pl} {f : Nat → Int32} {ny ns nz np : Nat} (hP : hz_PR p f ny ns nz np) {i : Nat} (hi : i < np) {v : Int32} (hv : hz_rg 0 255 v) : hz_PR (upR p 12 (fX6_put 14 (p.2 12) (nI i) v)) (upd f (66 + 6 * i) v) ny ns nz np := by
  have hn : np ≤ 14 := hP.2.1.2.2.2
  rw [hz_put _ _ (show i < 14 by omega) (by decide)]
  refine hz_upc hP rfl (fun r hr => hz_upR (by omega)) (fun j hj => pk_un (by omega)) (fun j hj => ?_)
  obtain ⟨⟨a0, a1, a2, a3, a4, a5⟩, b1, b2, b3, b4, b5, b6⟩ := hP.2.2.2.2.2.2.2.2 j hj
  unfold hz_pc
  rw [hz_upR (show ¬ 8 = 12 by decide), hz_upR (show ¬ 9 = 12 by decide), hz_upR (show ¬ 10 = 12 by decide), hz_upR (show ¬ 11 = 12 by decide), hz_upR (show ¬ 13 = 12 by decide), hz_upRs, pk_un (by omega), pk_un (by omega), pk_un (by omega), pk_un (show 65 + 6 * j ≠ 66 + 6 * i by omega), pk_un (show 67 + 6 * j ≠ 66 + 6 * i by omega)]
  by_cases hji : j = i
  · subst hji
    rw [pk_us, pk_us]
    exact ⟨⟨a0, a1, a2, a3, rfl, a5⟩, b1, b2, b3, b4, hv, b6⟩
  · rw [pk_un (show 66 + 6 * j ≠ 66 + 6 * i by omega), pk_un hji]
    exact ⟨⟨a0, a1, a2, a3, a4, a5⟩, b1, b2, b3, b4, b5, b6⟩
theorem hz_u13 {p : Pl} {f : Nat → Int32} {ny ns nz np : Nat} (hP : hz_PR p f ny ns nz np) {i : Nat} (hi : i < np) {v : Int32} (hv : ∃ s, s < 4 ∧ v = nI s) : hz_PR (upR p 13 (fX6_put 14 (p.2 13) (nI i) v)) (upd f (67 + 6 * i) v) ny ns nz np := by
  have hn : np ≤ 14 := hP.2.1.2.2.2
  rw [hz_put _ _ (show i < 14 by omega) (by decide)]
  refine hz_upc hP rfl (fun r hr => hz_upR (by omega)) (fun j hj => pk_un (by omega)) (fun j hj => ?_)
  obtain ⟨⟨a0, a1, a2, a3, a4, a5⟩, b1, b2, b3, b4, b5, b6⟩ := hP.2.2.2.2.2.2.2.2 j hj
  unfold hz_pc
  rw [hz_upR (show ¬ 8 = 13 by decide), hz_upR (show ¬ 9 = 13 by decide), hz_upR (show ¬ 10 = 13 by decide), hz_upR (show ¬ 11 = 13 by decide), hz_upR (show ¬ 12 = 13 by decide), hz_upRs, pk_un (by omega), pk_un (by omega), pk_un (by omega), pk_un (show 65 + 6 * j ≠ 67 + 6 * i by omega), pk_un (show 66 + 6 * j ≠ 67 + 6 * i by omega)]
  by_cases hji : j = i
  · subst hji
    rw [pk_us, pk_us]
    exact ⟨⟨a0, a1, a2, a3, a4, rfl⟩, b1, b2, b3, b4, b5, hv⟩
  · rw [pk_un (show 67 + 6 * j ≠ 67 + 6 * i by omega), pk_un hji]
    exact ⟨⟨a0, a1, a2, a3, a4, a5⟩, b1, b2, b3, b4, b5, b6⟩
theorem hz_cpr {n i : Nat} (hi : i < n) (hn : n < 2147483648) (f g : Nat → Int32) : fX6_copyRow n f n g i = f i := by
  have e : (imn (nI n) (nI n)).toNatClampNeg = n := by
    unfold imn
    rw [if_neg (nI_nlt (Nat.le_refl n) (by omega)), nI_clamp (by omega)]
  unfold fX6_copyRow
  rw [e, show (0 : Int32).toNatClampNeg = 0 from rfl, pk_cpy_in (Nat.zero_le _) (by omega)]
  congr 1
  omega
theorem hz_copy (p p2 : Pl) : (∀ k, k < 9 → (fX5_copyFrom p p2).1 k = p2.1 k) ∧ (∀ r i, r < 14 → i < plLen r → (fX5_copyFrom p p2).2 r i = p2.2 r i) := by
  refine ⟨fun k hk => ?_, fun r i hr hi => ?_⟩
  · match k, hk with
    | 0, _ => rfl
    | 1, _ => rfl
    | 2, _ => rfl
    | 3, _ => rfl
    | 4, _ => rfl
    | 5, _ => rfl
    | 6, _ => rfl
    | 7, _ => rfl
    | 8, _ => rfl
  · match r, hr with
    | 0, _ => exact hz_cpr (n := 6) hi (by decide) (p2.2 0) _
    | 1, _ => exact hz_cpr (n := 6) hi (by decide) (p2.2 1) _
    | 2, _ => exact hz_cpr (n := 6) hi (by decide) (p2.2 2) _
    | 3, _ => exact hz_cpr (n := 8) hi (by decide) (p2.2 3) _
    | 4, _ => exact hz_cpr (n := 8) hi (by decide) (p2.2 4) _
    | 5, _ => exact hz_cpr (n := 6) hi (by decide) (p2.2 5) _
    | 6, _ => exact hz_cpr (n := 6) hi (by decide) (p2.2 6) _
    | 7, _ => exact hz_cpr (n := 6) hi (by decide) (p2.2 7) _
    | 8, _ => exact hz_cpr (n := 14) hi (by decide) (p2.2 8) _
    | 9, _ => exact hz_cpr (n := 14) hi (by decide) (p2.2 9) _
    | 10, _ => exact hz_cpr (n := 14) hi (by decide) (p2.2 10) _
    | 11, _ => exact hz_cpr (n := 14) hi (by decide) (p2.2 11) _
    | 12, _ => exact hz_cpr (n := 14) hi (by decide) (p2.2 12) _
    | 13, _ => exact hz_cpr (n := 14) hi (by decide) (p2.2 13) _
theorem hz_cp {p p2 : Pl} {f f1 : Nat → Int32} {ny ns nz np : Nat} (hP : hz_PR p2 f ny ns nz np) (h3 : ∀ j, j < 146 → f1 j = f j) : hz_PR (fX5_copyFrom p p2) f1 ny ns nz np := hz_fr hP (hz_copy p p2).1 (hz_copy p p2).2 h3
/-- the model changes in the row that is now, no more -/
def hz_ch (m m1 : Md) : Prop := m1.1 = m.1 ∧ m1.2.2 = m.2.2 ∧ ∀ k, ¬ k = m.2.2 → m1.2.1 k = m.2.1 k
theorem hz_ch0 (m : Md) : hz_ch m m := ⟨rfl, rfl, fun _ _ => rfl⟩
theorem hz_chT {a b c : Md} (h : hz_ch a b) (g : hz_ch b c) : hz_ch a c := ⟨g.1.trans h.1, g.2.1.trans h.2.1, fun k hk => (g.2.2 k (by rw [h.2.1]; exact hk)).trans (h.2.2 k hk)⟩
theorem hz_chA (m : Md) (f : Nat → Int32) : hz_ch m (mA m m.2.2 f) := ⟨rfl, rfl, fun k hk => if_neg hk⟩
theorem hz_mAs (m : Md) (k : Nat) (f : Nat → Int32) : (mA m k f).2.1 k = f := if_pos rfl
section HZB
variable {m : Md} {p : Pl} {ny ns nz np : Nat}
theorem hz_put1 (hP : hz_PR p (m.2.1 m.2.2) ny ns nz np) {i s : Nat} (hi : i < np) (hs : s < ns) : sX7_put m (nI i) (nI s) ∧ (fX7_put m (nI i) (nI s)).1 = (fX5_boardOn p (nI i) (nI s)).1 ∧ hz_PR (fX5_boardOn p (nI i) (nI s)).2 ((fX7_put m (nI i) (nI s)).2.2.1 m.2.2) ny ns nz np ∧ hz_ch m (fX7_put m (nI i) (nI s)).2 := by
  have hn := hz_np hP
  have g3 : fX7_at (nI i) 3 = nI (65 + 6 * i) := by rw [show 65 + 6 * i = 62 + 6 * i + 3 by omega]; exact hz_ia3 62 6 3 i
  have g5 : fX7_at (nI i) 5 = nI (67 + 6 * i) := by rw [show 67 + 6 * i = 62 + 6 * i + 5 by omega]; exact hz_ia3 62 6 5 i
  have v3 : vp_in (fX7_at (nI i) 3) 146 := by rw [g3]; exact vp_in_nI (by omega) (by omega)
  have v5 : vp_in (fX7_at (nI i) 5) 146 := by rw [g5]; exact vp_in_nI (by omega) (by omega)
  obtain ⟨l1, l2⟩ := hz_lenOn hP hi hs
  obtain ⟨o1, o2, o3⟩ := hz_lon hP hi hs
  refine ⟨⟨(hz_tear hP hi hs).2, fun _ => ⟨o2, v3, v5, trivial⟩, fun _ => ⟨v5, trivial⟩⟩, ?_⟩
  unfold fX7_put fX5_boardOn
  simp only [bnd]
  by_cases ht : fX7_wouldTear m (nI i) (nI s) = 0
  · have hne : ¬ fX5_lengthOn p (nI i) (nI s) = -1 := fun h => l2.mp h ht
    rw [if_pos ht] at l1
    rw [if_pos ht, if_neg hne, l1, o1, g3, g5, nI_clamp (by omega), nI_clamp (by omega)]
    refine ⟨rfl, ?_, hz_chT (hz_chA m _) (hz_chA (mA m m.2.2 _) _)⟩
    have q1 := hz_u11 hP hi o3
    have q2 := hz_u13 q1 hi (v := 1) ⟨1, by decide, rfl⟩
    rw [hz_upR (show ¬ 13 = 11 by decide)] at q2
    show hz_PR _ ((mA (mA m m.2.2 _) m.2.2 _).2.1 m.2.2) ny ns nz np
    rw [hz_mAs]
    show hz_PR _ (upd ((mA m m.2.2 _).2.1 m.2.2) _ _) ny ns nz np
    rw [hz_mAs]
    exact q2
  · rw [if_neg ht, if_pos (l2.mpr ht), g5, nI_clamp (by omega)]
    refine ⟨rfl, ?_, hz_chA m _⟩
    show hz_PR _ ((mA m m.2.2 _).2.1 m.2.2) ny ns nz np
    rw [hz_mAs]
    exact hz_u13 hP hi ⟨2, by decide, rfl⟩
theorem hz_putL {s : Nat} (hs : s < ns) : ∀ (fu i : Nat) (hi : i ≤ np) (c : Int32) (m : Md) (p : Pl) (hP : hz_PR p (m.2.1 m.2.2) ny ns nz np), sX7_putAll_4 (nI s) fu (nI i) c m ∧ (fX7_putAll_4 (nI s) fu (nI i) c m).2.1 = (fX5_boardRaw_4 (nI s) fu (nI i) c p).2.1 ∧ hz_PR (fX5_boardRaw_4 (nI s) fu (nI i) c p).2.2 ((fX7_putAll_4 (nI s) fu (nI i) c m).2.2.2.1 m.2.2) ny ns nz np ∧ hz_ch m (fX7_putAll_4 (nI s) fu (nI i) c m).2.2 := by
  intro fu
  induction fu with
  | zero => intro i hi c m p hP; exact ⟨trivial, rfl, hP, hz_ch0 m⟩
  | succ fu ih =>
    intro i hi c m p hP
    have hn := hz_np hP
    obtain ⟨c1, c2⟩ := hz_count hP
    simp only [fX7_putAll_4, fX5_boardRaw_4, sX7_putAll_4, c1, c2]
    by_cases h : nI np ≤ nI i
    · rw [if_pos h, if_pos h]
      exact ⟨⟨fun _ => trivial, fun h2 => absurd h h2⟩, rfl, hP, hz_ch0 m⟩
    · have hi : i < np := hz_c hi (by omega) h
      obtain ⟨e1, e2⟩ := hz_isIn hP hi 0
      rw [if_neg h, if_neg h, e1, ← nI_succ]
      by_cases h0 : fX6_at 14 (p.2 13) (nI i) = 0
      · obtain ⟨a1, a2, a3, a4⟩ := hz_put1 hP hi hs
        have hP2 : hz_PR (fX5_boardOn p (nI i) (nI s)).2 ((fX7_put m (nI i) (nI s)).2.2.1 (fX7_put m (nI i) (nI s)).2.2.2) ny ns nz np := by rw [a4.2.1]; exact a3
        rw [if_pos h0, if_pos h0, if_neg (by decide)]
        simp only [bnd]
        rw [a2]
        by_cases h3 : (fX5_boardOn p (nI i) (nI s)).1 = 0
        · rw [if_pos h3, if_pos h3]
          obtain ⟨b1, b2, b3, b4⟩ := ih (i + 1) hi c _ _ hP2
          rw [a4.2.1] at b3
          exact ⟨⟨fun h2 => absurd h2 h, fun _ => ⟨e2, fun h => absurd h (by decide), fun _ => ⟨a1, fun _ => b1, fun h2 => absurd h3 h2⟩⟩⟩, b2, b3, hz_chT a4 b4⟩
        · rw [if_neg h3, if_neg h3]
          obtain ⟨b1, b2, b3, b4⟩ := ih (i + 1) hi (c + 1) _ _ hP2
          rw [a4.2.1] at b3
          exact ⟨⟨fun h2 => absurd h2 h, fun _ => ⟨e2, fun h => absurd h (by decide), fun _ => ⟨a1, fun h2 => absurd h2 h3, fun _ => b1⟩⟩⟩, b2, b3, hz_chT a4 b4⟩
      · rw [if_neg h0, if_neg h0, if_pos rfl]
        obtain ⟨b1, b2, b3, b4⟩ := ih (i + 1) hi c m p hP
        exact ⟨⟨fun h2 => absurd h2 h, fun _ => ⟨e2, fun _ => b1, fun h => absurd rfl h⟩⟩, b2, b3, b4⟩
theorem hz_putA (hP : hz_PR p (m.2.1 m.2.2) ny ns nz np) {s : Nat} (hs : s < ns) : sX7_putAll m (nI s) ∧ (fX7_putAll m (nI s)).1 = (fX5_boardRaw p (nI s)).1 ∧ hz_PR (fX5_boardRaw p (nI s)).2 ((fX7_putAll m (nI s)).2.2.1 m.2.2) ny ns nz np ∧ hz_ch m (fX7_putAll m (nI s)).2 := by
  have h := hz_putL (ny := ny) (nz := nz) hs (fuU 2147483647 0) 0 (Nat.zero_le np) 0 m p hP
  rw [nI_0] at h
  exact ⟨⟨h.1, trivial⟩, h.2.1, h.2.2.1, h.2.2.2⟩
/-- a day's length -/
theorem hz_dayR {l k g : Int32} (hl : hz_rg 500 9999 l) (hk : hz_rg 500 9999 k) (hg : hz_rg 0 50 g) : hz_rg 500 9999 (l - ((l - k) * g) / 100) ∧ (l - ((l - k) * g) / 100 = l ↔ ((l - k) * g) / 100 = 0) := by
  obtain ⟨l1, l2⟩ := hl
  obtain ⟨t1, t2⟩ := hk
  obtain ⟨g1, g2⟩ := hg
  have es : (l - k).toInt = l.toInt - k.toInt := hz_sub (by omega) (by omega)
  have hm1 : -949900 ≤ (l.toInt - k.toInt) * g.toInt ∧ (l.toInt - k.toInt) * g.toInt ≤ 949900 := by
    obtain ⟨gn, eg⟩ : ∃ gn : Nat, g.toInt = gn := ⟨g.toInt.toNat, by omega⟩
    rw [eg] at g2 ⊢
    have hg9 : gn ≤ 50 := by omega
    constructor
    · have := Int.mul_le_mul_of_nonneg_right (show (-9499 : Int) ≤ l.toInt - k.toInt by omega) (show (0 : Int) ≤ gn by omega)
      omega
    · have := Int.mul_le_mul_of_nonneg_right (show l.toInt - k.toInt ≤ (9499 : Int) by omega) (show (0 : Int) ≤ gn by omega)
      omega
  have em : ((l - k) * g).toInt = (l.toInt - k.toInt) * g.toInt := by rw [hz_mul (by rw [es]; omega) (by rw [es]; omega), es]
  have ed : (((l - k) * g) / 100).toInt = ((l.toInt - k.toInt) * g.toInt).tdiv 100 := by
    rw [Int32.toInt_div_of_ne_right _ _ (by decide), em]
    rfl
  have hb : (0 ≤ l.toInt - k.toInt → 0 ≤ ((l.toInt - k.toInt) * g.toInt).tdiv 100 ∧ ((l.toInt - k.toInt) * g.toInt).tdiv 100 ≤ l.toInt - k.toInt) ∧ (l.toInt - k.toInt ≤ 0 → l.toInt - k.toInt ≤ ((l.toInt - k.toInt) * g.toInt).tdiv 100 ∧ ((l.toInt - k.toInt) * g.toInt).tdiv 100 ≤ 0) := by
    generalize l.toInt - k.toInt = d at *
    generalize g.toInt = z at *
    refine ⟨fun h0 => ?_, fun h0 => ?_⟩
    · have q1 : 0 ≤ d * z := Int.mul_nonneg h0 g1
      have q2 : d * z ≤ d * 50 := Int.mul_le_mul_of_nonneg_left g2 h0
      rw [Int.tdiv_eq_ediv_of_nonneg q1]
      omega
    · have q1 : 0 ≤ (-d) * z := Int.mul_nonneg (by omega) g1
      have q2 : (-d) * z ≤ (-d) * 50 := Int.mul_le_mul_of_nonneg_left g2 (by omega)
      have q3 : d * z = -((-d) * z) := by rw [Int.neg_mul, Int.neg_neg]
      rw [q3, Int.neg_tdiv, Int.tdiv_eq_ediv_of_nonneg q1]
      omega
  have ef : (l - ((l - k) * g) / 100).toInt = l.toInt - ((l.toInt - k.toInt) * g.toInt).tdiv 100 := by
    rw [hz_sub (by rw [ed]; omega) (by rw [ed]; omega), ed]
  unfold hz_rg
  rw [hz_inj, hz_inj, ef, ed, show (0 : Int32).toInt = 0 from rfl]
  omega
theorem hz_dayL : ∀ (fu i : Nat) (hi : i ≤ np) (c : Int32) (m : Md) (p : Pl) (hP : hz_PR p (m.2.1 m.2.2) ny ns nz np), sX7_pass_4 fu (nI i) c m ∧ (fX7_pass_4 fu (nI i) c m).2.1 = (fX5_passDay_4 fu (nI i) c p).2.1 ∧ hz_PR (fX5_passDay_4 fu (nI i) c p).2.2 ((fX7_pass_4 fu (nI i) c m).2.2.2.1 m.2.2) ny ns nz np ∧ hz_ch m (fX7_pass_4 fu (nI i) c m).2.2 := by
  intro fu
  induction fu with
  | zero => intro i hi c m p hP; exact ⟨trivial, rfl, hP, hz_ch0 m⟩
  | succ fu ih =>
    intro i hi c m p hP
    have hn := hz_np hP
    obtain ⟨c1, c2⟩ := hz_count hP
    simp only [fX7_pass_4, fX5_passDay_4, sX7_pass_4, c1, c2]
    by_cases h : nI np ≤ nI i
    · rw [if_pos h, if_pos h]
      exact ⟨⟨fun _ => trivial, fun h2 => absurd h h2⟩, rfl, hP, hz_ch0 m⟩
    · have hi : i < np := hz_c hi (by omega) h
      have h14 : i < 14 := by omega
      obtain ⟨e1, e2⟩ := hz_isIn hP hi 1
      obtain ⟨s0, -, s2, s3, -, -⟩ := hz_fs m h14
      obtain ⟨f0, -, f2, f3, -, -⟩ := hz_f hP hi
      obtain ⟨y, hy, hy6, ey⟩ := hz_yarn hP hi
      obtain ⟨k1, k2, -⟩ := hz_len hP hi
      obtain ⟨-, -, r1, -, r2⟩ := hP.2.2.2.2.2.1 y hy
      have g2 : ((10 : Int32) + ((3 : Int32) * nI y)) + 2 = nI (12 + 3 * y) := by rw [show 12 + 3 * y = 10 + 3 * y + 2 by omega]; exact hz_ia3 10 3 2 y
      have g3 : fX7_at (nI i) 3 = nI (65 + 6 * i) := by rw [show 65 + 6 * i = 62 + 6 * i + 3 by omega]; exact hz_ia3 62 6 3 i
      have v3 : vp_in (fX7_at (nI i) 3) 146 := by rw [g3]; exact vp_in_nI (by omega) (by omega)
      have ei : fX5_isBoarded p (nI i) = fX7_isIn m (nI i) 1 := by rw [e1]; rfl
      rw [if_neg h, if_neg h, ei, ← nI_succ]
      by_cases h0 : fX7_isIn m (nI i) 1 = 0
      · rw [if_pos h0, if_pos h0]
        obtain ⟨b1, b2, b3, b4⟩ := ih (i + 1) hi c m p hP
        exact ⟨⟨fun h2 => absurd h2 h, fun _ => ⟨e2, fun _ => b1, fun h => absurd h0 h⟩⟩, b2, b3, b4⟩
      · have ev : fX6_at 6 (p.2 2) (fX6_at 14 (p.2 8) (nI i)) = p.2 2 y := by rw [ey, hz_at _ (by omega) (by decide)]
        have ew : (m.2.1 m.2.2) (((10 : Int32) + ((3 : Int32) * (fX7_field m (nI i) 0))) + 2).toNatClampNeg = p.2 2 y := by rw [f0, ey, g2, nI_clamp (by omega), r1]
        have vw : vp_in (((10 : Int32) + ((3 : Int32) * (fX7_field m (nI i) 0))) + 2) 146 := by rw [f0, ey, g2]; exact vp_in_nI (by omega) (by omega)
        obtain ⟨d1, d2⟩ := hz_dayR k2 k1 r2
        have ec : c + 0 = c := by rw [hz_inj, i32_add (by have := i32_rng c; have z : (0 : Int32).toInt = 0 := rfl; omega) (by have := i32_rng c; have z : (0 : Int32).toInt = 0 := rfl; omega), show (0 : Int32).toInt = 0 from rfl, Int.add_zero]
        rw [if_neg h0, if_neg h0, ev, ew, f3, f2, ec, g3, nI_clamp (by omega)]
        simp only [bnd]
        by_cases h3 : ((fX6_at 14 (p.2 11) (nI i) - fX6_at 14 (p.2 10) (nI i)) * p.2 2 y) / 100 = 0
        · have h4 := d2.mpr h3
          rw [if_pos h3, if_pos h4, h4]
          have hP2 : hz_PR p ((mA m m.2.2 (upd (m.2.1 m.2.2) (65 + 6 * i) (fX6_at 14 (p.2 11) (nI i)))).2.1 (mA m m.2.2 (upd (m.2.1 m.2.2) (65 + 6 * i) (fX6_at 14 (p.2 11) (nI i)))).2.2) ny ns nz np := by
            show hz_PR p ((mA m m.2.2 (upd (m.2.1 m.2.2) (65 + 6 * i) (fX6_at 14 (p.2 11) (nI i)))).2.1 m.2.2) ny ns nz np
            rw [hz_mAs]
            refine hz_fr hP (fun _ _ => rfl) (fun _ _ _ _ => rfl) (fun j _ => ?_)
            by_cases hj : j = 65 + 6 * i
            · rw [hj, pk_us, hz_at _ h14 (by decide)]
              exact (hP.2.2.2.2.2.2.2.2 i hi).1.2.2.2.1.symm
            · rw [pk_un hj]
          obtain ⟨b1, b2, b3, b4⟩ := ih (i + 1) hi c _ p hP2
          exact ⟨⟨fun h2 => absurd h2 h, fun _ => ⟨e2, fun h => absurd h h0, fun _ => ⟨s3, s0, vw, s2, fun _ => ⟨g3 ▸ v3, b1⟩, fun h5 => absurd rfl h5⟩⟩⟩, b2, b3, hz_chT (hz_chA m _) b4⟩
        · have h4 : ¬ _ := fun h => h3 (d2.mp h)
          rw [if_neg h3, if_neg h4]
          have hP2 : hz_PR (upR p 11 (fX6_put 14 (p.2 11) (nI i) (fX6_at 14 (p.2 11) (nI i) - ((fX6_at 14 (p.2 11) (nI i) - fX6_at 14 (p.2 10) (nI i)) * p.2 2 y) / 100))) ((mA m m.2.2 (upd (m.2.1 m.2.2) (65 + 6 * i) (fX6_at 14 (p.2 11) (nI i) - ((fX6_at 14 (p.2 11) (nI i) - fX6_at 14 (p.2 10) (nI i)) * p.2 2 y) / 100))).2.1 (mA m m.2.2 (upd (m.2.1 m.2.2) (65 + 6 * i) (fX6_at 14 (p.2 11) (nI i) - ((fX6_at 14 (p.2 11) (nI i) - fX6_at 14 (p.2 10) (nI i)) * p.2 2 y) / 100))).2.2) ny ns nz np := by
            show hz_PR _ ((mA m m.2.2 _).2.1 m.2.2) ny ns nz np
            rw [hz_mAs]
            exact hz_u11 hP hi d1
          obtain ⟨b1, b2, b3, b4⟩ := ih (i + 1) hi (c + 1) _ _ hP2
          exact ⟨⟨fun h2 => absurd h2 h, fun _ => ⟨e2, fun h => absurd h h0, fun _ => ⟨s3, s0, vw, s2, fun h5 => absurd h5 h4, fun _ => ⟨g3 ▸ v3, b1⟩⟩⟩⟩, b2, b3, hz_chT (hz_chA m _) b4⟩
end HZB
