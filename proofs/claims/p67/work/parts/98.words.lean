/-! The class's words: spells, keywords, names. -/
theorem tw_at {T X R : List Int32} {w : Wd} (h : TW T w X R) {j : Nat} (hj : j < X.length) : fX6_at 1200 (w.2.1 0) (w.1 5 + nI j) = X.getD j 0 := by
  obtain ⟨⟨⟨a1, a2, a3⟩, -⟩, b, A, c1, c2, c3⟩ := h
  have hl : T.length = A.length + (X.length + R.length) := by rw [c1, List.length_append, List.length_append]
  rw [c2, nI_add]
  unfold fX6_at
  rw [if_neg (nI_pos (by omega)), if_neg (by rw [nI_leI (by omega) (by omega)]; omega), nI_clamp (by omega), a3 _ (by omega), c1, List.getD_eq_getElem?_getD, List.getElem?_append_right (by omega), List.getElem?_append_left (by omega), show A.length + j - A.length = j by omega, ← List.getD_eq_getElem?_getD]
def okq (q : Sq) : Prop := q.2.2.2.length < 100 ∧ ∀ i, i < q.2.2.2.length → ichr ((q.2.2.2.getD i 0) &&& 255) = q.2.2.2.getD i 0
theorem sp_l {T X R : List Int32} {w : Wd} (h : TW T w X R) {q : Sq} (hq : okq q) (hX : X.length = q.2.2.2.length) : ∀ (n i fu : Nat), i + n = q.2.2.2.length → n < fu → (∀ j, j < i → X.getD j 0 = q.2.2.2.getD j 0) → fX4_spells_28 q w fu (nI i) = if X = q.2.2.2 then 1 else 0 := by
  intro n
  induction n with
  | zero =>
    intro i fu hi hf hp
    obtain ⟨fu, rfl⟩ : ∃ f, fu = f + 1 := ⟨fu - 1, by omega⟩
    have e : fX4_spells_28 q w (fu + 1) (nI i) = (if (nI q.2.2.2.length) ≤ nI i then 1 else (if (fX6_at 1200 (w.2.1 0) ((w.1 5) + nI i)) = (ichr ((q.2.2.2.getD (nI i).toNatClampNeg 0) &&& 255)) then (fX4_spells_28 q w fu (nI i + 1)) else 0)) := rfl
    have hXe : X = q.2.2.2 := by
      apply List.ext_getElem? 
      intro j
      by_cases c : j < X.length
      · have := hp j (by omega)
        rw [List.getD_eq_getElem?_getD, List.getD_eq_getElem?_getD] at this
        rw [List.getElem?_eq_getElem c, List.getElem?_eq_getElem (by omega)] at this ⊢
        exact congrArg some this
      · rw [List.getElem?_eq_none (by omega), List.getElem?_eq_none (by omega)]
    rw [e, if_pos (by rw [show i = q.2.2.2.length by omega]; exact Int32.le_refl _), if_pos hXe]
  | succ n ih =>
    intro i fu hi hf hp
    obtain ⟨fu, rfl⟩ : ∃ f, fu = f + 1 := ⟨fu - 1, by omega⟩
    have hq1 := hq.1
    have e : fX4_spells_28 q w (fu + 1) (nI i) = (if (nI q.2.2.2.length) ≤ nI i then 1 else (if (fX6_at 1200 (w.2.1 0) ((w.1 5) + nI i)) = (ichr ((q.2.2.2.getD (nI i).toNatClampNeg 0) &&& 255)) then (fX4_spells_28 q w fu (nI i + 1)) else 0)) := rfl
    rw [e, if_neg (by rw [nI_leI (by omega) (by omega)]; omega), tw_at h (by omega), nI_clamp (by omega), hq.2 i (by omega)]
    by_cases c : X.getD i 0 = q.2.2.2.getD i 0
    · rw [if_pos c, nI_1]
      refine ih (i + 1) fu (by omega) (by omega) (fun j hj => ?_)
      by_cases cj : j = i
      · rw [cj]; exact c
      · exact hp j (by omega)
    · rw [if_neg c, if_neg (fun z => c (by rw [z]))]
theorem sp_w {T X R : List Int32} {w : Wd} (h : TW T w X R) {q : Sq} (hq : okq q) : fX4_spells w q = if X = q.2.2.2 then 1 else 0 := by
  obtain ⟨⟨⟨a1, a2, a3⟩, -⟩, b, A, c1, c2, c3⟩ := id h
  have hl : T.length = A.length + (X.length + R.length) := by rw [c1, List.length_append, List.length_append]
  have hq1 := hq.1
  unfold fX4_spells
  rw [if_pos b, c3, c2, pk_sub (by omega), show A.length + X.length - A.length = X.length by omega]
  by_cases c : X.length = q.2.2.2.length
  · rw [if_pos (by rw [c]), hz_fu0 (by omega)]
    exact sp_l h hq c q.2.2.2.length 0 _ (Nat.zero_add _) (Nat.lt_succ_self _) (fun j hj => absurd hj (Nat.not_lt_zero j))
  · rw [if_neg (fun z => c (hz_nIi (by omega) (by omega) z)), if_neg (fun z => c (by rw [z]))]
theorem sp_n {w : Wd} (h : ¬ w.1 4 = 1) (q : Sq) : fX4_spells w q = 0 := if_neg h
theorem okq_0 : okq sq0 := by unfold okq; decide +kernel
theorem okq_1 : okq sq1 := by unfold okq; decide +kernel
theorem okq_2 : okq sq2 := by unfold okq; decide +kernel
theorem okq_3 : okq sq3 := by unfold okq; decide +kernel
theorem okq_4 : okq sq4 := by unfold okq; decide +kernel
theorem okq_5 : okq sq5 := by unfold okq; decide +kernel
theorem okq_6 : okq sq6 := by unfold okq; decide +kernel
theorem okq_7 : okq sq7 := by unfold okq; decide +kernel
theorem okq_8 : okq sq8 := by unfold okq; decide +kernel
theorem okq_9 : okq sq9 := by unfold okq; decide +kernel
theorem okq_10 : okq sq10 := by unfold okq; decide +kernel
def kwL : List (List Int32) := [sq0.2.2.2, sq1.2.2.2, sq2.2.2.2, sq3.2.2.2, sq4.2.2.2, sq5.2.2.2, sq6.2.2.2, sq7.2.2.2, sq8.2.2.2, sq9.2.2.2, sq10.2.2.2]
theorem kw_0 {T X R : List Int32} {w : Wd} (h : TW T w X R) (hX : ∀ k, k ∈ kwL → ¬ X = k) : fX4_isKeyword w = 0 := by
  have n : ∀ {q : Sq}, okq q → q.2.2.2 ∈ kwL → fX4_spells w q = 0 := fun ho hm => by rw [sp_w h ho, if_neg (hX _ hm)]
  unfold fX4_isKeyword
  rw [if_pos (n okq_0 (by simp [kwL])), if_pos (n okq_1 (by simp [kwL])), if_pos (n okq_2 (by simp [kwL])), if_pos (n okq_3 (by simp [kwL])), if_pos (n okq_4 (by simp [kwL])), if_pos (n okq_5 (by simp [kwL])), if_pos (n okq_6 (by simp [kwL])), if_pos (n okq_7 (by simp [kwL])), if_pos (n okq_8 (by simp [kwL])), if_pos (n okq_9 (by simp [kwL])), if_pos (n okq_10 (by simp [kwL]))]
/-- a name's word: its letters as numbers -/
def nmW (L : List Nat) : List Int32 := L.map (fun c => nI (96 + c))
theorem nmW_L {L : List Nat} (h : hz_nmL L) : (∀ c, c ∈ nmW L → isL c) ∧ nmW L ≠ [] := by
  refine ⟨fun c hc => ?_, fun e => ?_⟩
  · obtain ⟨d, d1, rfl⟩ := List.mem_map.mp hc
    have := h.2.2 d d1
    exact ⟨96 + d, by omega, by omega, rfl⟩
  · have h1 := congrArg List.length e
    unfold nmW at h1
    rw [List.length_map] at h1
    have := h.1
    have h0 : ([] : List Int32).length = 0 := rfl
    omega
theorem pk_w {T R : List Int32} {w : Wd} {L : List Nat} (hL : hz_nmL L) (h : TW T w (nmW L) R) : fX6_packName 1200 (w.2.1 0) (w.1 5) (w.1 6) = nI (hz_e5 L) := by
  obtain ⟨⟨⟨a1, a2, a3⟩, -⟩, b, A, c1, c2, c3⟩ := id h
  have hlw : (nmW L).length = L.length := by unfold nmW; rw [List.length_map]
  have hl : T.length = A.length + ((nmW L).length + R.length) := by rw [c1, List.length_append, List.length_append]
  rw [hlw] at c3 hl
  have g : ∀ i, i < L.length → w.2.1 0 (A.length + i) = nI (96 + L.getD i 0) := fun i hi => by
    rw [a3 _ (by omega), c1, List.getD_eq_getElem?_getD, List.getElem?_append_right (by omega), List.getElem?_append_left (by rw [hlw]; omega), show A.length + i - A.length = i by omega]
    unfold nmW
    rw [List.getElem?_map, List.getElem?_eq_getElem hi, List.getD_eq_getElem?_getD, List.getElem?_eq_getElem hi]
    rfl
  have bd : ∀ i, i < L.length → 1 ≤ L.getD i 0 ∧ L.getD i 0 ≤ 26 := fun i hi => by
    rw [List.getD_eq_getElem?_getD, List.getElem?_eq_getElem hi]
    exact hL.2.2 _ (List.getElem_mem hi)
  obtain ⟨p1, -⟩ := hz_packName (N := 1200) (by decide) (w.2.1 0) (fun j => 96 + L.getD (j - A.length) 0) (i := A.length) (n := L.length) (by omega) (fun j h1 h2 => by
    obtain ⟨i, rfl⟩ : ∃ i, j = A.length + i := ⟨j - A.length, by omega⟩
    have := bd i (by omega)
    have e : A.length + i - A.length = i := by omega
    simp only [e]
    exact ⟨g i (by omega), by omega⟩)
  have e := p1 ⟨hL.1, hL.2.1, fun j h1 h2 => by have := bd (j - A.length) (by omega); simp only; omega⟩
  rw [c2, c3, e]
  congr 2
  unfold hz_wd
  apply List.ext_getElem?
  intro i
  by_cases c : i < L.length
  · rw [List.getElem?_map, List.getElem?_range' (by omega), List.getElem?_eq_getElem c]
    have e2 : L.getD i 0 = L[i] := by rw [List.getD_eq_getElem?_getD, List.getElem?_eq_getElem c]; rfl
    show some (96 + L.getD (A.length + 1 * i - A.length) 0 - 96) = _
    rw [show A.length + 1 * i - A.length = i by omega, e2, show 96 + L[i] - 96 = L[i] by omega]
  · rw [List.getElem?_eq_none (by rw [List.length_map, List.length_range']; omega), List.getElem?_eq_none (by omega)]
theorem nh_w {T R : List Int32} {w : Wd} {L : List Nat} (hL : hz_nmL L) (hk : ∀ k, k ∈ kwL → ¬ nmW L = k) (h : TW T w (nmW L) R) : fX4_nameHere w = nI (hz_e5 L) := by
  unfold fX4_nameHere
  rw [if_pos h.2.1, if_pos (kw_0 h hk), pk_w hL h]
theorem e5_lt {L : List Nat} (hL : hz_nmL L) : hz_e5 L < 1073741824 := by
  have h : ∀ (M : List Nat) (a n : Nat), (∀ c, c ∈ M → c ≤ 26) → a < 32 ^ n → M.foldl (fun a c => 32 * a + c) a < 32 ^ (n + M.length) := by
    intro M
    induction M with
    | nil => intro a n _ ha; exact ha
    | cons c M ih =>
      intro a n hM ha
      have hc := hM c List.mem_cons_self
      have e := ih (32 * a + c) (n + 1) (fun d hd => hM d (List.mem_cons_of_mem _ hd)) (by rw [Nat.pow_succ]; omega)
      have : (c :: M).length = M.length + 1 := rfl
      rw [this, show n + (M.length + 1) = n + 1 + M.length by omega]
      exact e
  have e := h L 0 0 (fun c hc => (hL.2.2 c hc).2) (by decide)
  have h2 : 32 ^ (0 + L.length) ≤ 32 ^ 6 := Nat.pow_le_pow_right (by decide) (by have := hL.2.1; omega)
  have h3 : (32 : Nat) ^ 6 = 1073741824 := by decide
  unfold hz_e5
  omega
/-! a name's place in a row -/
theorem ix_l (cap : Nat) (f : Nat → Int32) {N : Nat} (x : Int32) (hN : N ≤ cap) (hc : cap < 1000) : ∀ (n i fu : Nat), i + n = N → n < fu → (∀ j, i ≤ j → j < N → ¬ f j = x) → fX6_indexOfName_2 cap f (nI N) x fu (nI i) = -1 := by
  intro n
  induction n with
  | zero =>
    intro i fu hi hf hp
    obtain ⟨fu, rfl⟩ : ∃ f, fu = f + 1 := ⟨fu - 1, by omega⟩
    have e : fX6_indexOfName_2 cap f (nI N) x (fu + 1) (nI i) = (if nI N ≤ nI i then (-1) else (if (fX6_at cap f (nI i)) = x then nI i else (fX6_indexOfName_2 cap f (nI N) x fu (nI i + 1)))) := rfl
    rw [e, if_pos (by rw [show i = N by omega]; exact Int32.le_refl _)]
  | succ n ih =>
    intro i fu hi hf hp
    obtain ⟨fu, rfl⟩ : ∃ f, fu = f + 1 := ⟨fu - 1, by omega⟩
    have e : fX6_indexOfName_2 cap f (nI N) x (fu + 1) (nI i) = (if nI N ≤ nI i then (-1) else (if (fX6_at cap f (nI i)) = x then nI i else (fX6_indexOfName_2 cap f (nI N) x fu (nI i + 1)))) := rfl
    have ea : fX6_at cap f (nI i) = f i := by
      unfold fX6_at
      rw [if_neg (nI_pos (by omega)), if_neg (by rw [nI_leI (by omega) (by omega)]; omega), nI_clamp (by omega)]
    rw [e, if_neg (by rw [nI_leI (by omega) (by omega)]; omega), ea, if_neg (hp i (Nat.le_refl _) (by omega)), nI_1]
    exact ih (i + 1) fu (by omega) (by omega) (fun j h1 h2 => hp j (by omega) h2)
theorem ix_no {cap N : Nat} {f : Nat → Int32} {x : Int32} (hN : N ≤ cap) (hc : cap < 1000) (hp : ∀ j, j < N → ¬ f j = x) : fX6_indexOfName cap f (nI N) x = -1 := by
  unfold fX6_indexOfName
  rw [hz_fu0 (by omega)]
  exact ix_l cap f x hN hc N 0 (N + 1) (Nat.zero_add _) (Nat.lt_succ_self _) (fun j _ h => hp j h)
theorem ix_y (cap : Nat) (f : Nat → Int32) {N k : Nat} (x : Int32) (hN : N ≤ cap) (hc : cap < 1000) (hk : k < N) (hx : f k = x) : ∀ (n i fu : Nat), i + n = k → n < fu → (∀ j, i ≤ j → j < k → ¬ f j = x) → fX6_indexOfName_2 cap f (nI N) x fu (nI i) = nI k := by
  intro n
  induction n with
  | zero =>
    intro i fu hi hf hp
    obtain ⟨fu, rfl⟩ : ∃ f, fu = f + 1 := ⟨fu - 1, by omega⟩
    have e : fX6_indexOfName_2 cap f (nI N) x (fu + 1) (nI i) = (if nI N ≤ nI i then (-1) else (if (fX6_at cap f (nI i)) = x then nI i else (fX6_indexOfName_2 cap f (nI N) x fu (nI i + 1)))) := rfl
    have ea : fX6_at cap f (nI i) = f i := by
      unfold fX6_at
      rw [if_neg (nI_pos (by omega)), if_neg (by rw [nI_leI (by omega) (by omega)]; omega), nI_clamp (by omega)]
    have hik : i = k := by omega
    rw [e, if_neg (by rw [nI_leI (by omega) (by omega)]; omega), ea, hik, if_pos hx]
  | succ n ih =>
    intro i fu hi hf hp
    obtain ⟨fu, rfl⟩ : ∃ f, fu = f + 1 := ⟨fu - 1, by omega⟩
    have e : fX6_indexOfName_2 cap f (nI N) x (fu + 1) (nI i) = (if nI N ≤ nI i then (-1) else (if (fX6_at cap f (nI i)) = x then nI i else (fX6_indexOfName_2 cap f (nI N) x fu (nI i + 1)))) := rfl
    have ea : fX6_at cap f (nI i) = f i := by
      unfold fX6_at
      rw [if_neg (nI_pos (by omega)), if_neg (by rw [nI_leI (by omega) (by omega)]; omega), nI_clamp (by omega)]
    rw [e, if_neg (by rw [nI_leI (by omega) (by omega)]; omega), ea, if_neg (hp i (Nat.le_refl _) (by omega)), nI_1]
    exact ih (i + 1) fu (by omega) (by omega) (fun j h1 h2 => hp j (by omega) h2)
theorem ix_ok {cap N k : Nat} {f : Nat → Int32} {x : Int32} (hN : N ≤ cap) (hc : cap < 1000) (hk : k < N) (hx : f k = x) (hp : ∀ j, j < k → ¬ f j = x) : fX6_indexOfName cap f (nI N) x = nI k := by
  unfold fX6_indexOfName
  rw [hz_fu0 (by omega)]
  exact ix_y cap f x hN hc hk hx k 0 (N + 1) (Nat.zero_add _) (by omega) (fun j _ h => hp j h)
