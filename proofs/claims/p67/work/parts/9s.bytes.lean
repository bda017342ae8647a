/-! A plant's text is of bytes, and not long. -/
def TC (T : List Int32) : Prop := ∀ c, c ∈ T → ∃ k, k < 128 ∧ c = nI k
theorem tc_ta {T : List Int32} (h : TC T) : TA T := fun j hj => by
  rw [List.getD_eq_getElem?_getD, List.getElem?_eq_getElem hj]
  exact h _ (List.getElem_mem hj)
theorem tc_a {A B : List Int32} (ha : TC A) (hb : TC B) : TC (A ++ B) := fun c hc => (List.mem_append.mp hc).elim (ha c) (hb c)
theorem tc_1 {k : Nat} (h : k < 128) : TC [nI k] := fun c hc => ⟨k, h, List.mem_singleton.mp hc⟩
theorem tc_n (z : Nat) : TC (numB z) := fun c hc => by
  unfold numB at hc
  obtain ⟨i, -, e⟩ := List.mem_map.mp hc
  exact ⟨_, by omega, e.symm⟩
theorem tc_m {x : Int32} (h : nmo x) : TC (nmB x) := fun c hc => by
  obtain ⟨L, h1, -, h3, -⟩ := h
  rw [h3] at hc
  unfold nmW at hc
  obtain ⟨i, i1, e⟩ := List.mem_map.mp hc
  have := h1.2.2 i i1
  exact ⟨_, by omega, e.symm⟩
theorem nm_l {x : Int32} (h : nmo x) : (nmB x).length ≤ 6 := by
  obtain ⟨L, h1, -, h3, -⟩ := h
  rw [h3]
  unfold nmW
  rw [List.length_map]
  exact h1.2.1
theorem tc_k (n : Nat) : TC (kdq n).2.2.2 := by
  have h0 : TC sq18.2.2.2 := by unfold TC; decide +kernel
  have h1 : TC sq19.2.2.2 := by unfold TC; decide +kernel
  have h2 : TC sq20.2.2.2 := by unfold TC; decide +kernel
  unfold kdq
  split
  · exact h0
  · split
    · exact h1
    · exact h2
theorem kd_l (n : Nat) : (kdq n).2.2.2.length ≤ 6 := by
  unfold kdq
  split
  · decide
  · split <;> decide
theorem tc_f {f : Nat → List Int32} : ∀ (n a : Nat), (∀ i, a ≤ i → i < a + n → TC (f i)) → TC ((List.range' a n).flatMap f)
  | 0, a, _ => fun c hc => (by cases hc)
  | n + 1, a, h => by
    rw [List.range'_succ, List.flatMap_cons]
    exact tc_a (h a (Nat.le_refl _) (by omega)) (tc_f n (a + 1) (fun i h1 h2 => h i (by omega) (by omega)))
theorem fm_l {f : Nat → List Int32} {c : Nat} : ∀ (n a : Nat), (∀ i, a ≤ i → i < a + n → (f i).length ≤ c) → ((List.range' a n).flatMap f).length ≤ c * n
  | 0, a, _ => by rw [List.range'_zero, List.flatMap_nil]; exact Nat.zero_le _
  | n + 1, a, h => by
    have h1 := h a (Nat.le_refl _) (by omega)
    have h2 := fm_l n (a + 1) (fun i h1 h2 => h i (by omega) (by omega))
    rw [List.range'_succ, List.flatMap_cons, List.length_append, Nat.mul_succ]
    omega
section WTL
variable {p : Pl} {ny ns nz np : Nat}
theorem ts_c : TC tS11 ∧ TC tS12 ∧ TC tS13 ∧ TC tS14 ∧ TC tS15 ∧ TC tS16 ∧ TC tS17 := by
  refine ⟨?_, ?_, ?_, ?_, ?_, ?_, ?_⟩ <;> (unfold TC; decide +kernel)
theorem wt_tc (hV : VT p ny ns nz np) : TC (wtB p ny ns nz np) := by
  obtain ⟨⟨n1, -, -, -⟩, -, vy, vs, vz, vp⟩ := hV
  obtain ⟨c1, c2, c3, c4, c5, c6, c7⟩ := ts_c
  have b := tc_1 (k := 32) (by decide)
  have e := tc_1 (k := 59) (by decide)
  unfold wtB ctB
  refine tc_a (tc_a ?_ (tc_a (tc_a (tc_f ny 0 (fun i _ hi => ?_)) (tc_f ns 0 (fun i _ hi => ?_))) (tc_f nz 0 (fun i _ hi => ?_)))) (tc_f np 0 (fun i _ hi => ?_))
  · unfold hdB
    exact tc_a (tc_a (tc_a (tc_a (tc_a (tc_a (tc_a (tc_a (tc_a (tc_a (tc_a (tc_a (tc_a c1 b) (tc_n _)) b) (tc_n _)) e) c2) b) (tc_n _)) e) c3) b) (tc_n _)) e
  · unfold yB
    exact tc_a (tc_a (tc_a (tc_a (tc_a (tc_a (tc_a c4 b) (tc_m (vy i (by omega)).1)) b) (tc_n _)) b) (tc_n _)) e
  · unfold sB
    exact tc_a (tc_a (tc_a (tc_a (tc_a c5 b) (tc_m (vs i (by omega)).1)) b) (tc_n _)) e
  · unfold zB
    exact tc_a (tc_a (tc_a (tc_a (tc_a (tc_a (tc_a c6 b) (tc_m (vz i (by omega)).1)) b) (tc_n _)) b) (tc_n _)) e
  · obtain ⟨⟨y, y1, y2⟩, -⟩ := vp i (by omega)
    unfold pcB
    rw [y2]
    have hm : TC (nmB (p.2 0 (nI y).toNatClampNeg)) := by
      rw [nI_clamp (by omega)]
      exact tc_m (vy y y1).1
    exact tc_a (tc_a (tc_a (tc_a (tc_a (tc_a (tc_a (tc_a (tc_a c7 b) hm) b) (tc_k _)) b) (tc_n _)) b) (tc_n _)) e
theorem wt_len (hV : VT p ny ns nz np) : 10 ≤ (wtB p ny ns nz np).length ∧ (wtB p ny ns nz np).length ≤ 50 + 24 * ny + 20 * ns + 24 * nz + 40 * np := by
  obtain ⟨⟨n1, -, -, -⟩, -, vy, vs, vz, vp⟩ := hV
  have L11 : tS11.length = 9 := rfl
  have L12 : tS12.length = 5 := rfl
  have L13 : tS13.length = 3 := rfl
  have L14 : tS14.length = 4 := rfl
  have L15 : tS15.length = 5 := rfl
  have L16 : tS16.length = 4 := rfl
  have L17 : tS17.length = 5 := rfl
  have hn : ∀ z, (numB z).length ≤ 4 := fun z => by rw [numB_len]; exact (sbW_le z).2
  have l1 : ∀ x : Int32, ([x] : List Int32).length = 1 := fun _ => rfl
  have h0 : 10 ≤ (hdB p).length ∧ (hdB p).length ≤ 50 := by
    unfold hdB
    simp only [List.length_append, L11, L12, L13, l1]
    have a := hn (p.1 3).toNatClampNeg
    have b := hn (p.1 4).toNatClampNeg
    have c := hn (p.1 5).toNatClampNeg
    have d := hn (p.1 6).toNatClampNeg
    omega
  have hy := fm_l (f := yB p) (c := 24) ny 0 (fun i _ hi => by
    unfold yB
    simp only [List.length_append, L14, l1]
    have a := hn (p.2 1 i).toNatClampNeg
    have b := hn (p.2 2 i).toNatClampNeg
    have c := nm_l (vy i (by omega)).1
    omega)
  have hs := fm_l (f := sB p) (c := 20) ns 0 (fun i _ hi => by
    unfold sB
    simp only [List.length_append, L15, l1]
    have a := hn (p.2 4 i).toNatClampNeg
    have c := nm_l (vs i (by omega)).1
    omega)
  have hz := fm_l (f := zB p) (c := 24) nz 0 (fun i _ hi => by
    unfold zB
    simp only [List.length_append, L16, l1]
    have a := hn (p.2 6 i).toNatClampNeg
    have b := hn (p.2 7 i).toNatClampNeg
    have c := nm_l (vz i (by omega)).1
    omega)
  have hp := fm_l (f := pcB p) (c := 40) np 0 (fun i _ hi => by
    obtain ⟨⟨y, y1, y2⟩, -⟩ := vp i (by omega)
    have c := nm_l (vy y y1).1
    unfold pcB
    rw [y2, nI_clamp (by omega)]
    simp only [List.length_append, L17, l1]
    have a := hn (p.2 10 i).toNatClampNeg
    have b := hn (p.2 12 i).toNatClampNeg
    have d := kd_l (p.2 9 i).toNatClampNeg
    omega)
  unfold wtB ctB
  simp only [List.length_append]
  omega
end WTL
