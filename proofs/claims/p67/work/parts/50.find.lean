/-! Asking for a name. -/
section HZZ
variable {m : Md} {g : Nat → Nat} {L : Nat}
theorem hl_f41 (z1 o4 : Int32) (hL : L ≤ 1200) (hb : ∀ j, j < L → g j < 256 ∧ m.2.1 7 j = (nI (g j)).toInt8.toInt32) : ∀ (n i fu : Nat) (x3 : Int32), i + n = L → n < fu → (x3 = 0 ∨ x3 = 1) → sX7_find_41 z1 o4 (nI L) m fu (nI i) x3 ∧ ((x3 = 1 ∧ hz_al g i n) → (fX7_find_41 z1 o4 (nI L) m fu (nI i) x3).2 = 1) ∧ (¬ (x3 = 1 ∧ hz_al g i n) → (fX7_find_41 z1 o4 (nI L) m fu (nI i) x3).2 = 0) := by
  intro n
  induction n with
  | zero =>
    intro i fu x3 hi hf hx
    obtain ⟨fu, rfl⟩ : ∃ k, fu = k + 1 := ⟨fu - 1, by omega⟩
    have c : nI L ≤ nI i := by rw [hz_le, nI_toInt (by omega), nI_toInt (by omega)]; omega
    have e : fX7_find_41 z1 o4 (nI L) m (fu + 1) (nI i) x3 = (nI i, x3) := if_pos c
    rw [e]
    refine ⟨⟨fun _ => trivial, fun h => absurd c h⟩, fun h => h.1, fun h => ?_⟩
    rcases hx with hx | hx
    · exact hx
    · exact absurd ⟨hx, fun j h1 h2 => by omega⟩ h
  | succ n ih =>
    intro i fu x3 hi hf hx
    obtain ⟨fu, rfl⟩ : ∃ k, fu = k + 1 := ⟨fu - 1, by omega⟩
    obtain ⟨b1, b2⟩ := hb i (by omega)
    have c : ¬ nI L ≤ nI i := by rw [hz_le, nI_toInt (by omega), nI_toInt (by omega)]; omega
    have ei : fX7_in (((nI (g i)).toInt8.toInt32).toInt64) 97 122 = fX6_isBetween ((nI (g i)).toInt8.toInt32) 97 122 := hz_in _ 97 122
    have e : fX7_find_41 z1 o4 (nI L) m (fu + 1) (nI i) x3 = (if nI L ≤ nI i then (nI i, x3) else if x3 = 0 then (nI i, x3) else fX7_find_41 z1 o4 (nI L) m fu (nI i + 1) (fX7_in (((m.2.1 7) (nI i).toNatClampNeg).toInt64) 97 122)) := rfl
    have es : sX7_find_41 z1 o4 (nI L) m (fu + 1) (nI i) x3 = ((nI L ≤ nI i → True) ∧ (¬ nI L ≤ nI i → ((x3 = 0 → True) ∧ (¬ x3 = 0 → (vp_in (nI i) 1200 ∧ sX7_find_41 z1 o4 (nI L) m fu (nI i + 1) (fX7_in (((m.2.1 7) (nI i).toNatClampNeg).toInt64) 97 122)))))) := rfl
    rw [if_neg c, nI_clamp (by omega), b2, ei, hz_bl _ b1, ← nI_succ] at e
    rw [nI_clamp (by omega), b2, ei, hz_bl _ b1, ← nI_succ] at es
    rcases hx with rfl | rfl
    · rw [if_pos rfl] at e
      rw [e, es]
      exact ⟨⟨fun _ => trivial, fun _ => ⟨fun _ => trivial, fun h => absurd rfl h⟩⟩, fun h => absurd h.1 (by decide), fun _ => rfl⟩
    · rw [if_neg (show ¬ (1 : Int32) = 0 by decide)] at e
      by_cases k : 97 ≤ g i ∧ g i ≤ 122
      · rw [if_pos k] at e es
        obtain ⟨i1, i2, i3⟩ := ih (i + 1) fu 1 (by omega) (by omega) (Or.inr rfl)
        rw [e, es]
        refine ⟨⟨fun _ => trivial, fun _ => ⟨fun _ => trivial, fun _ => ⟨vp_in_nI (by omega) (by omega), i1⟩⟩⟩, fun h => i2 ⟨rfl, fun j h1 h2 => h.2 j (by omega) (by omega)⟩, fun h => i3 (fun h2 => h ⟨rfl, fun j h3 h4 => ?_⟩)⟩
        by_cases q : j = i
        · rw [q]; exact k
        · exact h2.2 j (by omega) (by omega)
      · rw [if_neg k] at e es
        obtain ⟨i1, i2, i3⟩ := ih (i + 1) fu 0 (by omega) (by omega) (Or.inl rfl)
        rw [e, es]
        exact ⟨⟨fun _ => trivial, fun _ => ⟨fun _ => trivial, fun _ => ⟨vp_in_nI (by omega) (by omega), i1⟩⟩⟩, fun h => absurd (h.2 i (Nat.le_refl _) (by omega)) k, fun h => i3 (fun h2 => absurd h2.1 (by decide))⟩
def hz_p6 (g : Nat → Nat) (L i n : Nat) : List Nat := (List.range' i n).map (fun j => if L ≤ j then 0 else g j - 96)
theorem hz_p6E (h1 : 1 ≤ L) (h2 : L ≤ 6) : hz_p6 g L 0 6 = hz_pad (hz_wd g 0 L) := by
  match L, h1, h2 with
  | 1, _, _ => rfl
  | 2, _, _ => rfl
  | 3, _, _ => rfl
  | 4, _, _ => rfl
  | 5, _, _ => rfl
  | 6, _, _ => rfl
theorem hl_f78 (z1 : Int32) {o3 : Int32} (ho : ¬ o3 = 0) (hL : L ≤ 6) (ha : hz_al g 0 L) (hb : ∀ j, j < L → g j < 256 ∧ m.2.1 7 j = (nI (g j)).toInt8.toInt32) : ∀ (n i a fu : Nat), i + n = 6 → n < fu → sX7_find_78 z1 o3 (nI L) m fu (nI i) (nI a) ∧ (fX7_find_78 z1 o3 (nI L) m fu (nI i) (nI a)).2 = nI ((hz_p6 g L i n).foldl (fun a c => 27 * a + c) a) := by
  intro n
  induction n with
  | zero =>
    intro i a fu hi hf
    obtain ⟨fu, rfl⟩ : ∃ k, fu = k + 1 := ⟨fu - 1, by omega⟩
    have c : (6 : Int32) ≤ nI i := by
      show nI 6 ≤ nI i
      rw [hz_le, nI_toInt (by omega), nI_toInt (by omega)]; omega
    have e : fX7_find_78 z1 o3 (nI L) m (fu + 1) (nI i) (nI a) = (nI i, nI a) := if_pos c
    rw [e]
    exact ⟨⟨fun _ => trivial, fun h => absurd c h⟩, rfl⟩
  | succ n ih =>
    intro i a fu hi hf
    obtain ⟨fu, rfl⟩ : ∃ k, fu = k + 1 := ⟨fu - 1, by omega⟩
    have c : ¬ (6 : Int32) ≤ nI i := by
      show ¬ nI 6 ≤ nI i
      rw [hz_le, nI_toInt (by omega), nI_toInt (by omega)]; omega
    have e : fX7_find_78 z1 o3 (nI L) m (fu + 1) (nI i) (nI a) = (if 6 ≤ nI i then (nI i, nI a) else if o3 = 0 then (nI i, nI a) else if nI L ≤ nI i then fX7_find_78 z1 o3 (nI L) m fu (nI i + 1) (((27 : Int32) * nI a) + 0) else fX7_find_78 z1 o3 (nI L) m fu (nI i + 1) (((27 : Int32) * nI a) + ((((m.2.1 7) (nI i).toNatClampNeg) - 97) + 1))) := rfl
    have es : sX7_find_78 z1 o3 (nI L) m (fu + 1) (nI i) (nI a) = ((6 ≤ nI i → True) ∧ (¬ 6 ≤ nI i → ((o3 = 0 → True) ∧ (¬ o3 = 0 → ((nI L ≤ nI i → sX7_find_78 z1 o3 (nI L) m fu (nI i + 1) (((27 : Int32) * nI a) + 0)) ∧ (¬ nI L ≤ nI i → (vp_in (nI i) 1200 ∧ sX7_find_78 z1 o3 (nI L) m fu (nI i + 1) (((27 : Int32) * nI a) + ((((m.2.1 7) (nI i).toNatClampNeg) - 97) + 1))))))))) := rfl
    have e27 : (27 : Int32) * nI a = nI (27 * a) := by rw [show (27 : Int32) = nI 27 from rfl, pk_mul]
    rw [if_neg c, if_neg ho, nI_clamp (by omega), e27, ← nI_succ] at e
    rw [nI_clamp (by omega), e27, ← nI_succ] at es
    by_cases k : L ≤ i
    · have k' : nI L ≤ nI i := by rw [hz_le, nI_toInt (by omega), nI_toInt (by omega)]; omega
      have e0 : nI (27 * a) + 0 = nI (27 * a + 0) := by rw [show (0 : Int32) = nI 0 from rfl, nI_add]
      obtain ⟨i1, i2⟩ := ih (i + 1) (27 * a + 0) fu (by omega) (by omega)
      rw [if_pos k', e0] at e
      rw [e, es, i2, e0]
      have ew : hz_p6 g L i (n + 1) = 0 :: hz_p6 g L (i + 1) n := by
        show (if L ≤ i then 0 else g i - 96) :: hz_p6 g L (i + 1) n = _
        rw [if_pos k]
      rw [ew]
      exact ⟨⟨fun _ => trivial, fun _ => ⟨fun _ => trivial, fun _ => ⟨fun _ => i1, fun h => absurd k' h⟩⟩⟩, rfl⟩
    · have k' : ¬ nI L ≤ nI i := by rw [hz_le, nI_toInt (by omega), nI_toInt (by omega)]; omega
      obtain ⟨l1, l2⟩ := ha i (by omega) (by omega)
      obtain ⟨i1, i2⟩ := ih (i + 1) (27 * a + (g i - 96)) fu (by omega) (by omega)
      have eb : m.2.1 7 i = nI (g i) := by rw [(hb i (by omega)).2, hz_b7 _ (by omega)]
      rw [if_neg k', eb, hz_let l1 l2, nI_add] at e
      rw [eb, hz_let l1 l2, nI_add] at es
      rw [e, es, i2]
      have ew : hz_p6 g L i (n + 1) = (g i - 96) :: hz_p6 g L (i + 1) n := by
        show (if L ≤ i then 0 else g i - 96) :: hz_p6 g L (i + 1) n = _
        rw [if_neg k]
      rw [ew]
      exact ⟨⟨fun _ => trivial, fun _ => ⟨fun _ => trivial, fun _ => ⟨fun h => absurd h k', fun _ => ⟨vp_in_nI (by omega) (by omega), i1⟩⟩⟩⟩, rfl⟩
theorem hl_ix {cap N z1 z2 : Nat} {A F : Nat → Int32} {x y : Int32} {m : Md} (hF : m.2.1 m.2.2 = F) (hN : N ≤ cap) (hc : cap < 1000) (hz : z1 + z2 * N ≤ 146) (h2 : 1 ≤ z2) (hxy : hz_nm x y) (hA : ∀ i, i < N → hz_nm (A i) (F (z1 + z2 * i))) : ∀ (n i fu fv : Nat), i + n = N → n < fu → n < fv → sX7_findIn_3 (nI z1) (nI z2) (nI N) y m fv (nI i) ∧ fX6_indexOfName_2 cap A (nI N) x fu (nI i) = fX7_findIn_3 (nI z1) (nI z2) (nI N) y m fv (nI i) := by
  intro n
  induction n with
  | zero =>
    intro i fu fv hi hf hg
    obtain ⟨fu, rfl⟩ : ∃ k, fu = k + 1 := ⟨fu - 1, by omega⟩
    obtain ⟨fv, rfl⟩ : ∃ k, fv = k + 1 := ⟨fv - 1, by omega⟩
    have hN2 : N ≤ 146 := by
      have : 1 * N ≤ z2 * N := Nat.mul_le_mul_right _ h2
      omega
    have c : nI N ≤ nI i := by rw [hz_le, nI_toInt (by omega), nI_toInt (by omega)]; omega
    have e1 : fX6_indexOfName_2 cap A (nI N) x (fu + 1) (nI i) = -1 := if_pos c
    have e2 : fX7_findIn_3 (nI z1) (nI z2) (nI N) y m (fv + 1) (nI i) = -1 := if_pos c
    rw [e1, e2]
    exact ⟨⟨fun _ => trivial, fun h => absurd c h⟩, rfl⟩
  | succ n ih =>
    intro i fu fv hi hf hg
    obtain ⟨fu, rfl⟩ : ∃ k, fu = k + 1 := ⟨fu - 1, by omega⟩
    obtain ⟨fv, rfl⟩ : ∃ k, fv = k + 1 := ⟨fv - 1, by omega⟩
    have hl : z1 + z2 * i < 146 := by
      have : z2 * (i + 1) ≤ z2 * N := Nat.mul_le_mul_left _ (by omega)
      rw [Nat.mul_add] at this
      omega
    have hN2 : N ≤ 146 := by
      have : 1 * N ≤ z2 * N := Nat.mul_le_mul_right _ h2
      omega
    have c : ¬ nI N ≤ nI i := by rw [hz_le, nI_toInt (by omega), nI_toInt (by omega)]; omega
    have e1 : fX6_indexOfName_2 cap A (nI N) x (fu + 1) (nI i) = (if nI N ≤ nI i then -1 else if fX6_at cap A (nI i) = x then nI i else fX6_indexOfName_2 cap A (nI N) x fu (nI i + 1)) := rfl
    have e2 : fX7_findIn_3 (nI z1) (nI z2) (nI N) y m (fv + 1) (nI i) = (if nI N ≤ nI i then -1 else if ((m.2.1 (m.2.2)) (nI z1 + (nI z2 * nI i)).toNatClampNeg) = y then nI i else fX7_findIn_3 (nI z1) (nI z2) (nI N) y m fv (nI i + 1)) := rfl
    have e3 : sX7_findIn_3 (nI z1) (nI z2) (nI N) y m (fv + 1) (nI i) = ((nI N ≤ nI i → True) ∧ (¬ nI N ≤ nI i → (vp_in (nI z1 + (nI z2 * nI i)) 146 ∧ ((((m.2.1 (m.2.2)) (nI z1 + (nI z2 * nI i)).toNatClampNeg) = y → True) ∧ (¬ ((m.2.1 (m.2.2)) (nI z1 + (nI z2 * nI i)).toNatClampNeg) = y → (sX7_findIn_3 (nI z1) (nI z2) (nI N) y m fv (nI i + 1))))))) := rfl
    rw [if_neg c, hz_at A (by omega) (by omega), ← nI_succ] at e1
    rw [if_neg c, hz_ia2, nI_clamp (by omega), hF, ← nI_succ] at e2
    rw [hz_ia2, nI_clamp (by omega), hF, ← nI_succ] at e3
    obtain ⟨i1, i2⟩ := ih (i + 1) fu fv (by omega) (by omega) (by omega)
    have hq := hz_nmI (hA i (by omega)) hxy
    rw [e1, e2, e3]
    refine ⟨⟨fun _ => trivial, fun _ => ⟨vp_in_nI (by omega) (by omega), fun _ => trivial, fun _ => i1⟩⟩, ?_⟩
    by_cases k : A i = x
    · rw [if_pos k, if_pos (hq.1 k)]
    · rw [if_neg k, if_neg (fun h => k (hq.2 h)), i2]
theorem hl_find {cap N z1 z2 : Nat} {A F : Nat → Int32} {x y : Int32} {m : Md} (hF : m.2.1 m.2.2 = F) (hN : N ≤ cap) (hc : cap < 1000) (hz : z1 + z2 * N ≤ 146) (h2 : 1 ≤ z2) (hxy : hz_nm x y) (hA : ∀ i, i < N → hz_nm (A i) (F (z1 + z2 * i))) : sX7_findIn m (nI z1) (nI z2) (nI N) y ∧ fX6_indexOfName cap A (nI N) x = fX7_findIn m (nI z1) (nI z2) (nI N) y := by
  have hN2 : N ≤ 146 := by
    have : 1 * N ≤ z2 * N := Nat.mul_le_mul_right _ h2
    omega
  have hf : N < fuU (nI N) 0 := by
    unfold fuU
    rw [nI_toInt (by omega), show (0 : Int32).toInt = 0 from rfl]
    omega
  unfold sX7_findIn fX6_indexOfName fX7_findIn
  generalize fuU (nI N) 0 = FF at *
  have h := hl_ix hF hN hc hz h2 hxy hA N 0 FF FF (by omega) hf hf
  rw [nI_0] at h
  exact h
theorem hp_find {w : Wd} {m : Md} {n : Nat} (hR : hz_R n w m) (z : Int32) : sX7_find m z ∧ (fX6_find w z).1 = (fX7_find m z).1 ∧ hz_R n (fX6_find w z).2 (fX7_find m z).2 := by
  have hR0 := hR
  obtain ⟨ny, ns, nz, np, r, ⟨h0, ⟨a1, a2, a3, a4⟩, ⟨b1, b2, b3, b4⟩, ⟨c1, c2, c3, c4⟩, -, -, g1, g2, g3, -⟩, -, -, -, ⟨L, hL⟩, -, -⟩ := hR
  obtain ⟨l1, l2, l3, l4⟩ := hL
  have ei : fX7_in z.toInt64 0 2 = fX6_isBetween z 0 2 := hz_in z 0 2
  have hR1 : hz_R n (wS w 0 0) (mS m 3 0) := hz_Ri (L := 0) hR0 ⟨fun q hq => if_neg hq, fun q hq => rfl, rfl⟩ ⟨fun q hq => if_neg hq, fun q hq => rfl, rfl⟩ ⟨by omega, rfl, rfl, fun j hj => absurd hj (by omega)⟩
  obtain ⟨g, hg⟩ : ∃ g : Nat → Nat, ∀ j, j < L → g j < 256 ∧ w.2.1 0 j = nI (g j) ∧ m.2.1 7 j = (nI (g j)).toInt8.toInt32 := by
    refine ⟨fun j => if h : j < L then Classical.choose (l4 j h) else 0, fun j hj => ?_⟩
    have := Classical.choose_spec (l4 j hj)
    show (if h : j < L then Classical.choose (l4 j h) else 0) < 256 ∧ w.2.1 0 j = nI (if h : j < L then Classical.choose (l4 j h) else 0) ∧ m.2.1 7 j = (nI (if h : j < L then Classical.choose (l4 j h) else 0)).toInt8.toInt32
    rw [dif_pos hj]
    exact this
  have hb : ∀ j, j < L → g j < 256 ∧ (mS m 3 0).2.1 7 j = (nI (g j)).toInt8.toInt32 := fun j hj => ⟨(hg j hj).1, (hg j hj).2.2⟩
  have hin : fX7_in ((nI L).toInt64) 1 6 = fX6_isBetween (nI L) 1 6 := hz_in (nI L) 1 6
  have hin2 : fX6_isBetween (nI L) 1 6 = if 1 ≤ L ∧ L ≤ 6 then 1 else 0 := by
    unfold fX6_isBetween
    have k1 : nI L < 1 ↔ L < 1 := by
      show nI L < nI 1 ↔ _
      rw [nI_ltI (by omega) (by omega)]
    have k2 : 6 < nI L ↔ 6 < L := by
      show nI 6 < nI L ↔ _
      rw [nI_ltI (by omega) (by omega)]
    by_cases c : L < 1
    · rw [if_pos (k1.2 c), if_neg (by omega)]
    · by_cases c2 : 6 < L
      · rw [if_neg (fun h => c (k1.1 h)), if_pos (k2.2 c2), if_neg (by omega)]
      · rw [if_neg (fun h => c (k1.1 h)), if_neg (fun h => c2 (k2.1 h)), if_pos (by omega)]
  have hf1 : L < fuU (nI L) 0 := by
    unfold fuU
    rw [nI_toInt (by omega), show (0 : Int32).toInt = 0 from rfl]
    omega
  have hf2 : 6 < fuU 6 0 := by
    unfold fuU
    rw [show (6 : Int32).toInt = 6 from rfl, show (0 : Int32).toInt = 0 from rfl]
    omega
  have hpk := hz_packName (N := 1200) (by omega) (w.2.1 0) g (i := 0) (n := L) (by omega) (fun j _ hj => ⟨(hg j (by omega)).2.1, (hg j (by omega)).1⟩)
  rw [Nat.zero_add, nI_0] at hpk
  unfold sX7_find fX6_find fX7_find
  simp only [bnd]
  rw [ei, l2, l3, hin, hin2]
  generalize fuU (nI L) 0 = F1 at *
  generalize fuU 6 0 = F2 at *
  have hx : (if 1 ≤ L ∧ L ≤ 6 then (1 : Int32) else 0) = 0 ∨ (if 1 ≤ L ∧ L ≤ 6 then (1 : Int32) else 0) = 1 := by
    by_cases c : 1 ≤ L ∧ L ≤ 6
    · rw [if_pos c]; exact Or.inr rfl
    · rw [if_neg c]; exact Or.inl rfl
  obtain ⟨p1, p2, p3⟩ := hl_f41 (m := mS m 3 0) (g := g) z 0 l1 hb L 0 F1 _ (by omega) hf1 hx
  rw [nI_0] at p1 p2 p3
  generalize hX : fX7_find_41 z 0 (nI L) (mS m 3 0) F1 0 (if 1 ≤ L ∧ L ≤ 6 then 1 else 0) = X at *
  unfold fX6_isBetween
  by_cases d1 : z < 0
  · rw [if_pos d1, if_pos d1, if_pos rfl]
    exact ⟨⟨fun _ => trivial, fun h => absurd rfl h⟩, rfl, hR0⟩
  · by_cases d2 : z ≤ 2
    · have d3 : ¬ 2 < z := by rw [hz_lt]; rw [hz_le] at d2; omega
      rw [if_neg d1, if_pos d2, if_neg d1, if_neg d3, if_neg (show ¬ (1 : Int32) = 0 by decide)]
      by_cases k : 1 ≤ L ∧ L ≤ 6 ∧ hz_al g 0 L
      · have kk : 1 ≤ L ∧ L ≤ 6 := ⟨k.1, k.2.1⟩
        have x1 := p2 ⟨if_pos kk, k.2.2⟩
        have hpk1 := hpk.1 k
        have hnl := hz_wdN k.2.2 k.1 k.2.1
        have hnb := hz_e5B hnl
        have hxy : hz_nm (nI (hz_e5 (hz_wd g 0 L))) (nI (hz_e27 (hz_p6 g L 0 6))) := ⟨_, hnl, rfl, by rw [hz_p6E k.1 k.2.1]⟩
        obtain ⟨q1, q2⟩ := hl_f78 (m := mS m 3 0) (g := g) z (o3 := X.2) (by rw [x1]; decide) k.2.1 k.2.2 hb 6 0 0 F2 (by omega) hf2
        rw [nI_0] at q1 q2
        generalize fX7_find_78 z X.2 (nI L) (mS m 3 0) F2 0 0 = Y at *
        have hy : Y.2 = nI (hz_e27 (hz_p6 g L 0 6)) := q2
        have hm1 : ¬ nI (hz_e5 (hz_wd g 0 L)) = -1 := fun h => by
          rw [hz_inj, nI_toInt (by omega), show (-1 : Int32).toInt = -1 from rfl] at h
          omega
        have i0 := hl_find (m := mS m 3 0) (F := m.2.1 0) (cap := 6) (N := ny) (z1 := 10) (z2 := 3) (A := (w.2.2.1 1).2 0) (by show m.2.1 m.2.2 = _; rw [h0]) b1 (by omega) (by omega) (by omega) hxy (fun i hi => (g1 i hi).1)
        have i1 := hl_find (m := mS m 3 0) (F := m.2.1 0) (cap := 8) (N := ns) (z1 := 28) (z2 := 2) (A := (w.2.2.1 1).2 3) (by show m.2.1 m.2.2 = _; rw [h0]) b2 (by omega) (by omega) (by omega) hxy (fun i hi => (g2 i hi).1)
        have i2 := hl_find (m := mS m 3 0) (F := m.2.1 0) (cap := 6) (N := nz) (z1 := 44) (z2 := 3) (A := (w.2.2.1 1).2 5) (by show m.2.1 m.2.2 = _; rw [h0]) b3 (by omega) (by omega) (by omega) hxy (fun i hi => (g3 i hi).1)
        rw [x1] at q1
        rw [hpk1, hy, x1, a1, a2, a3, c1, c2, c3, if_neg hm1, if_neg (show ¬ (1 : Int32) = 0 by decide)]
        by_cases e0 : z = 0
        · rw [if_pos e0, if_pos e0]
          exact ⟨⟨fun h => absurd h (by decide), fun _ => ⟨p1, q1, fun h => absurd h (by decide), fun _ => ⟨fun _ => ⟨i0.1, trivial⟩, fun h => absurd e0 h⟩⟩⟩, i0.2, hR1⟩
        · by_cases e1 : z = 1
          · rw [if_neg e0, if_neg e0, if_pos e1, if_pos e1]
            exact ⟨⟨fun h => absurd h (by decide), fun _ => ⟨p1, q1, fun h => absurd h (by decide), fun _ => ⟨fun h => absurd h e0, fun _ => ⟨fun _ => ⟨i1.1, trivial⟩, fun h => absurd e1 h⟩⟩⟩⟩, i1.2, hR1⟩
          · rw [if_neg e0, if_neg e0, if_neg e1, if_neg e1]
            exact ⟨⟨fun h => absurd h (by decide), fun _ => ⟨p1, q1, fun h => absurd h (by decide), fun _ => ⟨fun h => absurd h e0, fun _ => ⟨fun h => absurd h e1, fun _ => ⟨i2.1, trivial⟩⟩⟩⟩⟩, i2.2, hR1⟩
      · have x0 : X.2 = 0 := p3 (fun h => k (by
          by_cases kk : 1 ≤ L ∧ L ≤ 6
          · exact ⟨kk.1, kk.2, h.2⟩
          · have := h.1
            rw [if_neg kk] at this
            exact absurd this (by decide)))
        obtain ⟨F3, rfl⟩ : ∃ k, F2 = k + 1 := ⟨F2 - 1, by omega⟩
        have s78 : sX7_find_78 z X.2 (nI L) (mS m 3 0) (F3 + 1) 0 0 := ⟨fun _ => trivial, fun _ => ⟨fun _ => trivial, fun h => absurd x0 h⟩⟩
        rw [hpk.2 k, if_pos rfl, if_pos x0]
        exact ⟨⟨fun h => absurd h (by decide), fun _ => ⟨p1, s78, fun _ => trivial, fun h => absurd x0 h⟩⟩, rfl, hR1⟩
    · have d3 : 2 < z := by rw [hz_lt]; rw [hz_le] at d2; omega
      rw [if_neg d1, if_neg d2, if_neg d1, if_pos d3, if_pos rfl]
      exact ⟨⟨fun _ => trivial, fun h => absurd rfl h⟩, rfl, hR0⟩
end HZZ
