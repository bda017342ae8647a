/-! Reading: a new name; entering a statement. -/
section HZZ
variable {L : Nat} {g : Nat → Nat} {w : Wd} {m : Md} {s q k : Nat}
theorem hz_newName (h : hz_tx L g w m) (ho : hz_prs L g w m s q k) (h1 : m.2.2 = 1) {cap N z1 z2 z3 : Nat} {A F : Nat → Int32} (hF : m.2.1 1 = F) (hN : N < cap) (hc : cap < 1000) (hz : z1 + z2 * (N + 1) ≤ 146) (h2 : 1 ≤ z2) (h3 : z3 < 146) (hcnt : F z3 = nI N) (hA : ∀ i, i < N → hz_nm (A i) (F (z1 + z2 * i))) (T : Int32 → Int32 × Wd) (hT : ∀ x, T x = (if x = -1 then (x, fX4_advance (fX4_refuse w 1)) else if fX6_indexOfName cap A (nI N) x = -1 then (x, fX4_advance w) else (x, fX4_advance (fX4_refuse w 3)))) : sX7_newName m (nI z1) (nI z2) (nI z3) ∧ (fX7_newName m (nI z1) (nI z2) (nI z3)).1 = nI (z1 + z2 * N) ∧ ((hz_bad (T (fX4_nameHere w)).2 (fX7_newName m (nI z1) (nI z2) (nI z3)).2 ∧ hz_mf m (fX7_newName m (nI z1) (nI z2) (nI z3)).2) ∨ (∃ s1 q1 k1 x y, q ≤ s1 ∧ (T (fX4_nameHere w)).1 = x ∧ hz_nm x y ∧ hz_prs L g (T (fX4_nameHere w)).2 (fX7_advance m) s1 q1 k1 ∧ (fX7_newName m (nI z1) (nI z2) (nI z3)).2 = mA (fX7_advance m) 1 (upd F (z1 + z2 * N) y) ∧ hz_mf m (fX7_advance m))) := by
  have hzN : z1 + z2 * N < 146 := by
    rw [Nat.mul_add] at hz
    omega
  have hv3 : vp_in (nI z3) 146 := vp_in_nI h3 (by omega)
  obtain ⟨n1, n2⟩ := hz_nameHere h ho
  have hgd : ¬ fX7_good m = 0 := by rw [hz_gG ho.2.1]; decide
  -- after a failure
  have bad : ∀ z : Int32, ¬ z = 0 → fX7_good (fX7_fail m z) = 0 ∧ sX7_goOn (fX7_fail m z) ∧ fX7_goOn (fX7_fail m z) = fX7_fail m z ∧ (fX7_fail m z).2.1 (fX7_fail m z).2.2 = F ∧ hz_bad (fX4_advance (fX4_refuse w z)) (fX7_fail m z) ∧ hz_mf m (fX7_fail m z) := fun z hz => by
    obtain ⟨f1, f2⟩ := hz_fl ho hz
    have fb := hz_badM f1
    obtain ⟨f3, f4⟩ := hz_goB fb
    refine ⟨hz_gB fb, f3, f4, ?_, hz_badC f1 (hz_ckA _), f2⟩
    rw [f2.2, h1]; exact hF
  have fin : ∀ M : Md, M.2.1 M.2.2 = F → nI z1 + (nI z2 * ((M.2.1 M.2.2) (nI z3).toNatClampNeg)) = nI (z1 + z2 * N) := fun M hM => by
    rw [hM, nI_clamp (by omega), hcnt, hz_ia2]
  rcases n2 with ⟨x, y, hxy, hx1, e1, e2⟩ | ⟨e1, e2⟩
  · -- a name
    have hFm : m.2.1 m.2.2 = F := by rw [h1]; exact hF
    have hi := hl_find (m := m) hFm (by omega : N ≤ cap) hc (by omega) h2 hxy hA
    have ecnt : (m.2.1 m.2.2) (nI z3).toNatClampNeg = nI N := by rw [hFm, nI_clamp (by omega), hcnt]
    unfold sX7_newName fX7_newName
    simp only [bnd]
    rw [e1, e2, hT x, if_neg hx1]
    show _ ∧ _ ∧ _
    rw [ecnt, hi.2]
    rw [if_neg hgd]
    by_cases c : fX7_findIn m (nI z1) (nI z2) (nI N) y = -1
    · obtain ⟨g1, g2, g3, g4, s1, q1, k1, g5, g6⟩ := hz_go h ho
      have gg : ¬ fX7_good (fX7_advance m) = 0 := by rw [hz_gG g6.2.1]; decide
      have hFa : (fX7_advance m).2.1 (fX7_advance m).2.2 = F := by rw [g4.2]; exact hFm
      have ha := fin (fX7_advance m) hFa
      have h21 : (fX7_advance m).2.2 = 1 := by rw [g4.2]; exact h1
      rw [if_pos c, if_pos c, g3, if_neg gg, ha, nI_clamp (by omega), hFa, h21]
      refine ⟨⟨n1, fun h => absurd h hgd, fun _ => ⟨hv3, hi.1, fun _ => ⟨g1, hv3, fun h => absurd h gg, fun _ => ⟨vp_in_nI hzN (by omega), trivial⟩⟩, fun h => absurd c h⟩⟩, rfl, Or.inr ⟨s1, q1, k1, x, y, g5, rfl, hxy, g6, by show mA (fX7_advance m) 1 (upd F (nI (z1 + z2 * N)).toNatClampNeg y) = _; rw [nI_clamp (show z1 + z2 * N < _ by omega)], g4⟩⟩
    · obtain ⟨b1, b2, b3, b4, b5, b6⟩ := bad 3 (by decide)
      rw [if_neg c, if_neg c, b3, if_pos b1, fin _ b4]
      exact ⟨⟨n1, fun h => absurd h hgd, fun _ => ⟨hv3, hi.1, fun h => absurd h c, fun _ => ⟨b2, hv3, fun _ => trivial, fun h => absurd b1 h⟩⟩⟩, rfl, Or.inl ⟨b5, b6⟩⟩
  · obtain ⟨b1, b2, b3, b4, b5, b6⟩ := bad 1 (by decide)
    unfold sX7_newName fX7_newName
    simp only [bnd]
    rw [e1, e2, hT (-1), if_pos rfl]
    show _ ∧ _ ∧ _
    rw [b3, if_pos b1, if_pos b1, fin _ b4]
    exact ⟨⟨n1, fun _ => ⟨b2, hv3, fun _ => trivial, fun h => absurd b1 h⟩, fun h => absurd b1 h⟩, rfl, Or.inl ⟨b5, b6⟩⟩
theorem hz_bnd {α β : Type} (x : α) (f : α → β) : bnd x f = f x := Eq.trans (b := f x) rfl rfl
theorem hz_bid {α : Type} (x : α) : bnd x (fun r => r) = x := Eq.trans (b := (fun r => r) x) rfl rfl
/-- entering a statement of a list -/
theorem hz_enter (h : hz_tx L g w m) (ho : hz_prs L g w m s q k) (h1 : m.2.2 = 1) {N cap z : Nat} (hz : z < 146) (hN : N ≤ cap) (hc : cap < 1000) (hcnt : m.2.1 1 z = nI N) : sX7_enter m (nI z) (nI cap) ∧ (N = cap → fX7_enter m (nI z) (nI cap) = fX7_fail m 5 ∧ hz_bad (fX4_startStatement w 1 5) (fX7_fail m 5) ∧ hz_mf m (fX7_fail m 5)) ∧ (N < cap → fX7_enter m (nI z) (nI cap) = fX7_advance m ∧ hz_mf m (fX7_advance m) ∧ ∃ s1 q1 k1, q ≤ s1 ∧ hz_prs L g (fX4_startStatement w 0 5) (fX7_advance m) s1 q1 k1) := by
  have ec : (m.2.1 m.2.2) (nI z).toNatClampNeg = nI N := by rw [h1, nI_clamp (by omega), hcnt]
  have hiff : nI N = nI cap ↔ N = cap := ⟨fun h => hz_nIi (by omega) (by omega) h, fun h => by rw [h]⟩
  obtain ⟨g1, g2, g3, g4, s1, q1, k1, g5, g6⟩ := hz_go h ho
  obtain ⟨f1, f2⟩ := hz_fl ho (z := 5) (by decide)
  have fb := hz_badM f1
  obtain ⟨f3, f4⟩ := hz_goB fb
  have eS1 : fX4_startStatement w 1 5 = fX4_advance (fX4_refuse w 5) := by
    unfold fX4_startStatement
    rw [if_neg (show ¬ (1 : Int32) = 0 by decide)]
    simp only [hz_bid]
    rw [hz_bnd]
  have eS0 : fX4_startStatement w 0 5 = fX4_advance w := by
    unfold fX4_startStatement
    rw [if_pos rfl]
    simp only [hz_bid]
  unfold sX7_enter fX7_enter
  simp only [hz_bid]
  simp only [hz_bnd]
  rw [ec, f4, g3, eS1, eS0]
  refine ⟨⟨vp_in_nI hz (by omega), fun _ => ⟨f3, trivial⟩, fun _ => ⟨g1, trivial⟩⟩, fun e => ?_, fun e => ?_⟩
  · rw [if_pos (hiff.2 e)]
    exact ⟨rfl, hz_badC f1 (hz_ckA _), f2⟩
  · rw [if_neg (fun hh => by have := hiff.1 hh; omega)]
    exact ⟨rfl, g4, s1, q1, k1, g5, g6⟩
end HZZ
