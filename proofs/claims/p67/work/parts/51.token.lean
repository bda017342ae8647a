/-! Reading: the text, its tokens. -/
def hz_tx (L : Nat) (g : Nat → Nat) (w : Wd) (m : Md) : Prop := L ≤ 1200 ∧ w.1 3 = nI L ∧ m.1 4 = nI L ∧ ∀ j, j < L → g j < 256 ∧ w.2.1 0 j = nI (g j) ∧ m.2.1 7 j = (nI (g j)).toInt8.toInt32
def hz_w6 (w w1 : Wd) (e : Nat) : Prop := w1.1 6 = nI e ∧ (∀ k, ¬ k = 6 → w1.1 k = w.1 k) ∧ w1.2 = w.2
def hz_m5 (m m1 : Md) (e : Nat) : Prop := m1.1 5 = nI e ∧ (∀ k, ¬ k = 5 → m1.1 k = m.1 k) ∧ m1.2 = m.2
theorem hz_w6T {w w1 : Wd} {e : Nat} {x : Int32} (h : hz_w6 (wS w 6 x) w1 e) : hz_w6 w w1 e := ⟨h.1, fun k hk => (h.2.1 k hk).trans (if_neg hk), h.2.2⟩
theorem hz_m5T {m m1 : Md} {e : Nat} {x : Int32} (h : hz_m5 (mS m 5 x) m1 e) : hz_m5 m m1 e := ⟨h.1, fun k hk => (h.2.1 k hk).trans (if_neg hk), h.2.2⟩
theorem hz_blk : ∀ b, b < 256 → fX4_isBlank (nI b) = if b = 32 ∨ b = 10 then 1 else 0 := by decide +kernel
theorem hz_dig : ∀ b, b < 256 → fX4_isDigit (nI b) = if 48 ≤ b ∧ b ≤ 57 then 1 else 0 := by decide +kernel
theorem hz_digM : ∀ b, b < 256 → fX6_isBetween (nI b) 48 57 = if 48 ≤ b ∧ b ≤ 57 then 1 else 0 := by decide +kernel
theorem hz_letM : ∀ b, b < 256 → fX6_isBetween (nI b) 97 122 = if 97 ≤ b ∧ b ≤ 122 then 1 else 0 := by decide +kernel
theorem hz_255 : ∀ b, b < 256 → (nI b).toInt8.toInt32 &&& 255 = nI b := by decide +kernel
section HZZ
variable {L : Nat} {g : Nat → Nat} {w : Wd} {m : Md}
theorem hz_txS {w1 : Wd} {m1 : Md} (h : hz_tx L g w m) (h1 : w1.1 3 = w.1 3) (h2 : m1.1 4 = m.1 4) (h3 : w1.2.1 0 = w.2.1 0) (h4 : m1.2.1 7 = m.2.1 7) : hz_tx L g w1 m1 := by
  obtain ⟨a, b, c, d⟩ := h
  exact ⟨a, h1.trans b, h2.trans c, fun j hj => by rw [h3, h4]; exact d j hj⟩
theorem hz_bA (h : hz_tx L g w m) {q : Nat} (hq : q ≤ L) : sX7_byteAt m (nI q) ∧ fX7_byteAt m (nI q) = if q < L then nI (g q) else -1 := by
  obtain ⟨a, b, c, d⟩ := h
  unfold sX7_byteAt fX7_byteAt
  rw [c, nI_clamp (by omega)]
  by_cases k : q < L
  · have k' : ¬ nI L ≤ nI q := by rw [hz_le, nI_toInt (by omega), nI_toInt (by omega)]; omega
    rw [if_neg k', if_pos k, (d q k).2.2, hz_255 _ (d q k).1]
    exact ⟨⟨fun h => absurd h k', fun _ => ⟨vp_in_nI (by omega) (by omega), trivial⟩⟩, rfl⟩
  · have k' : nI L ≤ nI q := by rw [hz_le, nI_toInt (by omega), nI_toInt (by omega)]; omega
    rw [if_pos k', if_neg k]
    exact ⟨⟨fun _ => trivial, fun h => absurd k' h⟩, rfl⟩
theorem hz_cA (h : hz_tx L g w m) {q : Nat} (hq : q < L) : fX6_at 1200 (w.2.1 0) (nI q) = nI (g q) := by
  obtain ⟨a, b, c, d⟩ := h
  rw [hz_at _ (by omega) (by decide)]
  exact (d q hq).2.1
theorem hz_bI (b k : Nat) (hb : b < 256) (hk : k < 256) : (nI b = nI k) ↔ b = k := ⟨fun h => hz_nIi (by omega) (by omega) h, fun h => by rw [h]⟩
theorem hl_sk : ∀ (n q fu fv : Nat) (w : Wd) (m : Md), q + n = L → n < fu → n < fv → hz_tx L g w m → w.1 6 = nI q → m.1 5 = nI q → sX7_advance_0 fv m ∧ ∃ e, q ≤ e ∧ e ≤ L ∧ hz_w6 w (fX4_advance_0 fu w) e ∧ hz_m5 m (fX7_advance_0 fv m) e := by
  intro n
  induction n with
  | zero =>
    intro q fu fv w m hq hf hg h hw hm
    obtain ⟨fu, rfl⟩ : ∃ k, fu = k + 1 := ⟨fu - 1, by omega⟩
    obtain ⟨fv, rfl⟩ : ∃ k, fv = k + 1 := ⟨fv - 1, by omega⟩
    obtain ⟨b1, b2⟩ := hz_bA h (q := q) (by omega)
    have hL := h.1
    rw [if_neg (by omega)] at b2
    have c : w.1 3 ≤ w.1 6 := by rw [h.2.1, hw, hz_le, nI_toInt (by omega), nI_toInt (by omega)]; omega
    have e1 : fX4_advance_0 (fu + 1) w = w := if_pos c
    have e2 : fX7_advance_0 (fv + 1) m = (if (fX7_byteAt m (m.1 5)) = 32 then (fX7_advance_0 fv (mS m 5 ((m.1 5) + 1))) else (if (fX7_byteAt m (m.1 5)) = 10 then (fX7_advance_0 fv (mS m 5 ((m.1 5) + 1))) else m)) := rfl
    have e3 : sX7_advance_0 (fv + 1) m = ((sX7_byteAt m (m.1 5)) ∧ (((fX7_byteAt m (m.1 5)) = 32 → (sX7_advance_0 fv (mS m 5 ((m.1 5) + 1)))) ∧ (¬ (fX7_byteAt m (m.1 5)) = 32 → ((sX7_byteAt m (m.1 5)) ∧ (((fX7_byteAt m (m.1 5)) = 10 → (sX7_advance_0 fv (mS m 5 ((m.1 5) + 1)))) ∧ (¬ (fX7_byteAt m (m.1 5)) = 10 → True)))))) := rfl
    rw [hm, b2, if_neg (show ¬ (-1 : Int32) = 32 by decide), if_neg (show ¬ (-1 : Int32) = 10 by decide)] at e2
    rw [hm, b2] at e3
    rw [e1, e2, e3]
    exact ⟨⟨b1, fun h => absurd h (by decide), fun _ => ⟨b1, fun h => absurd h (by decide), fun _ => trivial⟩⟩, q, by omega, by omega, ⟨hw, fun _ _ => rfl, rfl⟩, ⟨hm, fun _ _ => rfl, rfl⟩⟩
  | succ n ih =>
    intro q fu fv w m hq hf hg h hw hm
    obtain ⟨fu, rfl⟩ : ∃ k, fu = k + 1 := ⟨fu - 1, by omega⟩
    obtain ⟨fv, rfl⟩ : ∃ k, fv = k + 1 := ⟨fv - 1, by omega⟩
    obtain ⟨b1, b2⟩ := hz_bA h (q := q) (by omega)
    have hL := h.1
    have hb := (h.2.2.2 q (by omega)).1
    rw [if_pos (by omega)] at b2
    have c : ¬ w.1 3 ≤ w.1 6 := by rw [h.2.1, hw, hz_le, nI_toInt (by omega), nI_toInt (by omega)]; omega
    have e1 : fX4_advance_0 (fu + 1) w = (if (w.1 3) ≤ (w.1 6) then w else (if (fX4_isBlank (fX6_at 1200 (w.2.1 0) (w.1 6))) = 0 then w else (fX4_advance_0 fu (wS w 6 ((w.1 6) + 1))))) := rfl
    have e2 : fX7_advance_0 (fv + 1) m = (if (fX7_byteAt m (m.1 5)) = 32 then (fX7_advance_0 fv (mS m 5 ((m.1 5) + 1))) else (if (fX7_byteAt m (m.1 5)) = 10 then (fX7_advance_0 fv (mS m 5 ((m.1 5) + 1))) else m)) := rfl
    have e3 : sX7_advance_0 (fv + 1) m = ((sX7_byteAt m (m.1 5)) ∧ (((fX7_byteAt m (m.1 5)) = 32 → (sX7_advance_0 fv (mS m 5 ((m.1 5) + 1)))) ∧ (¬ (fX7_byteAt m (m.1 5)) = 32 → ((sX7_byteAt m (m.1 5)) ∧ (((fX7_byteAt m (m.1 5)) = 10 → (sX7_advance_0 fv (mS m 5 ((m.1 5) + 1)))) ∧ (¬ (fX7_byteAt m (m.1 5)) = 10 → True)))))) := rfl
    rw [if_neg c, hw, hz_cA h (by omega), hz_blk _ hb, ← nI_succ] at e1
    rw [hm, b2, ← nI_succ] at e2 e3
    have k32 : (nI (g q) = 32) ↔ g q = 32 := hz_bI (g q) 32 hb (by decide)
    have k10 : (nI (g q) = 10) ↔ g q = 10 := hz_bI (g q) 10 hb (by decide)
    obtain ⟨i1, e, i2, i3, i4, i5⟩ := ih (q + 1) fu fv (wS w 6 (nI (q + 1))) (mS m 5 (nI (q + 1))) (by omega) (by omega) (by omega) (hz_txS h rfl rfl rfl rfl) rfl rfl
    by_cases c1 : g q = 32
    · rw [if_pos (Or.inl c1), if_neg (show ¬ (1 : Int32) = 0 by decide)] at e1
      rw [if_pos (k32.2 c1)] at e2
      rw [e1, e2, e3]
      exact ⟨⟨b1, fun _ => i1, fun h => absurd (k32.2 c1) h⟩, e, by omega, i3, hz_w6T i4, hz_m5T i5⟩
    · by_cases c2 : g q = 10
      · rw [if_pos (Or.inr c2), if_neg (show ¬ (1 : Int32) = 0 by decide)] at e1
        rw [if_neg (fun h => c1 (k32.1 h)), if_pos (k10.2 c2)] at e2
        rw [e1, e2, e3]
        exact ⟨⟨b1, fun _ => i1, fun _ => ⟨b1, fun _ => i1, fun h => absurd (k10.2 c2) h⟩⟩, e, by omega, i3, hz_w6T i4, hz_m5T i5⟩
      · rw [if_neg (show ¬ (g q = 32 ∨ g q = 10) by omega), if_pos rfl] at e1
        rw [if_neg (fun h => c1 (k32.1 h)), if_neg (fun h => c2 (k10.1 h))] at e2
        rw [e1, e2, e3]
        exact ⟨⟨b1, fun h => absurd (k32.1 h) c1, fun _ => ⟨b1, fun h => absurd (k10.1 h) c2, fun _ => trivial⟩⟩, q, by omega, by omega, ⟨hw, fun _ _ => rfl, rfl⟩, ⟨hm, fun _ _ => rfl, rfl⟩⟩
theorem hl_le : ∀ (n q fu fv : Nat) (w : Wd) (m : Md), q + n = L → n < fu → n < fv → hz_tx L g w m → w.1 6 = nI q → m.1 5 = nI q → sX7_advance_83 fv m ∧ ∃ e, q ≤ e ∧ e ≤ L ∧ hz_al g q (e - q) ∧ (e < L → ¬ (97 ≤ g e ∧ g e ≤ 122)) ∧ hz_w6 w (fX4_advance_95 fu w) e ∧ hz_m5 m (fX7_advance_83 fv m) e := by
  intro n
  induction n with
  | zero =>
    intro q fu fv w m hq hf hg h hw hm
    obtain ⟨fu, rfl⟩ : ∃ k, fu = k + 1 := ⟨fu - 1, by omega⟩
    obtain ⟨fv, rfl⟩ : ∃ k, fv = k + 1 := ⟨fv - 1, by omega⟩
    obtain ⟨b1, b2⟩ := hz_bA h (q := q) (by omega)
    have hL := h.1
    rw [if_neg (by omega)] at b2
    have c : w.1 3 ≤ w.1 6 := by rw [h.2.1, hw, hz_le, nI_toInt (by omega), nI_toInt (by omega)]; omega
    have e1 : fX4_advance_95 (fu + 1) w = w := if_pos c
    have e2 : fX7_advance_83 (fv + 1) m = (if (fX7_in ((fX7_byteAt m (m.1 5)).toInt64) 97 122) = 0 then m else (fX7_advance_83 fv (mS m 5 ((m.1 5) + 1)))) := rfl
    have e3 : sX7_advance_83 (fv + 1) m = ((sX7_byteAt m (m.1 5)) ∧ (((fX7_in ((fX7_byteAt m (m.1 5)).toInt64) 97 122) = 0 → True) ∧ (¬ (fX7_in ((fX7_byteAt m (m.1 5)).toInt64) 97 122) = 0 → (sX7_advance_83 fv (mS m 5 ((m.1 5) + 1)))))) := rfl
    have ei : fX7_in ((-1 : Int32).toInt64) 97 122 = 0 := by decide
    rw [hm, b2, ei, if_pos rfl] at e2
    rw [hm, b2, ei] at e3
    rw [e1, e2, e3]
    exact ⟨⟨b1, fun _ => trivial, fun h => absurd rfl h⟩, q, by omega, by omega, fun j h1 h2 => by omega, fun h => by omega, ⟨hw, fun _ _ => rfl, rfl⟩, ⟨hm, fun _ _ => rfl, rfl⟩⟩
  | succ n ih =>
    intro q fu fv w m hq hf hg h hw hm
    obtain ⟨fu, rfl⟩ : ∃ k, fu = k + 1 := ⟨fu - 1, by omega⟩
    obtain ⟨fv, rfl⟩ : ∃ k, fv = k + 1 := ⟨fv - 1, by omega⟩
    obtain ⟨b1, b2⟩ := hz_bA h (q := q) (by omega)
    have hL := h.1
    have hb := (h.2.2.2 q (by omega)).1
    rw [if_pos (by omega)] at b2
    have c : ¬ w.1 3 ≤ w.1 6 := by rw [h.2.1, hw, hz_le, nI_toInt (by omega), nI_toInt (by omega)]; omega
    have ei : fX7_in ((nI (g q)).toInt64) 97 122 = fX6_isBetween (nI (g q)) 97 122 := hz_in (nI (g q)) 97 122
    have e1 : fX4_advance_95 (fu + 1) w = (if (w.1 3) ≤ (w.1 6) then w else (if (fX6_isLetter (fX6_at 1200 (w.2.1 0) (w.1 6))) = 0 then w else (fX4_advance_95 fu (wS w 6 ((w.1 6) + 1))))) := rfl
    have e2 : fX7_advance_83 (fv + 1) m = (if (fX7_in ((fX7_byteAt m (m.1 5)).toInt64) 97 122) = 0 then m else (fX7_advance_83 fv (mS m 5 ((m.1 5) + 1)))) := rfl
    have e3 : sX7_advance_83 (fv + 1) m = ((sX7_byteAt m (m.1 5)) ∧ (((fX7_in ((fX7_byteAt m (m.1 5)).toInt64) 97 122) = 0 → True) ∧ (¬ (fX7_in ((fX7_byteAt m (m.1 5)).toInt64) 97 122) = 0 → (sX7_advance_83 fv (mS m 5 ((m.1 5) + 1)))))) := rfl
    rw [if_neg c, hw, hz_cA h (by omega), hz_isl _ hb, ← nI_succ] at e1
    rw [hm, b2, ei, hz_letM _ hb, ← nI_succ] at e2 e3
    obtain ⟨i1, e, i2, i3, i6, i7, i4, i5⟩ := ih (q + 1) fu fv (wS w 6 (nI (q + 1))) (mS m 5 (nI (q + 1))) (by omega) (by omega) (by omega) (hz_txS h rfl rfl rfl rfl) rfl rfl
    by_cases c1 : 97 ≤ g q ∧ g q ≤ 122
    · rw [if_pos c1, if_neg (show ¬ (1 : Int32) = 0 by decide)] at e1 e2
      rw [if_pos c1] at e3
      rw [e1, e2, e3]
      exact ⟨⟨b1, fun h => absurd h (by decide), fun _ => i1⟩, e, by omega, i3, fun j h1 h2 => by
        by_cases k : j = q
        · rw [k]; exact c1
        · exact i6 j (by omega) (by omega), i7, hz_w6T i4, hz_m5T i5⟩
    · rw [if_neg c1, if_pos rfl] at e1 e2
      rw [if_neg c1] at e3
      rw [e1, e2, e3]
      exact ⟨⟨b1, fun _ => trivial, fun h => absurd rfl h⟩, q, by omega, by omega, fun j h1 h2 => by omega, fun _ => c1, ⟨hw, fun _ _ => rfl, rfl⟩, ⟨hm, fun _ _ => rfl, rfl⟩⟩
end HZZ
