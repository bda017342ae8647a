/-! Reading: the words. -/
def hz_ch8 (C : List Int32) : Prop := C.length ≤ 12 ∧ ∀ i, i < C.length → ∃ c, c < 128 ∧ C.getD i 0 = nI c
def hz_mw (g : Nat → Nat) (s : Nat) (C : List Int32) (i : Nat) : Prop := ∀ j, i ≤ j → j < C.length → nI (g (s + j)) = C.getD j 0
theorem hz_ic : ∀ c, c < 128 → ichr (nI c &&& 255) = nI c := by decide +kernel
theorem hz_ng : ∀ b, b < 256 → 128 ≤ b → (nI b).toInt8.toInt32 < 0 := by decide +kernel
theorem hz_rb {b c : Nat} (hb : b < 256) (hc : c < 128) : ((nI b).toInt8.toInt32 = nI c) ↔ (nI b = nI c) := by
  by_cases k : b < 128
  · rw [hz_b7 b k]
  · have h1 := hz_ng b hb (by omega)
    constructor
    · intro h
      rw [h, hz_lt, nI_toInt (by omega), show (0 : Int32).toInt = 0 from rfl] at h1
      omega
    · intro h
      have := hz_nIi (by omega) (by omega) h
      omega
abbrev Sq : Type := String × Nat × String × List Int32
theorem hz_it0 (q : Sq) (m : Md) (F : Nat) : sX7_isText_39 q m (F + 1) 0 0 ∧ (fX7_isText_39 q m (F + 1) 0 0).2 = 0 := by
  have e1 : fX7_isText_39 q m (F + 1) 0 0 = (if (nI q.2.2.2.length) ≤ 0 then (0, 0) else (0, 0)) := rfl
  refine ⟨⟨fun _ => trivial, fun _ => ⟨fun _ => trivial, fun h => absurd rfl h⟩⟩, ?_⟩
  rw [e1]
  by_cases c : nI q.2.2.2.length ≤ 0
  · rw [if_pos c]
  · rw [if_neg c]
section HZZ
variable {L : Nat} {g : Nat → Nat} {w : Wd} {m : Md} {s q k : Nat}
theorem hl_sp (h : hz_tx L g w m) (h5 : w.1 5 = nI s) (a : Sq) {C : List Int32} (hC : a.2.2.2 = C) (hc : hz_ch8 C) (hs : s + C.length ≤ L) : ∀ (n i fu : Nat), i + n = C.length → n < fu → (hz_mw g s C i → fX4_spells_28 a w fu (nI i) = 1) ∧ (¬ hz_mw g s C i → fX4_spells_28 a w fu (nI i) = 0) := by
  intro n
  have hL := h.1
  induction n with
  | zero =>
    intro i fu hi hf
    obtain ⟨fu, rfl⟩ : ∃ k, fu = k + 1 := ⟨fu - 1, by omega⟩
    have e : fX4_spells_28 a w (fu + 1) (nI i) = 1 := if_pos (by rw [hC, hz_le, nI_toInt (by omega), nI_toInt (by omega)]; omega)
    exact ⟨fun _ => e, fun hn => absurd (show hz_mw g s C i from fun j h1 h2 => by omega) hn⟩
  | succ n ih =>
    intro i fu hi hf
    obtain ⟨fu, rfl⟩ : ∃ k, fu = k + 1 := ⟨fu - 1, by omega⟩
    obtain ⟨c, c1, c2⟩ := hc.2 i (by omega)
    have e : fX4_spells_28 a w (fu + 1) (nI i) = (if (nI a.2.2.2.length) ≤ nI i then 1 else (if (fX6_at 1200 (w.2.1 0) ((w.1 5) + nI i)) = (ichr ((a.2.2.2.getD (nI i).toNatClampNeg 0) &&& 255)) then (fX4_spells_28 a w fu (nI i + 1)) else 0)) := rfl
    rw [hC, if_neg (by rw [hz_le, nI_toInt (by omega), nI_toInt (by omega)]; omega), h5, nI_add, hz_cA h (by omega), nI_clamp (by omega), c2, hz_ic c c1, ← nI_succ] at e
    obtain ⟨i1, i2⟩ := ih (i + 1) fu (by omega) (by omega)
    rw [e]
    by_cases k : nI (g (s + i)) = nI c
    · rw [if_pos k]
      refine ⟨fun hm => i1 (fun j h1 h2 => hm j (by omega) h2), fun hm => i2 (fun h3 => hm (fun j h1 h2 => ?_))⟩
      by_cases e3 : j = i
      · rw [e3, k, c2]
      · exact h3 j (by omega) h2
    · rw [if_neg k]
      exact ⟨fun hm => absurd ((hm i (Nat.le_refl _) (by omega)).trans c2) k, fun _ => rfl⟩
theorem hl_it (h : hz_tx L g w m) (h6 : m.1 6 = nI s) (b : Sq) {C : List Int32} (hC : b.2.2.2 = C) (hc : hz_ch8 C) (hs : s + C.length ≤ L) : ∀ (n i fu : Nat) (x : Int32), i + n = C.length → n < fu → (x = 0 ∨ x = 1) → sX7_isText_39 b m fu (nI i) x ∧ ((x = 1 ∧ hz_mw g s C i) → (fX7_isText_39 b m fu (nI i) x).2 = 1) ∧ (¬ (x = 1 ∧ hz_mw g s C i) → (fX7_isText_39 b m fu (nI i) x).2 = 0) := by
  intro n
  have hL := h.1
  induction n with
  | zero =>
    intro i fu x hi hf hx
    obtain ⟨fu, rfl⟩ : ∃ k, fu = k + 1 := ⟨fu - 1, by omega⟩
    have c : nI b.2.2.2.length ≤ nI i := by rw [hC, hz_le, nI_toInt (by omega), nI_toInt (by omega)]; omega
    have e : fX7_isText_39 b m (fu + 1) (nI i) x = (nI i, x) := if_pos c
    rw [e]
    refine ⟨⟨fun _ => trivial, fun h => absurd c h⟩, fun h => h.1, fun h => ?_⟩
    rcases hx with hx | hx
    · exact hx
    · exact absurd ⟨hx, fun j h1 h2 => by omega⟩ h
  | succ n ih =>
    intro i fu x hi hf hx
    obtain ⟨fu, rfl⟩ : ∃ k, fu = k + 1 := ⟨fu - 1, by omega⟩
    obtain ⟨c, c1, c2⟩ := hc.2 i (by omega)
    have hcn : ¬ nI b.2.2.2.length ≤ nI i := by rw [hC, hz_le, nI_toInt (by omega), nI_toInt (by omega)]; omega
    obtain ⟨t1, -, t3⟩ := h.2.2.2 (s + i) (by omega)
    have e : fX7_isText_39 b m (fu + 1) (nI i) x = (if (nI b.2.2.2.length) ≤ nI i then (nI i, x) else (if x = 0 then (nI i, x) else (if ((m.2.1 7) ((m.1 6) + nI i).toNatClampNeg) = (ichr ((b.2.2.2.getD (nI i).toNatClampNeg 0) &&& 255)) then (fX7_isText_39 b m fu (nI i + 1) 1) else (fX7_isText_39 b m fu (nI i + 1) 0)))) := rfl
    have es : sX7_isText_39 b m (fu + 1) (nI i) x = (((nI b.2.2.2.length) ≤ nI i → True) ∧ (¬ (nI b.2.2.2.length) ≤ nI i → ((x = 0 → True) ∧ (¬ x = 0 → (vp_in ((m.1 6) + nI i) 1200 ∧ (¬ nI i < 0 ∧ ((((m.2.1 7) ((m.1 6) + nI i).toNatClampNeg) = (ichr ((b.2.2.2.getD (nI i).toNatClampNeg 0) &&& 255)) → (sX7_isText_39 b m fu (nI i + 1) 1)) ∧ (¬ ((m.2.1 7) ((m.1 6) + nI i).toNatClampNeg) = (ichr ((b.2.2.2.getD (nI i).toNatClampNeg 0) &&& 255)) → (sX7_isText_39 b m fu (nI i + 1) 0))))))))) := rfl
    rw [if_neg hcn, h6, nI_add, nI_clamp (by omega), nI_clamp (by omega), t3, hC, c2, hz_ic c c1, ← nI_succ] at e
    rw [h6, nI_add, nI_clamp (by omega), nI_clamp (by omega), t3, hC, c2, hz_ic c c1, ← nI_succ] at es
    rw [hC] at hcn
    obtain ⟨i1, i2, i3⟩ := ih (i + 1) fu 1 (by omega) (by omega) (Or.inr rfl)
    obtain ⟨j1, -, j3⟩ := ih (i + 1) fu 0 (by omega) (by omega) (Or.inl rfl)
    have hrb := hz_rb (b := g (s + i)) (c := c) t1 c1
    rcases hx with rfl | rfl
    · rw [if_pos rfl] at e
      rw [e, es]
      exact ⟨⟨fun _ => trivial, fun _ => ⟨fun _ => trivial, fun h => absurd rfl h⟩⟩, fun h => absurd h.1 (by decide), fun _ => rfl⟩
    · rw [if_neg (show ¬ (1 : Int32) = 0 by decide)] at e
      rw [e, es]
      refine ⟨⟨fun _ => trivial, fun _ => ⟨fun _ => trivial, fun _ => ⟨vp_in_nI (by omega) (by omega), nI_pos (by omega), fun _ => i1, fun _ => j1⟩⟩⟩, ?_⟩
      by_cases kk : (nI (g (s + i))).toInt8.toInt32 = nI c
      · rw [if_pos kk]
        refine ⟨fun hm => i2 ⟨rfl, fun j h1 h2 => hm.2 j (by omega) h2⟩, fun hm => i3 (fun h3 => hm ⟨rfl, fun j h1 h2 => ?_⟩)⟩
        by_cases e3 : j = i
        · rw [e3, hrb.1 kk, c2]
        · exact h3.2 j (by omega) h2
      · rw [if_neg kk]
        exact ⟨fun hm => absurd (hrb.2 ((hm.2 i (Nat.le_refl _) (by omega)).trans c2)) kk, fun _ => j3 (fun h => absurd h.1 (by decide))⟩
theorem hz_fu0 {n : Nat} (hn : n < 1000) : fuU (nI n) 0 = n + 1 := by
  unfold fuU
  rw [nI_toInt (by omega), show (0 : Int32).toInt = 0 from rfl]
  omega
theorem hz_itB (h : ¬ m.1 9 = 0) (b : Sq) (hl : b.2.2.2.length ≤ 12) : sX7_isText m b ∧ fX7_isText m b = 0 := by
  have hg := hz_gB h
  obtain ⟨a1, a2⟩ := hz_it0 b m b.2.2.2.length
  have e : fX7_isText m b = 0 := by
    unfold fX7_isText
    rw [if_pos hg, hz_fu0 (by omega)]
    exact a2
  refine ⟨?_, e⟩
  unfold sX7_isText
  rw [hz_fu0 (by omega)]
  exact ⟨fun _ => ⟨a1, by show narrow .boolean (.int _) = _ ∧ True; exact ⟨hz_nb (Or.inl a2), trivial⟩⟩, fun h => absurd hg h⟩
/-- a word is read alike on both sides -/
theorem hz_it (h : hz_tx L g w m) (ho : hz_prs L g w m s q k) (a b : Sq) {C : List Int32} (hA : a.2.2.2 = C) (hB : b.2.2.2 = C) (hc : hz_ch8 C) : sX7_isText m b ∧ fX7_isText m b = fX4_spells w a ∧ (fX4_spells w a = 0 ∨ fX4_spells w a = 1) := by
  obtain ⟨o1, o2, t⟩ := ho
  have hL := h.1
  have hg : ¬ fX7_good m = 0 := by rw [hz_gG o2]; decide
  obtain ⟨t1, t2, t3, t4, t5, t6, t7, t8, t9⟩ := t
  have hl := hc.1
  have f0 : fuU (nI b.2.2.2.length) 0 = C.length + 1 := by rw [hB]; exact hz_fu0 (by omega)
  have f1 : fuU (nI a.2.2.2.length) 0 = C.length + 1 := by rw [hA]; exact hz_fu0 (by omega)
  obtain ⟨z1, z2⟩ := hz_it0 b m C.length
  have hk3 : k ≤ 3 := by
    rcases t9 with ⟨x, _⟩ | ⟨x, _⟩ | ⟨x, _, _⟩ | ⟨x, _⟩ <;> omega
  have hsub : nI q - nI s = nI (q - s) := by
    have := hz_subN s (q - s) (by omega)
    rw [show s + (q - s) = q by omega] at this
    exact this
  unfold sX7_isText fX7_isText fX4_spells
  simp only [bnd]
  rw [f0, f1, t5, t6, t1, t2, t3, t4, hsub, if_neg hg, hA, hB]
  by_cases k1 : nI k = 1
  · rw [if_pos k1, if_pos k1]
    by_cases k2 : nI (q - s) = nI C.length
    · have k3 := hz_nIi (by omega) (by omega) k2
      obtain ⟨p1, p2⟩ := hl_sp h t1 a hA hc (by omega) C.length 0 (C.length + 1) (by omega) (by omega)
      obtain ⟨q1, q2, q3⟩ := hl_it h t2 b hB hc (by omega) C.length 0 (C.length + 1) 1 (by omega) (by omega) (Or.inr rfl)
      rw [nI_0] at p1 p2 q1 q2 q3
      rw [if_pos k2, if_pos k2]
      by_cases hm : hz_mw g s C 0
      · rw [p1 hm, q2 ⟨rfl, hm⟩]
        exact ⟨⟨fun h => absurd h hg, fun _ => ⟨fun _ => ⟨fun _ => ⟨q1, hz_nb (Or.inr rfl), trivial⟩, fun h => absurd k2 h⟩, fun h => absurd k1 h⟩⟩, rfl, Or.inr rfl⟩
      · rw [p2 hm, q3 (fun hh => hm hh.2)]
        exact ⟨⟨fun h => absurd h hg, fun _ => ⟨fun _ => ⟨fun _ => ⟨q1, hz_nb (Or.inl rfl), trivial⟩, fun h => absurd k2 h⟩, fun h => absurd k1 h⟩⟩, rfl, Or.inl rfl⟩
    · rw [if_neg k2, if_neg k2, z2]
      exact ⟨⟨fun h => absurd h hg, fun _ => ⟨fun _ => ⟨fun h => absurd h k2, fun _ => ⟨z1, hz_nb (Or.inl rfl), trivial⟩⟩, fun h => absurd k1 h⟩⟩, rfl, Or.inl rfl⟩
  · rw [if_neg k1, if_neg k1, z2]
    exact ⟨⟨fun h => absurd h hg, fun _ => ⟨fun h => absurd h k1, fun _ => ⟨z1, hz_nb (Or.inl rfl), trivial⟩⟩⟩, rfl, Or.inl rfl⟩
end HZZ
