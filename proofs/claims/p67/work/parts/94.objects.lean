/-! An object of the class, anywhere. -/
theorem Cm.grow {l : Launch} {G : GM} {M : MD} {d k u : Nat} {As : List Value} {h : List va_E} {Q : Option Value → List va_E → Prop} (hc : Cm l G M d k u As h Q) : Cm l G M d k u As h (fun v h1 => Q v h1 ∧ h.length ≤ h1.length) := by
  intro p e ha hc1 hc2 s m args below hf hap hP hK
  obtain ⟨p1, p2, p3, p4⟩ := id hP
  obtain ⟨n, o, a1, a2, a3, ⟨⟨⟨v, h1, e1, e2, e3⟩, e4⟩, e5⟩⟩ := hc p e ha hc1 hc2 s m args below hf hap hP hK
  have := p2.2
  have := e3.2
  have := e4.1
  exact ⟨n, o, a1, a2, a3, ⟨⟨v, h1, e1, ⟨e2, by omega⟩, e3⟩, e4⟩, e5⟩
def K0 : Nat → Option va_E := fun _ => none
/-- an object at B, in the state w -/
def OB (G : GM) (h : List va_E) (B : Nat) (w : Wd) : Prop := B ≤ h.length ∧ HW (GS G B) K0 (h.drop B) w
/-- what a question may change -/
def OF (B : Nat) (w : Wd) (h h1 : List va_E) : Prop := h.length ≤ h1.length ∧ ∀ a, a < h.length → (a < B ∨ B + 221 ≤ a) → ¬ a = B + w.2.2.2.2.2.1 → h1[a]? = h[a]?
theorem of_0 (B : Nat) (w : Wd) (h : List va_E) : OF B w h h := ⟨Nat.le_refl _, fun _ _ _ _ => rfl⟩
theorem of_T {B : Nat} {w w1 : Wd} {h h1 h2 : List va_E} (a : OF B w h h1) (b : OF B w1 h1 h2) (e : w1.2.2.2.2.2.1 = w.2.2.2.2.2.1) : OF B w h h2 := ⟨Nat.le_trans a.1 b.1, fun q h1 h2 h3 => (b.2 q (Nat.lt_of_lt_of_le h1 a.1) h2 (by rw [e]; exact h3)).trans (a.2 q h1 h2 h3)⟩
/-- all that an object doesn't own -/
def kx (h : List va_E) (w : Wd) : Nat → Option va_E := fun a => if a = w.2.2.2.2.2.1 then none else h[a]?
theorem hw_kx {G : GM} {K : Nat → Option va_E} {h : List va_E} {w : Wd} (hw : HW G K h w) : HW G (kx h w) h w := by
  obtain ⟨a, b, ⟨c1, c2, c3⟩, d, e⟩ := hw
  refine ⟨a, b, ⟨c1, ?_, c3⟩, fun q c _ hq => ?_, e⟩
  · rcases c2 with c2 | ⟨c2, -⟩
    · exact Or.inl c2
    · exact Or.inr ⟨c2, if_pos rfl⟩
  · unfold kx at hq
    split at hq
    · cases hq
    · exact hq
theorem hw_k0 {G : GM} {K : Nat → Option va_E} {h : List va_E} {w : Wd} (hw : HW G K h w) : HW G K0 h w := by
  obtain ⟨a, b, ⟨c1, c2, c3⟩, d, e⟩ := hw
  refine ⟨a, b, ⟨c1, ?_, c3⟩, fun q c _ hq => (by cases hq), e⟩
  rcases c2 with c2 | ⟨c2, -⟩
  · exact Or.inl c2
  · exact Or.inr ⟨c2, rfl⟩
theorem ob_fr {G : GM} {h h1 : List va_E} {B : Nat} {w : Wd} (ho : OB G h B w) (hl : h.length ≤ h1.length) (hf : ∀ a, B ≤ a → a < h.length → (a < B + 221 ∨ a = B + w.2.2.2.2.2.1) → h1[a]? = h[a]?) : OB G h1 B w := by
  obtain ⟨hB, hw⟩ := ho
  have hd : (h.drop B).length = h.length - B := List.length_drop
  have e : ∀ a, a < (h.drop B).length → (a < 221 ∨ a = w.2.2.2.2.2.1) → (h1.drop B)[a]? = (h.drop B)[a]? := fun a ha hc => by
    rw [List.getElem?_drop, List.getElem?_drop]
    exact hf _ (by omega) (by omega) (by omega)
  refine ⟨by omega, ?_⟩
  have lt : ∀ {a : Nat} {c : va_E}, (h.drop B)[a]? = some c → a < (h.drop B).length := fun hq => (List.getElem?_eq_some_iff.mp hq).1
  obtain ⟨hp, ⟨c0, c2, c19, c1, c53, c54, c215, c216, c217, c218, c219, c220⟩, ⟨b1, b2, b3, b4⟩, kk, kl⟩ := hw
  refine ⟨fun i hi k hk => ?_, ⟨(e _ (lt c0) (by omega)).trans c0, (e _ (lt c2) (by omega)).trans c2, (e _ (lt c19) (by omega)).trans c19, (e _ (lt c1) (by omega)).trans c1, (e _ (lt c53) (by omega)).trans c53, (e _ (lt c54) (by omega)).trans c54, (e _ (lt c215) (by omega)).trans c215, (e _ (lt c216) (by omega)).trans c216, (e _ (lt c217) (by omega)).trans c217, (e _ (lt c218) (by omega)).trans c218, (e _ (lt c219) (by omega)).trans c219, (e _ (lt c220) (by omega)).trans c220⟩, ⟨(e _ (lt b1) (by omega)).trans b1, b2, b3, b4⟩, fun a c _ hq => (by cases hq), by rw [List.length_drop]; omega⟩
  have h2 := pb_hi hi
  exact (e _ (lt (hp i hi k hk)) (by omega)).trans (hp i hi k hk)
theorem ob_cell {G : GM} {h : List va_E} {B : Nat} {w : Wd} (ho : OB G h B w) : ∃ fs, h[B]? = some (.inr (7, fs)) := by
  have e := hwc0 ho.2
  rw [List.getElem?_drop] at e
  exact ⟨_, e⟩
theorem ob_len {G : GM} {h : List va_E} {B : Nat} {w : Wd} (ho : OB G h B w) : B + 221 ≤ h.length ∧ (w.2.2.2.2.2.1 = 20 ∨ 221 ≤ w.2.2.2.2.2.1) ∧ B + w.2.2.2.2.2.1 < h.length := by
  obtain ⟨hB, hw⟩ := ho
  have hd : (h.drop B).length = h.length - B := List.length_drop
  have hb := hw.2.2.1.2.1
  have hl := hw.2.2.2.2
  have hv := (List.getElem?_eq_some_iff.mp (hwB hw)).1
  refine ⟨by omega, ?_, by omega⟩
  rcases hb with h | h
  · exact Or.inl h
  · exact Or.inr h.1
/-- where the text's row may be afterwards -/
def OG (B : Nat) (w w1 : Wd) (h h1 : List va_E) : Prop := OF B w h h1 ∧ (w1.2.2.2.2.2.1 = w.2.2.2.2.2.1 ∨ w1.2.2.2.2.2.1 = 20 ∨ h.length ≤ B + w1.2.2.2.2.2.1)
section OBS
variable {l : Launch} {G : GM} {h : List va_E} {B d : Nat} {w : Wd}
/-- a question that changes nothing -/
theorem ob_A {M : MD} {As : List Value} {x : Int32} {n : Nat} (ho : OB G h B w) (hM : okC M n) (hlen : (lg_sl (.ref (gz G + B) :: As)).length ≤ M.2.2.1) (hc : HW (GS G B) K0 (h.drop B) w → Ct l (GS G B) M d 0 0 (.ref (gz (GS G B) + 0) :: As) (h.drop B) (fun v h1 => v = some (.int x) ∧ h1 = h.drop B)) : Cm l G M d 0 0 (.ref (gz G + B) :: As) h (fun v h1 => v = some (.int x) ∧ h1 = h) := by
  have c := (hc ho.2).m hM hlen
  refine (Cm.shift ho.1 c).post (fun v h1 hq => ?_)
  obtain ⟨h2, rfl, rfl, rfl⟩ := hq
  exact ⟨rfl, List.take_append_drop B h⟩
/-- .. that changes the object -/
theorem ob_B {M : MD} {As : List Value} {F : Int32 × Wd} {n : Nat} (ho : OB G h B w) (hM : okC M n) (hlen : (lg_sl (.ref (gz G + B) :: As)).length ≤ M.2.2.1) (hc : ∀ K, HW (GS G B) K (h.drop B) w → Ct l (GS G B) M d 0 0 (.ref (gz (GS G B) + 0) :: As) (h.drop B) (fun v h1 => ∃ r, F = r ∧ v = some (.int r.1) ∧ HW (GS G B) K h1 r.2)) : Cm l G M d 0 0 (.ref (gz G + B) :: As) h (fun v h1 => v = some (.int F.1) ∧ OB G h1 B F.2 ∧ OG B w F.2 h h1) := by
  have c := (hc (kx (h.drop B) w) (hw_kx ho.2)).m hM hlen
  refine (Cm.grow (Cm.shift ho.1 c)).post (fun v h1 hq => ?_)
  obtain ⟨⟨h2, rfl, r, rfl, rfl, hw⟩, hl⟩ := hq
  refine ⟨rfl, ⟨by have := ho.1; omega, ?_⟩, ⟨hl, fun a ha hab hp => ?_⟩, ?_⟩
  · rw [td_drop ho.1]; exact hw_k0 hw
  · by_cases c1 : a < B
    · exact td_lo ho.1 c1
    · have hx := List.getElem?_eq_getElem ha
      rw [td_hi ho.1 (by omega), hx]
      refine hw.2.2.2.1 (a - B) _ (by omega) ?_
      unfold kx
      rw [if_neg (by omega), td_at (by omega)]
      exact hx
  · rcases hw.2.2.1.2.1 with c | ⟨-, c⟩
    · exact Or.inr (Or.inl c)
    · unfold kx at c
      split at c
      · rename_i e
        exact Or.inl e
      · rw [List.getElem?_drop, List.getElem?_eq_none_iff] at c
        exact Or.inr (Or.inr c)
theorem om_append (ho : OB G h B w) (z1 z2 z3 z4 z5 : Int32) : Cm l G mX6_append 2 0 0 (.ref (gz G + B) :: [.int z1, .int z2, .int z3, .int z4, .int z5]) h (fun v h1 => v = some (.int (fX6_append w z1 z2 z3 z4 z5).1) ∧ OB G h1 B (fX6_append w z1 z2 z3 z4 z5).2 ∧ OG B w (fX6_append w z1 z2 z3 z4 z5).2 h h1) := ob_B ho kCX6_append (Nat.le_of_ble_eq_true rfl) (fun K hw => ctX6_append hw z1 z2 z3 z4 z5)
theorem om_truncate (ho : OB G h B w) (z1 : Int32) : Cm l G mX6_truncate 0 0 0 (.ref (gz G + B) :: [.int z1]) h (fun v h1 => v = some (.int (fX6_truncate w z1).1) ∧ OB G h1 B (fX6_truncate w z1).2 ∧ OG B w (fX6_truncate w z1).2 h h1) := ob_B ho kCX6_truncate (Nat.le_of_ble_eq_true rfl) (fun K hw => ctX6_truncate hw z1)
theorem om_load (ho : OB G h B w) : Cm l G mX6_load 9 0 0 (.ref (gz G + B) :: []) h (fun v h1 => v = some (.int (fX6_load w ).1) ∧ OB G h1 B (fX6_load w ).2 ∧ OG B w (fX6_load w ).2 h h1) := ob_B ho kCX6_load (Nat.le_of_ble_eq_true rfl) (fun K hw => ctX6_load hw )
theorem om_errorCode (ho : OB G h B w) : Cm l G mX6_errorCode 0 0 0 (.ref (gz G + B) :: []) h (fun v h1 => v = some (.int (fX6_errorCode w )) ∧ h1 = h) := ob_A ho kCX6_errorCode (Nat.le_of_ble_eq_true rfl) (fun hw => ctX6_errorCode hw )
theorem om_errorPosition (ho : OB G h B w) : Cm l G mX6_errorPosition 0 0 0 (.ref (gz G + B) :: []) h (fun v h1 => v = some (.int (fX6_errorPosition w )) ∧ h1 = h) := ob_A ho kCX6_errorPosition (Nat.le_of_ble_eq_true rfl) (fun hw => ctX6_errorPosition hw )
theorem om_find (ho : OB G h B w) (z1 : Int32) : Cm l G mX6_find 2 0 0 (.ref (gz G + B) :: [.int z1]) h (fun v h1 => v = some (.int (fX6_find w z1).1) ∧ OB G h1 B (fX6_find w z1).2 ∧ OG B w (fX6_find w z1).2 h h1) := ob_B ho kCX6_find (Nat.le_of_ble_eq_true rfl) (fun K hw => ctX6_find hw z1)
theorem om_days (ho : OB G h B w) : Cm l G mX6_days 0 0 0 (.ref (gz G + B) :: []) h (fun v h1 => v = some (.int (fX6_days w )) ∧ h1 = h) := ob_A ho kCX6_days (Nat.le_of_ble_eq_true rfl) (fun hw => ctX6_days hw )
theorem om_undoCount (ho : OB G h B w) : Cm l G mX6_undoCount 0 0 0 (.ref (gz G + B) :: []) h (fun v h1 => v = some (.int (fX6_undoCount w )) ∧ h1 = h) := ob_A ho kCX6_undoCount (Nat.le_of_ble_eq_true rfl) (fun hw => ctX6_undoCount hw )
theorem om_pieceCount (ho : OB G h B w) : Cm l G mX6_pieceCount 0 0 0 (.ref (gz G + B) :: []) h (fun v h1 => v = some (.int (fX6_pieceCount w )) ∧ h1 = h) := ob_A ho kCX6_pieceCount (Nat.le_of_ble_eq_true rfl) (fun hw => ctX6_pieceCount hw )
theorem om_lengthTolerance (ho : OB G h B w) : Cm l G mX6_lengthTolerance 0 0 0 (.ref (gz G + B) :: []) h (fun v h1 => v = some (.int (fX6_lengthTolerance w )) ∧ h1 = h) := ob_A ho kCX6_lengthTolerance (Nat.le_of_ble_eq_true rfl) (fun hw => ctX6_lengthTolerance hw )
theorem om_shadeTolerance (ho : OB G h B w) : Cm l G mX6_shadeTolerance 0 0 0 (.ref (gz G + B) :: []) h (fun v h1 => v = some (.int (fX6_shadeTolerance w )) ∧ h1 = h) := ob_A ho kCX6_shadeTolerance (Nat.le_of_ble_eq_true rfl) (fun hw => ctX6_shadeTolerance hw )
theorem om_steam (ho : OB G h B w) : Cm l G mX6_steam 0 0 0 (.ref (gz G + B) :: []) h (fun v h1 => v = some (.int (fX6_steam w )) ∧ h1 = h) := ob_A ho kCX6_steam (Nat.le_of_ble_eq_true rfl) (fun hw => ctX6_steam hw )
theorem om_shade (ho : OB G h B w) (z1 : Int32) : Cm l G mX6_shade 1 0 0 (.ref (gz G + B) :: [.int z1]) h (fun v h1 => v = some (.int (fX6_shade w z1)) ∧ h1 = h) := ob_A ho kCX6_shade (Nat.le_of_ble_eq_true rfl) (fun hw => ctX6_shade hw z1)
theorem om_state (ho : OB G h B w) (z1 : Int32) : Cm l G mX6_state 1 0 0 (.ref (gz G + B) :: [.int z1]) h (fun v h1 => v = some (.int (fX6_state w z1)) ∧ h1 = h) := ob_A ho kCX6_state (Nat.le_of_ble_eq_true rfl) (fun hw => ctX6_state hw z1)
theorem om_boardAll (ho : OB G h B w) (z1 : Int32) : Cm l G mX6_boardAll 6 0 0 (.ref (gz G + B) :: [.int z1]) h (fun v h1 => v = some (.int (fX6_boardAll w z1).1) ∧ OB G h1 B (fX6_boardAll w z1).2 ∧ OG B w (fX6_boardAll w z1).2 h h1) := ob_B ho kCX6_boardAll (Nat.le_of_ble_eq_true rfl) (fun K hw => ctX6_boardAll hw z1)
theorem om_day (ho : OB G h B w) : Cm l G mX6_day 6 0 0 (.ref (gz G + B) :: []) h (fun v h1 => v = some (.int (fX6_day w ).1) ∧ OB G h1 B (fX6_day w ).2 ∧ OG B w (fX6_day w ).2 h h1) := ob_B ho kCX6_day (Nat.le_of_ble_eq_true rfl) (fun K hw => ctX6_day hw )
theorem om_dye (ho : OB G h B w) (z1 z2 : Int32) : Cm l G mX6_dye 6 0 0 (.ref (gz G + B) :: [.int z1, .int z2]) h (fun v h1 => v = some (.int (fX6_dye w z1 z2).1) ∧ OB G h1 B (fX6_dye w z1 z2).2 ∧ OG B w (fX6_dye w z1 z2).2 h h1) := ob_B ho kCX6_dye (Nat.le_of_ble_eq_true rfl) (fun K hw => ctX6_dye hw z1 z2)
theorem om_setTolerance (ho : OB G h B w) (z1 z2 : Int32) : Cm l G mX6_setTolerance 6 0 0 (.ref (gz G + B) :: [.int z1, .int z2]) h (fun v h1 => v = some (.int (fX6_setTolerance w z1 z2).1) ∧ OB G h1 B (fX6_setTolerance w z1 z2).2 ∧ OG B w (fX6_setTolerance w z1 z2).2 h h1) := ob_B ho kCX6_setTolerance (Nat.le_of_ble_eq_true rfl) (fun K hw => ctX6_setTolerance hw z1 z2)
theorem om_setSteam (ho : OB G h B w) (z1 : Int32) : Cm l G mX6_setSteam 6 0 0 (.ref (gz G + B) :: [.int z1]) h (fun v h1 => v = some (.int (fX6_setSteam w z1).1) ∧ OB G h1 B (fX6_setSteam w z1).2 ∧ OG B w (fX6_setSteam w z1).2 h h1) := ob_B ho kCX6_setSteam (Nat.le_of_ble_eq_true rfl) (fun K hw => ctX6_setSteam hw z1)
theorem om_undo (ho : OB G h B w) : Cm l G mX6_undo 5 0 0 (.ref (gz G + B) :: []) h (fun v h1 => v = some (.int (fX6_undo w ).1) ∧ OB G h1 B (fX6_undo w ).2 ∧ OG B w (fX6_undo w ).2 h h1) := ob_B ho kCX6_undo (Nat.le_of_ble_eq_true rfl) (fun K hw => ctX6_undo hw )
theorem om_gap (ho : OB G h B w) (z1 z2 : Int32) : Cm l G mX6_gap 2 0 0 (.ref (gz G + B) :: [.int z1, .int z2]) h (fun v h1 => v = some (.int (fX6_gap w z1 z2)) ∧ h1 = h) := ob_A ho kCX6_gap (Nat.le_of_ble_eq_true rfl) (fun hw => ctX6_gap hw z1 z2)
theorem om_pairCount (ho : OB G h B w) : Cm l G mX6_pairCount 21 0 0 (.ref (gz G + B) :: []) h (fun v h1 => v = some (.int (fX6_pairCount w ).1) ∧ OB G h1 B (fX6_pairCount w ).2 ∧ OG B w (fX6_pairCount w ).2 h h1) := ob_B ho kCX6_pairCount (Nat.le_of_ble_eq_true rfl) (fun K hw => ctX6_pairCount hw )
theorem om_pair (ho : OB G h B w) (z1 : Int32) : Cm l G mX6_pair 21 0 0 (.ref (gz G + B) :: [.int z1]) h (fun v h1 => v = some (.int (fX6_pair w z1).1) ∧ OB G h1 B (fX6_pair w z1).2 ∧ OG B w (fX6_pair w z1).2 h h1) := ob_B ho kCX6_pair (Nat.le_of_ble_eq_true rfl) (fun K hw => ctX6_pair hw z1)
theorem om_worstPair (ho : OB G h B w) : Cm l G mX6_worstPair 21 0 0 (.ref (gz G + B) :: []) h (fun v h1 => v = some (.int (fX6_worstPair w ).1) ∧ OB G h1 B (fX6_worstPair w ).2 ∧ OG B w (fX6_worstPair w ).2 h h1) := ob_B ho kCX6_worstPair (Nat.le_of_ble_eq_true rfl) (fun K hw => ctX6_worstPair hw )
theorem om_ifDays (ho : OB G h B w) (z1 : Int32) : Cm l G mX6_ifDays 19 0 0 (.ref (gz G + B) :: [.int z1]) h (fun v h1 => v = some (.int (fX6_ifDays w z1).1) ∧ OB G h1 B (fX6_ifDays w z1).2 ∧ OG B w (fX6_ifDays w z1).2 h h1) := ob_B ho kCX6_ifDays (Nat.le_of_ble_eq_true rfl) (fun K hw => ctX6_ifDays hw z1)
theorem om_bestDay (ho : OB G h B w) (z1 : Int32) : Cm l G mX6_bestDay 19 0 0 (.ref (gz G + B) :: [.int z1]) h (fun v h1 => v = some (.int (fX6_bestDay w z1).1) ∧ OB G h1 B (fX6_bestDay w z1).2 ∧ OG B w (fX6_bestDay w z1).2 h h1) := ob_B ho kCX6_bestDay (Nat.le_of_ble_eq_true rfl) (fun K hw => ctX6_bestDay hw z1)
theorem om_ifAllBoarded (ho : OB G h B w) (z1 : Int32) : Cm l G mX6_ifAllBoarded 20 0 0 (.ref (gz G + B) :: [.int z1]) h (fun v h1 => v = some (.int (fX6_ifAllBoarded w z1).1) ∧ OB G h1 B (fX6_ifAllBoarded w z1).2 ∧ OG B w (fX6_ifAllBoarded w z1).2 h h1) := ob_B ho kCX6_ifAllBoarded (Nat.le_of_ble_eq_true rfl) (fun K hw => ctX6_ifAllBoarded hw z1)
theorem om_bestShape (ho : OB G h B w) : Cm l G mX6_bestShape 20 0 0 (.ref (gz G + B) :: []) h (fun v h1 => v = some (.int (fX6_bestShape w ).1) ∧ OB G h1 B (fX6_bestShape w ).2 ∧ OG B w (fX6_bestShape w ).2 h h1) := ob_B ho kCX6_bestShape (Nat.le_of_ble_eq_true rfl) (fun K hw => ctX6_bestShape hw )
theorem om_leastSteam (ho : OB G h B w) (z1 z2 : Int32) : Cm l G mX6_leastSteam 20 0 0 (.ref (gz G + B) :: [.int z1, .int z2]) h (fun v h1 => v = some (.int (fX6_leastSteam w z1 z2).1) ∧ OB G h1 B (fX6_leastSteam w z1 z2).2 ∧ OG B w (fX6_leastSteam w z1 z2).2 h h1) := ob_B ho kCX6_leastSteam (Nat.le_of_ble_eq_true rfl) (fun K hw => ctX6_leastSteam hw z1 z2)
theorem om_leastTolerance (ho : OB G h B w) (z1 : Int32) : Cm l G mX6_leastTolerance 20 0 0 (.ref (gz G + B) :: [.int z1]) h (fun v h1 => v = some (.int (fX6_leastTolerance w z1).1) ∧ OB G h1 B (fX6_leastTolerance w z1).2 ∧ OG B w (fX6_leastTolerance w z1).2 h h1) := ob_B ho kCX6_leastTolerance (Nat.le_of_ble_eq_true rfl) (fun K hw => ctX6_leastTolerance hw z1)
theorem om_ifTolerance (ho : OB G h B w) (z1 z2 : Int32) : Cm l G mX6_ifTolerance 20 0 0 (.ref (gz G + B) :: [.int z1, .int z2]) h (fun v h1 => v = some (.int (fX6_ifTolerance w z1 z2).1) ∧ OB G h1 B (fX6_ifTolerance w z1 z2).2 ∧ OG B w (fX6_ifTolerance w z1 z2).2 h h1) := ob_B ho kCX6_ifTolerance (Nat.le_of_ble_eq_true rfl) (fun K hw => ctX6_ifTolerance hw z1 z2)
theorem om_bestDye (ho : OB G h B w) (z1 : Int32) : Cm l G mX6_bestDye 19 0 0 (.ref (gz G + B) :: [.int z1]) h (fun v h1 => v = some (.int (fX6_bestDye w z1).1) ∧ OB G h1 B (fX6_bestDye w z1).2 ∧ OG B w (fX6_bestDye w z1).2 h h1) := ob_B ho kCX6_bestDye (Nat.le_of_ble_eq_true rfl) (fun K hw => ctX6_bestDye hw z1)
end OBS
