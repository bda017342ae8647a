/-! Reading: numbers; the next token. -/
def hz_nv (a b : Int32) : Prop := (∃ v, v < 99999 ∧ a = nI v ∧ b = nI v) ∨ (99999 ≤ a.toInt ∧ a.toInt ≤ 100000 ∧ b = nI 99999)
theorem hz_lin {a : Int32} {c : Nat} (h1 : 0 ≤ a.toInt) (h2 : a.toInt ≤ 100000) (hc : c < 256) : ((a * 10 + nI c) - 48).toInt = a.toInt * 10 + c - 48 := by
  have t1 : (a * 10).toInt = a.toInt * 10 := by
    rw [hz_mul (by rw [show (10 : Int32).toInt = 10 from rfl]; omega) (by rw [show (10 : Int32).toInt = 10 from rfl]; omega), show (10 : Int32).toInt = 10 from rfl]
  have t2 : (a * 10 + nI c).toInt = a.toInt * 10 + c := by
    rw [i32_add (by rw [t1, nI_toInt (by omega)]; omega) (by rw [t1, nI_toInt (by omega)]; omega), t1, nI_toInt (by omega)]
  rw [hz_sub (by rw [t2, show (48 : Int32).toInt = 48 from rfl]; omega) (by rw [t2, show (48 : Int32).toInt = 48 from rfl]; omega), t2, show (48 : Int32).toInt = 48 from rfl]
theorem hz_nvS {a b : Int32} {c : Nat} (h : hz_nv a b) (h1 : 48 ≤ c) (h2 : c ≤ 57) : hz_nv (imn ((a * 10 + nI c) - 48) 100000) (imn 99999 (((10 : Int32) * b + nI c) - 48)) := by
  rw [Int32.mul_comm 10 b]
  have i5 : (100000 : Int32).toInt = 100000 := rfl
  have i9 : (99999 : Int32).toInt = 99999 := rfl
  unfold imn
  rcases h with ⟨v, hv, rfl, rfl⟩ | ⟨g1, g2, rfl⟩
  · have t := hz_lin (a := nI v) (c := c) (by rw [nI_toInt (by omega)]; omega) (by rw [nI_toInt (by omega)]; omega) (by omega)
    rw [nI_toInt (by omega)] at t
    by_cases k : 10 * v + c - 48 < 99999
    · have e : (nI v * 10 + nI c) - 48 = nI (10 * v + c - 48) := by
        rw [hz_inj, t, nI_toInt (by omega)]; omega
      rw [e, if_neg (show ¬ (100000 : Int32) < nI (10 * v + c - 48) by rw [hz_lt, i5, nI_toInt (by omega)]; omega), if_pos (show nI (10 * v + c - 48) < (99999 : Int32) by rw [hz_lt, i9, nI_toInt (by omega)]; omega)]
      exact Or.inl ⟨_, k, rfl, rfl⟩
    · right
      rw [if_neg (show ¬ (nI v * 10 + nI c) - 48 < 99999 by rw [hz_lt, i9, t]; omega)]
      by_cases k2 : (100000 : Int32) < (nI v * 10 + nI c) - 48
      · rw [if_pos k2, i5]; exact ⟨by omega, by omega, rfl⟩
      · rw [if_neg k2, t]
        rw [hz_lt, i5, t] at k2
        exact ⟨by omega, by omega, rfl⟩
  · have t := hz_lin (a := a) (c := c) (by omega) (by omega) (by omega)
    have t2 := hz_lin (a := nI 99999) (c := c) (by rw [nI_toInt (by omega)]; omega) (by rw [nI_toInt (by omega)]; omega) (by omega)
    rw [nI_toInt (by omega)] at t2
    right
    rw [if_neg (show ¬ (nI 99999 * 10 + nI c) - 48 < 99999 by rw [hz_lt, i9, t2]; omega), if_pos (show (100000 : Int32) < (a * 10 + nI c) - 48 by rw [hz_lt, i5, t]; omega), i5]
    exact ⟨by omega, by omega, rfl⟩
def hz_w67 (w w1 : Wd) (e : Nat) : Prop := w1.1 6 = nI e ∧ (∀ k, ¬ k = 6 → ¬ k = 7 → w1.1 k = w.1 k) ∧ w1.2 = w.2
def hz_m58 (m m1 : Md) (e : Nat) : Prop := m1.1 5 = nI e ∧ (∀ k, ¬ k = 5 → ¬ k = 8 → m1.1 k = m.1 k) ∧ m1.2 = m.2
theorem hz_w67T {w w1 : Wd} {e : Nat} {x y : Int32} (h : hz_w67 (wS (wS w 7 y) 6 x) w1 e) : hz_w67 w w1 e := ⟨h.1, fun k hk hl => (h.2.1 k hk hl).trans ((if_neg hk).trans (if_neg hl)), h.2.2⟩
theorem hz_m58T {m m1 : Md} {e : Nat} {x y : Int32} (h : hz_m58 (mS (mS m 8 y) 5 x) m1 e) : hz_m58 m m1 e := ⟨h.1, fun k hk hl => (h.2.1 k hk hl).trans ((if_neg hk).trans (if_neg hl)), h.2.2⟩
section HZZ
variable {L : Nat} {g : Nat → Nat} {w : Wd} {m : Md}
theorem hl_di : ∀ (n q fu fv : Nat) (w : Wd) (m : Md), q + n = L → n < fu → n < fv → hz_tx L g w m → w.1 6 = nI q → m.1 5 = nI q → hz_nv (w.1 7) (m.1 8) → sX7_advance_144 fv m ∧ ∃ e, q ≤ e ∧ e ≤ L ∧ (e < L → ¬ (48 ≤ g e ∧ g e ≤ 57)) ∧ hz_w67 w (fX4_advance_158 fu w) e ∧ hz_m58 m (fX7_advance_144 fv m) e ∧ hz_nv ((fX4_advance_158 fu w).1 7) ((fX7_advance_144 fv m).1 8) := by
  intro n
  induction n with
  | zero =>
    intro q fu fv w m hq hf hg h hw hm hv
    obtain ⟨fu, rfl⟩ : ∃ k, fu = k + 1 := ⟨fu - 1, by omega⟩
    obtain ⟨fv, rfl⟩ : ∃ k, fv = k + 1 := ⟨fv - 1, by omega⟩
    obtain ⟨b1, b2⟩ := hz_bA h (q := q) (by omega)
    have hL := h.1
    rw [if_neg (by omega)] at b2
    have c : w.1 3 ≤ w.1 6 := by rw [h.2.1, hw, hz_le, nI_toInt (by omega), nI_toInt (by omega)]; omega
    have e1 : fX4_advance_158 (fu + 1) w = w := if_pos c
    have e2 : fX7_advance_144 (fv + 1) m = (if (fX7_in ((fX7_byteAt m (m.1 5)).toInt64) 48 57) = 0 then m else (fX7_advance_144 fv (mS (mS m 8 (imn 99999 ((((10 : Int32) * (m.1 8)) + (fX7_byteAt m (m.1 5))) - 48))) 5 ((m.1 5) + 1)))) := rfl
    have e3 : sX7_advance_144 (fv + 1) m = ((sX7_byteAt m (m.1 5)) ∧ (((fX7_in ((fX7_byteAt m (m.1 5)).toInt64) 48 57) = 0 → True) ∧ (¬ (fX7_in ((fX7_byteAt m (m.1 5)).toInt64) 48 57) = 0 → ((sX7_byteAt m (m.1 5)) ∧ (sX7_advance_144 fv (mS (mS m 8 (imn 99999 ((((10 : Int32) * (m.1 8)) + (fX7_byteAt m (m.1 5))) - 48))) 5 ((m.1 5) + 1))))))) := rfl
    have ei : fX7_in ((-1 : Int32).toInt64) 48 57 = 0 := by decide
    rw [hm, b2, ei, if_pos rfl] at e2
    rw [hm, b2, ei] at e3
    rw [e1, e2, e3]
    exact ⟨⟨b1, fun _ => trivial, fun h => absurd rfl h⟩, q, by omega, by omega, fun h => by omega, ⟨hw, fun _ _ _ => rfl, rfl⟩, ⟨hm, fun _ _ _ => rfl, rfl⟩, hv⟩
  | succ n ih =>
    intro q fu fv w m hq hf hg h hw hm hv
    obtain ⟨fu, rfl⟩ : ∃ k, fu = k + 1 := ⟨fu - 1, by omega⟩
    obtain ⟨fv, rfl⟩ : ∃ k, fv = k + 1 := ⟨fv - 1, by omega⟩
    obtain ⟨b1, b2⟩ := hz_bA h (q := q) (by omega)
    have hL := h.1
    have hb := (h.2.2.2 q (by omega)).1
    rw [if_pos (by omega)] at b2
    have c : ¬ w.1 3 ≤ w.1 6 := by rw [h.2.1, hw, hz_le, nI_toInt (by omega), nI_toInt (by omega)]; omega
    have ei : fX7_in ((nI (g q)).toInt64) 48 57 = fX6_isBetween (nI (g q)) 48 57 := hz_in (nI (g q)) 48 57
    have e1 : fX4_advance_158 (fu + 1) w = (if (w.1 3) ≤ (w.1 6) then w else (if (fX4_isDigit (fX6_at 1200 (w.2.1 0) (w.1 6))) = 0 then w else (fX4_advance_158 fu (wS (wS w 7 (imn ((((w.1 7) * 10) + (fX6_at 1200 (w.2.1 0) (w.1 6))) - 48) 100000)) 6 ((w.1 6) + 1))))) := rfl
    have e2 : fX7_advance_144 (fv + 1) m = (if (fX7_in ((fX7_byteAt m (m.1 5)).toInt64) 48 57) = 0 then m else (fX7_advance_144 fv (mS (mS m 8 (imn 99999 ((((10 : Int32) * (m.1 8)) + (fX7_byteAt m (m.1 5))) - 48))) 5 ((m.1 5) + 1)))) := rfl
    have e3 : sX7_advance_144 (fv + 1) m = ((sX7_byteAt m (m.1 5)) ∧ (((fX7_in ((fX7_byteAt m (m.1 5)).toInt64) 48 57) = 0 → True) ∧ (¬ (fX7_in ((fX7_byteAt m (m.1 5)).toInt64) 48 57) = 0 → ((sX7_byteAt m (m.1 5)) ∧ (sX7_advance_144 fv (mS (mS m 8 (imn 99999 ((((10 : Int32) * (m.1 8)) + (fX7_byteAt m (m.1 5))) - 48))) 5 ((m.1 5) + 1))))))) := rfl
    rw [if_neg c, hw, hz_cA h (by omega), hz_dig _ hb, ← nI_succ] at e1
    rw [hm, b2, ei, hz_digM _ hb, ← nI_succ] at e2 e3
    by_cases c1 : 48 ≤ g q ∧ g q ≤ 57
    · obtain ⟨i1, e, i2, i3, i7, i4, i5, i6⟩ := ih (q + 1) fu fv (wS (wS w 7 (imn ((((w.1 7) * 10) + nI (g q)) - 48) 100000)) 6 (nI (q + 1))) (mS (mS m 8 (imn 99999 ((((10 : Int32) * (m.1 8)) + nI (g q)) - 48))) 5 (nI (q + 1))) (by omega) (by omega) (by omega) (hz_txS h rfl rfl rfl rfl) rfl rfl (hz_nvS hv c1.1 c1.2)
      rw [if_pos c1, if_neg (show ¬ (1 : Int32) = 0 by decide)] at e1 e2
      rw [if_pos c1] at e3
      rw [e1, e2, e3]
      exact ⟨⟨b1, fun h => absurd h (by decide), fun _ => ⟨b1, i1⟩⟩, e, by omega, i3, i7, hz_w67T i4, hz_m58T i5, i6⟩
    · rw [if_neg c1, if_pos rfl] at e1 e2
      rw [if_neg c1] at e3
      rw [e1, e2, e3]
      exact ⟨⟨b1, fun _ => trivial, fun h => absurd rfl h⟩, q, by omega, by omega, fun _ => c1, ⟨hw, fun _ _ _ => rfl, rfl⟩, ⟨hm, fun _ _ _ => rfl, rfl⟩, hv⟩
def hz_fw (w w1 : Wd) : Prop := (∀ k, ¬ k = 4 → ¬ k = 5 → ¬ k = 6 → ¬ k = 7 → w1.1 k = w.1 k) ∧ w1.2 = w.2
def hz_fm (m m1 : Md) : Prop := (∀ k, ¬ k = 5 → ¬ k = 6 → ¬ k = 7 → ¬ k = 8 → m1.1 k = m.1 k) ∧ m1.2 = m.2
def hz_tok (L : Nat) (g : Nat → Nat) (w : Wd) (m : Md) (s q k : Nat) : Prop := w.1 5 = nI s ∧ m.1 6 = nI s ∧ w.1 6 = nI q ∧ m.1 5 = nI q ∧ w.1 4 = nI k ∧ m.1 7 = nI k ∧ s ≤ q ∧ q ≤ L ∧ ((k = 0 ∧ s = L) ∨ (k = 1 ∧ s < q ∧ hz_al g s (q - s)) ∨ (k = 2 ∧ s < q ∧ hz_nv (w.1 7) (m.1 8)) ∨ (k = 3 ∧ q = s + 1 ∧ m.1 8 = nI (g s)))
theorem hz_adv4 (w : Wd) (X : Wd) (hX : fX4_advance_0 (fuU 2147483647 (w.1 6)) w = X) : fX4_advance w = (if (X.1 6) < (X.1 3) then (if (fX6_isLetter (fX6_at 1200 (X.2.1 0) (X.1 6))) = 0 then (if (fX4_isDigit (fX6_at 1200 (X.2.1 0) (X.1 6))) = 0 then (wS (wS (wS (wS X 5 (X.1 6)) 7 0) 4 3) 6 ((X.1 6) + 1)) else (fX4_advance_158 (fuU 2147483647 (X.1 6)) (wS (wS (wS X 5 (X.1 6)) 7 0) 4 2))) else (fX4_advance_95 (fuU 2147483647 (X.1 6)) (wS (wS (wS X 5 (X.1 6)) 7 0) 4 1))) else (wS (wS (wS X 5 (X.1 6)) 7 0) 4 0)) := by
  subst hX; rfl
theorem hz_adv7 (m : Md) (F : Nat) (hF : 1300 = F) (X : Md) (hX : fX7_advance_0 F m = X) : fX7_advance m = (if (fX7_byteAt (mS X 6 (X.1 5)) (X.1 5)) = (-1) then (mS (mS X 6 (X.1 5)) 7 0) else (if (fX7_in ((fX7_byteAt (mS X 6 (X.1 5)) (X.1 5)).toInt64) 97 122) = 0 then (if (fX7_in ((fX7_byteAt (mS X 6 (X.1 5)) (X.1 5)).toInt64) 48 57) = 0 then (mS (mS (mS (mS X 6 (X.1 5)) 7 3) 8 (fX7_byteAt (mS X 6 (X.1 5)) (X.1 5))) 5 ((X.1 5) + 1)) else (mS (fX7_advance_144 F (mS (mS X 6 (X.1 5)) 8 0)) 7 2)) else (mS (fX7_advance_83 F (mS X 6 (X.1 5))) 7 1))) := by
  subst hF; subst hX; rfl
theorem hz_adv7s (m : Md) (F : Nat) (hF : 1300 = F) (X : Md) (hX : fX7_advance_0 F m = X) (h0 : sX7_advance_0 F m) (h1 : sX7_byteAt (mS X 6 (X.1 5)) (X.1 5)) (h2 : ¬ (fX7_byteAt (mS X 6 (X.1 5)) (X.1 5)) = (-1) → (fX7_in ((fX7_byteAt (mS X 6 (X.1 5)) (X.1 5)).toInt64) 97 122) = 0 → ¬ (fX7_in ((fX7_byteAt (mS X 6 (X.1 5)) (X.1 5)).toInt64) 48 57) = 0 → sX7_advance_144 F (mS (mS X 6 (X.1 5)) 8 0)) (h3 : ¬ (fX7_byteAt (mS X 6 (X.1 5)) (X.1 5)) = (-1) → ¬ (fX7_in ((fX7_byteAt (mS X 6 (X.1 5)) (X.1 5)).toInt64) 97 122) = 0 → sX7_advance_83 F (mS X 6 (X.1 5))) : sX7_advance m := by
  subst hF; subst hX
  exact ⟨h0, h1, fun _ => trivial, fun a => ⟨fun b => ⟨fun _ => trivial, fun c => ⟨h2 a b c, trivial⟩⟩, fun b => ⟨h3 a b, trivial⟩⟩⟩
theorem hz_fuB {q : Nat} (hq : q ≤ 1200) : 1201 < fuU 2147483647 (nI q) := by
  unfold fuU
  rw [show (2147483647 : Int32).toInt = 2147483647 from rfl, nI_toInt (by omega)]
  omega
end HZZ
