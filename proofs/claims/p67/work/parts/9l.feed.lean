/-! Feeding bytes: four in a number, five numbers at once. -/
def sh8 (v c : Int32) : Int32 := (v <<< ((8 : Int32) &&& 31)) ||| c
def q4 (a b c d : Int32) : Int32 := sh8 (sh8 (sh8 (sh8 0 a) b) c) d
/-- a byte -/
def isY (c : Int32) : Prop := ∀ i, 8 ≤ i → bt c i = false
theorem isY_n {k : Nat} (h : k < 256) : isY (nI k) := by
  intro i hi
  by_cases h32 : i < 32
  · rw [hz_btN _ _ h32]
    exact Nat.testBit_lt_two_pow (Nat.lt_of_lt_of_le h (show 2 ^ 8 ≤ 2 ^ i from Nat.pow_le_pow_right (by decide) hi))
  · exact b_big (by omega)
theorem b_sh (v c : Int32) {i : Nat} (hi : i < 32) : bt (sh8 v c) i = ((decide (8 ≤ i) && bt v (i - 8)) || bt c i) := by
  unfold sh8
  rw [b_or, b_shl8 _ hi]
theorem b_us (n : Nat) (hn : n < 32) (x : Int32) (i : Nat) : bt (iushr x (nI n)) i = bt x (n + i) := b_ushr n hn x i
theorem b_hi {v c : Int32} (hc : isY c) {i : Nat} (hi : i < 32) (h8 : 8 ≤ i) : bt (sh8 v c) i = bt v (i - 8) := by
  rw [b_sh _ _ hi, decide_eq_true h8, hc i h8, Bool.true_and, Bool.or_false]
theorem b_lo {v c : Int32} {i : Nat} (h8 : i < 8) : bt (sh8 v c) i = bt c i := by
  rw [b_sh _ _ (by omega), decide_eq_false (by omega), Bool.false_and, Bool.false_or]
section Q4
variable {a b c d : Int32}
theorem q_end {x e : Int32} (he : isY e) (h : ∀ i, i < 8 → bt x i = bt e i) : x &&& 255 = e := by
  refine b_ext (fun i _ => ?_)
  rw [b_and, b_255]
  by_cases h8 : i < 8
  · rw [decide_eq_true h8, Bool.and_true, h i h8]
  · rw [decide_eq_false h8, Bool.and_false, he i (by omega)]
theorem q_24 (ha : isY a) (hb : isY b) (hc : isY c) (hd : isY d) : iushr (q4 a b c d) 24 &&& 255 = a := by
  refine q_end ha (fun i hi => ?_)
  rw [show (24 : Int32) = nI 24 from rfl, b_us 24 (by decide)]
  unfold q4
  rw [b_hi hd (by omega) (by omega), b_hi hc (by omega) (by omega), b_hi hb (by omega) (by omega), b_lo (by omega)]
  congr 1; omega
theorem q_16 (hb : isY b) (hc : isY c) (hd : isY d) : iushr (q4 a b c d) 16 &&& 255 = b := by
  refine q_end hb (fun i hi => ?_)
  rw [show (16 : Int32) = nI 16 from rfl, b_us 16 (by decide)]
  unfold q4
  rw [b_hi hd (by omega) (by omega), b_hi hc (by omega) (by omega), b_lo (by omega)]
  congr 1; omega
theorem q_8 (hc : isY c) (hd : isY d) : iushr (q4 a b c d) 8 &&& 255 = c := by
  refine q_end hc (fun i hi => ?_)
  rw [show (8 : Int32) = nI 8 from rfl, b_us 8 (by decide)]
  unfold q4
  rw [b_hi hd (by omega) (by omega), b_lo (by omega)]
  congr 1; omega
theorem q_0 (hd : isY d) : iushr (q4 a b c d) 0 &&& 255 = d := by
  refine q_end hd (fun i hi => ?_)
  rw [show (0 : Int32) = nI 0 from rfl, b_us 0 (by decide)]
  unfold q4
  rw [b_lo (by omega)]
  congr 1; omega
end Q4
/-- the first L bytes of the input are g's -/
def Fg (L : Nat) (g : Nat → Int32) (w : Wd) : Prop := w.1 0 = nI L ∧ ∀ j, j < L → w.2.1 0 j = g j
def pby (w : Wd) (c : Int32) : Wd := wS (wA w 0 (fX6_put 1200 (w.2.1 0) (w.1 0) c)) 0 ((w.1 0) + 1)
section FD
variable {w w1 : Wd} {g : Nat → Int32} {L n : Nat}
theorem wi_T {a b c : Wd} (h : hz_wi a b) (k : hz_wi b c) : hz_wi a c := ⟨fun q hq => (k.1 q hq).trans (h.1 q hq), fun q hq => (k.2.1 q hq).trans (h.2.1 q hq), k.2.2.trans h.2.2⟩
theorem wi_0 (w : Wd) : hz_wi w w := ⟨fun _ _ => rfl, fun _ _ => rfl, rfl⟩
theorem pb_ok (h : Fg L g w) (hL : L < 1200) {c : Int32} (hc : c = g L) : Fg (L + 1) g (pby w c) ∧ hz_wi w (pby w c) := by
  obtain ⟨h1, h2⟩ := h
  unfold pby
  rw [h1, put_nI _ _ hL (by decide)]
  refine ⟨⟨(nI_succ L).symm, fun j hj => ?_⟩, fun q hq => if_neg hq, fun q hq => if_neg hq, rfl⟩
  show (if (0 : Nat) = 0 then upd (w.2.1 0) L c else w.2.1 0) j = _
  rw [if_pos rfl]
  unfold upd
  by_cases e : j = L
  · rw [if_pos e, hc, e]
  · rw [if_neg e]; exact h2 j (by omega)
theorem ab_e (w : Wd) (z : Int32) : fX6_appendBytes w z = pby (pby (pby (pby w (iushr z 24 &&& 255)) (iushr z 16 &&& 255)) (iushr z 8 &&& 255)) (iushr z 0 &&& 255) := by
  unfold fX6_appendBytes
  obtain ⟨k, hk⟩ : ∃ k, fuD 24 = k + 5 := ⟨21, rfl⟩
  rw [hk]
  simp only [fX6_appendBytes_3, bnd]
  rw [if_neg (show ¬ (24 : Int32) < 0 by decide), if_neg (show ¬ (24 : Int32) + (-8) < 0 by decide), if_neg (show ¬ (24 : Int32) + (-8) + (-8) < 0 by decide), if_neg (show ¬ (24 : Int32) + (-8) + (-8) + (-8) < 0 by decide), if_pos (show (24 : Int32) + (-8) + (-8) + (-8) + (-8) < 0 by decide)]
  rfl
theorem ab_ok (h : Fg L g w) (hL : L + 4 ≤ 1200) (hg : ∀ j, isY (g j)) : Fg (L + 4) g (fX6_appendBytes w (q4 (g L) (g (L + 1)) (g (L + 2)) (g (L + 3)))) ∧ hz_wi w (fX6_appendBytes w (q4 (g L) (g (L + 1)) (g (L + 2)) (g (L + 3)))) := by
  rw [ab_e, q_24 (hg _) (hg _) (hg _) (hg _), q_16 (hg _) (hg _) (hg _), q_8 (hg _) (hg _), q_0 (hg _)]
  obtain ⟨a1, a2⟩ := pb_ok h (by omega) rfl
  obtain ⟨b1, b2⟩ := pb_ok a1 (by omega) rfl
  obtain ⟨c1, c2⟩ := pb_ok b1 (by omega) rfl
  obtain ⟨d1, d2⟩ := pb_ok c1 (by omega) rfl
  exact ⟨d1, wi_T (wi_T (wi_T a2 b2) c2) d2⟩
def qg (g : Nat → Int32) (k : Nat) : Int32 := q4 (g k) (g (k + 1)) (g (k + 2)) (g (k + 3))
theorem ab_x (h : Fg L g w) (hL : L + 4 ≤ 1200) (hg : ∀ j, isY (g j)) : ∃ w1, fX6_appendBytes w (qg g L) = w1 ∧ Fg (L + 4) g w1 ∧ hz_wi w w1 := ⟨_, rfl, ab_ok h hL hg⟩
/-- append -/
theorem o_ap (h : Fg L g w) (hL : L + 20 ≤ 1200) (hg : ∀ j, isY (g j)) : ∃ w1, fX6_append w (qg g L) (qg g (L + 4)) (qg g (L + 8)) (qg g (L + 12)) (qg g (L + 16)) = (nI (L + 20), w1) ∧ Fg (L + 20) g w1 ∧ hz_wi w w1 := by
  obtain ⟨a, ea, a1, a2⟩ := ab_x h (by omega) hg
  obtain ⟨b, eb, b1, b2⟩ := ab_x a1 (by omega) hg
  obtain ⟨c, ec, c1, c2⟩ := ab_x b1 (by omega) hg
  obtain ⟨d, ed, d1, d2⟩ := ab_x c1 (by omega) hg
  obtain ⟨e, ee, e1, e2⟩ := ab_x d1 (by omega) hg
  refine ⟨e, ?_, e1, wi_T (wi_T (wi_T (wi_T a2 b2) c2) d2) e2⟩
  unfold fX6_append
  simp only [bnd]
  rw [show L + 4 + 4 = L + 8 from rfl] at ec
  rw [show L + 4 + 4 + 4 = L + 12 from rfl] at ed
  rw [show L + 4 + 4 + 4 + 4 = L + 16 from rfl] at ee
  rw [if_pos (show (w.1 0) + 20 ≤ 1200 by rw [h.1, show (20 : Int32) = nI 20 from rfl, nI_add, show (1200 : Int32) = nI 1200 from rfl, nI_leI (by omega) (by omega)]; omega), ea, eb, ec, ed, ee, e1.1]
/-- truncate -/
theorem o_tr (h : Fg L g w) (hL : L ≤ 1200) (hn : n ≤ L) : ∃ w1, fX6_truncate w (nI n) = (nI n, w1) ∧ Fg n g w1 ∧ hz_wi w w1 := by
  unfold fX6_truncate
  rw [if_neg (nI_pos (by omega)), h.1, if_pos (nI_le hn (by omega))]
  exact ⟨_, rfl, ⟨rfl, fun j hj => h.2 j (by omega)⟩, fun q hq => if_neg hq, fun q hq => rfl, rfl⟩
theorem ci_wi {f : Nat → Int32} {ny ns nz np : Nat} (h : CI n w f ny ns nz np) (k : hz_wi w w1) {L1 : Nat} (h1 : L1 ≤ 1200) (h0 : w1.1 0 = nI L1) : CI n w1 f ny ns nz np := by
  obtain ⟨a, ⟨r, b1, b2⟩, c, ⟨cnt, old, d1, d2, d3, d4, d5⟩, -⟩ := h
  obtain ⟨k1, k2, k3⟩ := k
  refine ⟨by rw [k3]; exact a, ⟨r, b1, by unfold hz_mo at b2 ⊢; rw [k3]; exact b2⟩, ?_, ⟨cnt, old, d1, d2, (k1 11 (by decide)).trans d3, (k1 12 (by decide)).trans d4, fun i hi => by rw [k3]; exact d5 i hi⟩, L1, h1, h0⟩
  rcases c with c | ⟨c1, c2, c3, c4⟩
  · exact Or.inl ((k1 13 (by decide)).trans c)
  · refine Or.inr ⟨by rw [k1 13 (by decide)]; exact c1, ?_⟩
    rw [k3]
    exact ⟨fun j hj => by rw [k2 3 (by decide)]; exact c2 j hj, by rw [k1 14 (by decide)]; exact c3, by rw [k1 15 (by decide)]; exact c4⟩
end FD
