/-! Finding a fed name. -/
section FND
variable {w w1 : Wd} {f : Nat → Int32} {ny ns nz np n : Nat}
/-- the fed bytes are packed as a name -/
theorem pk_f {L : List Nat} (hL : hz_nmL L) (h : Fg L.length (fun j => (nmW L).getD j 0) w) : fX6_packName 1200 (w.2.1 0) 0 (w.1 0) = nI (hz_e5 L) := by
  have hl : (nmW L).length = L.length := List.length_map _
  have h6 := hL.2.1
  have t : TW (nmW L) ((fun q => if q = 4 then 1 else if q = 5 then 0 else if q = 6 then nI L.length else if q = 3 then nI L.length else w.1 q, w.2) : Wd) (nmW L) [] := by
    refine ⟨⟨⟨by rw [hl]; omega, by rw [hl]; rfl, fun j hj => h.2 j (by rw [← hl]; exact hj)⟩, nmW L, (List.append_nil _).symm, by rw [hl]; rfl⟩, rfl, [], by rw [List.nil_append, List.append_nil], rfl, by rw [hl]; show nI L.length = nI (0 + L.length); rw [Nat.zero_add]⟩
  have e := pk_w hL t
  rw [h.1]
  exact e
theorem fd_2 (h : Fg 0 (fun _ => 0) w) (z : Nat) (hz : z ≤ 2) : fX6_find w (nI z) = (-4, wS w 0 0) := by
  unfold fX6_find
  rw [if_neg (nI_pos (by omega)), if_pos (show nI z ≤ 2 from nI_le (b := 2) hz (by decide)), h.1]
  rfl
theorem fnd_0 {L : List Nat} (hL : hz_nmL L) (h : Fg L.length (fun j => (nmW L).getD j 0) w) (hn : ¬ nI (hz_e5 L) = -1) : fX6_find w 0 = (fX6_indexOfName 6 ((w.2.2.1 1).2 0) ((w.2.2.1 1).1 0) (nI (hz_e5 L)), wS w 0 0) := by
  unfold fX6_find
  rw [if_neg (by decide), if_pos (by decide), pk_f hL h, if_neg hn, if_pos rfl]
theorem fnd_1 {L : List Nat} (hL : hz_nmL L) (h : Fg L.length (fun j => (nmW L).getD j 0) w) (hn : ¬ nI (hz_e5 L) = -1) : fX6_find w 1 = (fX6_indexOfName 8 ((w.2.2.1 1).2 3) ((w.2.2.1 1).1 1) (nI (hz_e5 L)), wS w 0 0) := by
  unfold fX6_find
  rw [if_neg (by decide), if_pos (by decide), pk_f hL h, if_neg hn, if_neg (by decide), if_pos rfl]
theorem fnd_2 {L : List Nat} (hL : hz_nmL L) (h : Fg L.length (fun j => (nmW L).getD j 0) w) (hn : ¬ nI (hz_e5 L) = -1) : fX6_find w 2 = (fX6_indexOfName 6 ((w.2.2.1 1).2 5) ((w.2.2.1 1).1 2) (nI (hz_e5 L)), wS w 0 0) := by
  unfold fX6_find
  rw [if_neg (by decide), if_pos (by decide), pk_f hL h, if_neg hn, if_neg (by decide), if_neg (by decide)]
theorem fnd_3 (w : Wd) : fX6_find w 3 = (-2, w) := by
  unfold fX6_find
  rw [if_neg (by decide), if_neg (by decide)]
theorem fn_0 (w : Wd) : Fg 0 (fun _ => 0) (wS w 0 0) := ⟨rfl, fun j hj => absurd hj (Nat.not_lt_zero _)⟩
theorem wi_00 (w : Wd) : hz_wi w (wS w 0 0) := ⟨fun q hq => if_neg hq, fun _ _ => rfl, rfl⟩
variable {G : GM}
/-- in the drawn plant: sa, large, ya, zz -/
theorem fd_sa (hA : AG (Ps G) (w.2.2.1 1) (1 + dw G 2 2) (1 + dw G 1 3) 2 (dw G 0 9)) (h : Fg 2 (fun j => (nmW [19, 1]).getD j 0) w) : fX6_find w 1 = (0, wS w 0 0) := by
  have n1 := dw_lt G 1 (n := 3) (by decide)
  rw [fnd_1 (L := [19, 1]) (nmL2 (by decide) (by decide)) h (by decide), hA.1.2.1]
  rw [ix_ok (k := 0) (by omega) (by decide) (by omega) ((hA.2.2.2.1 0 (by omega)).1.trans (by rfl)) (fun j hj => absurd hj (Nat.not_lt_zero _))]
  rfl
theorem fd_ya (hA : AG (Ps G) (w.2.2.1 1) (1 + dw G 2 2) (1 + dw G 1 3) 2 (dw G 0 9)) (h : Fg 2 (fun j => (nmW [25, 1]).getD j 0) w) : fX6_find w 0 = (0, wS w 0 0) := by
  have n2 := dw_lt G 2 (n := 2) (by decide)
  rw [fnd_0 (L := [25, 1]) (nmL2 (by decide) (by decide)) h (by decide), hA.1.1]
  rw [ix_ok (k := 0) (by omega) (by decide) (by omega) ((hA.2.2.1 0 (by omega)).1.trans (by rfl)) (fun j hj => absurd hj (Nat.not_lt_zero _))]
  rfl
theorem fd_large (hA : AG (Ps G) (w.2.2.1 1) (1 + dw G 2 2) (1 + dw G 1 3) 2 (dw G 0 9)) (h : Fg 5 (fun j => (nmW [12, 1, 18, 7, 5]).getD j 0) w) : fX6_find w 2 = (1, wS w 0 0) := by
  rw [fnd_2 (L := [12, 1, 18, 7, 5]) (by refine ⟨by decide, by decide, by decide⟩) h (by decide), hA.1.2.2.1]
  rw [ix_ok (k := 1) (by decide) (by decide) (by decide) ((hA.2.2.2.2.1 1 (by decide)).1.trans (by rfl)) (fun j hj => by
    rw [show j = 0 by omega, (hA.2.2.2.2.1 0 (by decide)).1]
    exact (by decide : ¬ nI 20350348 = nI (hz_e5 [12, 1, 18, 7, 5])))]
  rfl
theorem fd_zz (hA : AG (Ps G) (w.2.2.1 1) (1 + dw G 2 2) (1 + dw G 1 3) 2 (dw G 0 9)) (h : Fg 2 (fun j => (nmW [26, 26]).getD j 0) w) : fX6_find w 2 = (-1, wS w 0 0) := by
  rw [fnd_2 (L := [26, 26]) (nmL2 (by decide) (by decide)) h (by decide), hA.1.2.2.1]
  rw [ix_no (by decide) (by decide) (fun j hj => by
    rw [(hA.2.2.2.2.1 j hj).1]
    have hj : j = 0 ∨ j = 1 := by omega
    rcases hj with rfl | rfl
    · exact (by decide : ¬ nI 20350348 = nI (hz_e5 [26, 26]))
    · exact (by decide : ¬ nI 12634341 = nI (hz_e5 [26, 26])))]
end FND
