/-! Reading: words that are not names; a name. -/
theorem hz_c8 {C : List Int32} (h1 : C.length ≤ 12) (h2 : C.all (fun x => decide (0 ≤ x) && decide (x < 128)) = true) : hz_ch8 C := by
  refine ⟨h1, fun i hi => ?_⟩
  have h3 := List.all_eq_true.1 h2 (C[i]) (List.getElem_mem hi)
  have h4 : C.getD i 0 = C[i] := by simp [List.getD, hi]
  rw [h4]
  rw [Bool.and_eq_true, decide_eq_true_eq, decide_eq_true_eq, hz_le, hz_lt, show (0 : Int32).toInt = 0 from rfl, show (128 : Int32).toInt = 128 from rfl] at h3
  obtain ⟨n, -, n2, n3⟩ := hz_rgN (a := 0) (b := 127) (x := C[i]) ⟨by omega, by omega⟩ (by omega)
  exact ⟨n, by omega, n3⟩
section HZZ
variable {L : Nat} {g : Nat → Nat} {w : Wd} {m : Md} {s q k : Nat}
theorem hz_wr0 (h : hz_tx L g w m) (ho : hz_prs L g w m s q k) : sX7_isText m mq21 ∧ fX7_isText m mq21 = fX4_spells w sq0 ∧ (fX4_spells w sq0 = 0 ∨ fX4_spells w sq0 = 1) := hz_it h ho sq0 mq21 (C := sq0.2.2.2) rfl rfl (hz_c8 (by decide) (by decide))
theorem hz_wr1 (h : hz_tx L g w m) (ho : hz_prs L g w m s q k) : sX7_isText m mq22 ∧ fX7_isText m mq22 = fX4_spells w sq1 ∧ (fX4_spells w sq1 = 0 ∨ fX4_spells w sq1 = 1) := hz_it h ho sq1 mq22 (C := sq1.2.2.2) rfl rfl (hz_c8 (by decide) (by decide))
theorem hz_wr2 (h : hz_tx L g w m) (ho : hz_prs L g w m s q k) : sX7_isText m mq23 ∧ fX7_isText m mq23 = fX4_spells w sq2 ∧ (fX4_spells w sq2 = 0 ∨ fX4_spells w sq2 = 1) := hz_it h ho sq2 mq23 (C := sq2.2.2.2) rfl rfl (hz_c8 (by decide) (by decide))
theorem hz_wr3 (h : hz_tx L g w m) (ho : hz_prs L g w m s q k) : sX7_isText m mq24 ∧ fX7_isText m mq24 = fX4_spells w sq3 ∧ (fX4_spells w sq3 = 0 ∨ fX4_spells w sq3 = 1) := hz_it h ho sq3 mq24 (C := sq3.2.2.2) rfl rfl (hz_c8 (by decide) (by decide))
theorem hz_wr4 (h : hz_tx L g w m) (ho : hz_prs L g w m s q k) : sX7_isText m mq25 ∧ fX7_isText m mq25 = fX4_spells w sq4 ∧ (fX4_spells w sq4 = 0 ∨ fX4_spells w sq4 = 1) := hz_it h ho sq4 mq25 (C := sq4.2.2.2) rfl rfl (hz_c8 (by decide) (by decide))
theorem hz_wr5 (h : hz_tx L g w m) (ho : hz_prs L g w m s q k) : sX7_isText m mq26 ∧ fX7_isText m mq26 = fX4_spells w sq5 ∧ (fX4_spells w sq5 = 0 ∨ fX4_spells w sq5 = 1) := hz_it h ho sq5 mq26 (C := sq5.2.2.2) rfl rfl (hz_c8 (by decide) (by decide))
theorem hz_wr6 (h : hz_tx L g w m) (ho : hz_prs L g w m s q k) : sX7_isText m mq27 ∧ fX7_isText m mq27 = fX4_spells w sq6 ∧ (fX4_spells w sq6 = 0 ∨ fX4_spells w sq6 = 1) := hz_it h ho sq6 mq27 (C := sq6.2.2.2) rfl rfl (hz_c8 (by decide) (by decide))
theorem hz_wr7 (h : hz_tx L g w m) (ho : hz_prs L g w m s q k) : sX7_isText m mq28 ∧ fX7_isText m mq28 = fX4_spells w sq7 ∧ (fX4_spells w sq7 = 0 ∨ fX4_spells w sq7 = 1) := hz_it h ho sq7 mq28 (C := sq7.2.2.2) rfl rfl (hz_c8 (by decide) (by decide))
theorem hz_wr8 (h : hz_tx L g w m) (ho : hz_prs L g w m s q k) : sX7_isText m mq29 ∧ fX7_isText m mq29 = fX4_spells w sq8 ∧ (fX4_spells w sq8 = 0 ∨ fX4_spells w sq8 = 1) := hz_it h ho sq8 mq29 (C := sq8.2.2.2) rfl rfl (hz_c8 (by decide) (by decide))
theorem hz_wr9 (h : hz_tx L g w m) (ho : hz_prs L g w m s q k) : sX7_isText m mq30 ∧ fX7_isText m mq30 = fX4_spells w sq9 ∧ (fX4_spells w sq9 = 0 ∨ fX4_spells w sq9 = 1) := hz_it h ho sq9 mq30 (C := sq9.2.2.2) rfl rfl (hz_c8 (by decide) (by decide))
theorem hz_wr10 (h : hz_tx L g w m) (ho : hz_prs L g w m s q k) : sX7_isText m mq31 ∧ fX7_isText m mq31 = fX4_spells w sq10 ∧ (fX4_spells w sq10 = 0 ∨ fX4_spells w sq10 = 1) := hz_it h ho sq10 mq31 (C := sq10.2.2.2) rfl rfl (hz_c8 (by decide) (by decide))
theorem hz_kw (h : hz_tx L g w m) (ho : hz_prs L g w m s q k) : sX7_kindHere m ∧ sX7_isKeyword m ∧ fX7_isKeyword m = fX4_isKeyword w := by
  obtain ⟨s0, e0, -⟩ := hz_wr0 h ho
  obtain ⟨s1, e1, -⟩ := hz_wr1 h ho
  obtain ⟨s2, e2, -⟩ := hz_wr2 h ho
  obtain ⟨s3, e3, -⟩ := hz_wr3 h ho
  obtain ⟨s4, e4, -⟩ := hz_wr4 h ho
  obtain ⟨s5, e5, -⟩ := hz_wr5 h ho
  obtain ⟨s6, e6, -⟩ := hz_wr6 h ho
  obtain ⟨s7, e7, -⟩ := hz_wr7 h ho
  obtain ⟨s8, e8, -⟩ := hz_wr8 h ho
  obtain ⟨s9, e9, -⟩ := hz_wr9 h ho
  obtain ⟨s10, e10, -⟩ := hz_wr10 h ho
  have sk : sX7_kindHere m := ⟨s7, fun _ => ⟨s8, fun _ => ⟨s9, fun _ => trivial, fun _ => trivial⟩, fun _ => trivial⟩, fun _ => trivial⟩
  refine ⟨sk, ⟨s0, fun _ => ⟨s1, fun _ => ⟨s2, fun _ => ⟨s3, fun _ => ⟨s4, fun _ => ⟨s5, fun _ => ⟨s6, fun _ => ⟨sk, fun _ => ⟨s10, fun _ => trivial, fun _ => trivial⟩, fun _ => trivial⟩, fun _ => trivial⟩, fun _ => trivial⟩, fun _ => trivial⟩, fun _ => trivial⟩, fun _ => trivial⟩, fun _ => trivial⟩, fun _ => trivial⟩, ?_⟩
  unfold fX7_isKeyword fX4_isKeyword fX7_kindHere
  rw [e0]
  generalize fX4_spells w sq0 = v0
  rw [e1]
  generalize fX4_spells w sq1 = v1
  rw [e2]
  generalize fX4_spells w sq2 = v2
  rw [e3]
  generalize fX4_spells w sq3 = v3
  rw [e4]
  generalize fX4_spells w sq4 = v4
  rw [e5]
  generalize fX4_spells w sq5 = v5
  rw [e6]
  generalize fX4_spells w sq6 = v6
  rw [e7]
  generalize fX4_spells w sq7 = v7
  rw [e8]
  generalize fX4_spells w sq8 = v8
  rw [e9]
  generalize fX4_spells w sq9 = v9
  rw [e10]
  generalize fX4_spells w sq10 = v10
  by_cases c0 : v0 = 0
  case neg => rw [if_neg c0, if_neg c0]
  rw [if_pos c0, if_pos c0]
  by_cases c1 : v1 = 0
  case neg => rw [if_neg c1, if_neg c1]
  rw [if_pos c1, if_pos c1]
  by_cases c2 : v2 = 0
  case neg => rw [if_neg c2, if_neg c2]
  rw [if_pos c2, if_pos c2]
  by_cases c3 : v3 = 0
  case neg => rw [if_neg c3, if_neg c3]
  rw [if_pos c3, if_pos c3]
  by_cases c4 : v4 = 0
  case neg => rw [if_neg c4, if_neg c4]
  rw [if_pos c4, if_pos c4]
  by_cases c5 : v5 = 0
  case neg => rw [if_neg c5, if_neg c5]
  rw [if_pos c5, if_pos c5]
  by_cases c6 : v6 = 0
  case neg => rw [if_neg c6, if_neg c6]
  rw [if_pos c6, if_pos c6]
  by_cases c7 : v7 = 0
  case neg => rw [if_neg c7, if_neg c7, if_neg (by decide)]
  by_cases c8 : v8 = 0
  case neg => rw [if_pos c7, if_pos c7, if_neg c8, if_neg c8, if_neg (by decide)]
  by_cases c9 : v9 = 0
  case neg => rw [if_pos c7, if_pos c7, if_pos c8, if_pos c8, if_neg c9, if_neg c9, if_neg (by decide)]
  rw [if_pos c7, if_pos c7, if_pos c8, if_pos c8, if_pos c9, if_pos c9, if_pos rfl]
theorem hz_wdSh (g : Nat → Nat) (s : Nat) : ∀ n i, hz_wd g (s + i) n = hz_wd (fun j => g (s + j)) i n
  | 0, _ => rfl
  | n + 1, i => by
    show (g (s + i) - 96) :: hz_wd g (s + (i + 1)) n = (g (s + i) - 96) :: hz_wd (fun j => g (s + j)) (i + 1) n
    rw [hz_wdSh g s n (i + 1)]
theorem hl_p4 (h : hz_tx L g w m) (h5 : m.1 5 = nI q) (h6 : m.1 6 = nI s) (hal : hz_al g s (q - s)) (hsq : s < q) (hq : q ≤ L) (h7 : q - s ≤ 6) : ∀ (n i a fu : Nat), i + n = 6 → n < fu → sX7_packed_4 m fu (nI i) (nI a) ∧ (fX7_packed_4 m fu (nI i) (nI a)).2 = nI ((hz_p6 (fun j => g (s + j)) (q - s) i n).foldl (fun a c => 27 * a + c) a) := by
  intro n
  have hL := h.1
  induction n with
  | zero =>
    intro i a fu hi hf
    obtain ⟨fu, rfl⟩ : ∃ k, fu = k + 1 := ⟨fu - 1, by omega⟩
    have c : (6 : Int32) ≤ nI i := by
      show nI 6 ≤ nI i
      rw [hz_le, nI_toInt (by omega), nI_toInt (by omega)]; omega
    have e : fX7_packed_4 m (fu + 1) (nI i) (nI a) = (nI i, nI a) := if_pos c
    rw [e]
    exact ⟨⟨fun _ => trivial, fun h => absurd c h⟩, rfl⟩
  | succ n ih =>
    intro i a fu hi hf
    obtain ⟨fu, rfl⟩ : ∃ k, fu = k + 1 := ⟨fu - 1, by omega⟩
    have c : ¬ (6 : Int32) ≤ nI i := by
      show ¬ nI 6 ≤ nI i
      rw [hz_le, nI_toInt (by omega), nI_toInt (by omega)]; omega
    have e : fX7_packed_4 m (fu + 1) (nI i) (nI a) = (if 6 ≤ nI i then (nI i, nI a) else (if (m.1 5) ≤ ((m.1 6) + nI i) then (fX7_packed_4 m fu (nI i + 1) (((27 : Int32) * nI a) + 0)) else (fX7_packed_4 m fu (nI i + 1) (((27 : Int32) * nI a) + ((((m.2.1 7) ((m.1 6) + nI i).toNatClampNeg) - 97) + 1))))) := rfl
    have es : sX7_packed_4 m (fu + 1) (nI i) (nI a) = ((6 ≤ nI i → True) ∧ (¬ 6 ≤ nI i → (((m.1 5) ≤ ((m.1 6) + nI i) → (sX7_packed_4 m fu (nI i + 1) (((27 : Int32) * nI a) + 0))) ∧ (¬ (m.1 5) ≤ ((m.1 6) + nI i) → (vp_in ((m.1 6) + nI i) 1200 ∧ (sX7_packed_4 m fu (nI i + 1) (((27 : Int32) * nI a) + ((((m.2.1 7) ((m.1 6) + nI i).toNatClampNeg) - 97) + 1)))))))) := rfl
    have e27 : (27 : Int32) * nI a = nI (27 * a) := by rw [show (27 : Int32) = nI 27 from rfl, pk_mul]
    rw [if_neg c, h5, h6, nI_add, nI_clamp (by omega), e27, ← nI_succ] at e
    rw [h5, h6, nI_add, nI_clamp (by omega), e27, ← nI_succ] at es
    by_cases kk : q ≤ s + i
    · have k' : nI q ≤ nI (s + i) := by rw [hz_le, nI_toInt (by omega), nI_toInt (by omega)]; omega
      have e0 : nI (27 * a) + 0 = nI (27 * a + 0) := by rw [show (0 : Int32) = nI 0 from rfl, nI_add]
      obtain ⟨i1, i2⟩ := ih (i + 1) (27 * a + 0) fu (by omega) (by omega)
      rw [if_pos k', e0] at e
      rw [e, es, i2, e0]
      have ew : hz_p6 (fun j => g (s + j)) (q - s) i (n + 1) = 0 :: hz_p6 (fun j => g (s + j)) (q - s) (i + 1) n := by
        show (if q - s ≤ i then 0 else g (s + i) - 96) :: hz_p6 (fun j => g (s + j)) (q - s) (i + 1) n = _
        rw [if_pos (by omega)]
      rw [ew]
      exact ⟨⟨fun _ => trivial, fun _ => ⟨fun _ => i1, fun h => absurd k' h⟩⟩, rfl⟩
    · have k' : ¬ nI q ≤ nI (s + i) := by rw [hz_le, nI_toInt (by omega), nI_toInt (by omega)]; omega
      obtain ⟨l1, l2⟩ := hal (s + i) (by omega) (by omega)
      obtain ⟨i1, i2⟩ := ih (i + 1) (27 * a + (g (s + i) - 96)) fu (by omega) (by omega)
      have eb : m.2.1 7 (s + i) = nI (g (s + i)) := by rw [(h.2.2.2 (s + i) (by omega)).2.2, hz_b7 _ (by omega)]
      rw [if_neg k', eb, hz_let l1 l2, nI_add] at e
      rw [eb, hz_let l1 l2, nI_add] at es
      rw [e, es, i2]
      have ew : hz_p6 (fun j => g (s + j)) (q - s) i (n + 1) = (g (s + i) - 96) :: hz_p6 (fun j => g (s + j)) (q - s) (i + 1) n := by
        show (if q - s ≤ i then 0 else g (s + i) - 96) :: hz_p6 (fun j => g (s + j)) (q - s) (i + 1) n = _
        rw [if_neg (by omega)]
      rw [ew]
      exact ⟨⟨fun _ => trivial, fun _ => ⟨fun h => absurd h k', fun _ => ⟨vp_in_nI (by omega) (by omega), i1⟩⟩⟩, rfl⟩
theorem hz_pkd (h : hz_tx L g w m) (h5 : m.1 5 = nI q) (h6 : m.1 6 = nI s) (hal : hz_al g s (q - s)) (hsq : s < q) (hq : q ≤ L) (h7 : q - s ≤ 6) : sX7_packed m ∧ fX7_packed m = nI (hz_e27 (hz_pad (hz_wd g s (q - s)))) := by
  obtain ⟨a1, a2⟩ := hl_p4 h h5 h6 hal hsq hq h7 6 0 0 (fuU 6 0) (by omega) (by unfold fuU; rw [show (6 : Int32).toInt = 6 from rfl, show (0 : Int32).toInt = 0 from rfl]; omega)
  rw [nI_0] at a1 a2
  unfold sX7_packed fX7_packed
  generalize fuU 6 0 = F at *
  refine ⟨⟨a1, trivial⟩, ?_⟩
  have e := hz_wdSh g s (q - s) 0
  rw [Nat.add_zero] at e
  rw [e, ← hz_p6E (by omega) h7]
  exact a2
theorem hz_nameHere (h : hz_tx L g w m) (ho : hz_prs L g w m s q k) : sX7_nameHere m ∧ ((∃ x y, hz_nm x y ∧ ¬ x = -1 ∧ fX4_nameHere w = x ∧ fX7_nameHere m = (y, m)) ∨ (fX4_nameHere w = -1 ∧ fX7_nameHere m = (0, fX7_fail m 1))) := by
  have ho0 := ho
  obtain ⟨o1, o2, t⟩ := ho
  have hL := h.1
  have hg : ¬ fX7_good m = 0 := by rw [hz_gG o2]; decide
  obtain ⟨t1, t2, t3, t4, t5, t6, t7, t8, t9⟩ := t
  obtain ⟨f1, -⟩ := hz_fl ho0 (z := 1) (by decide)
  have fb := hz_gB (hz_badM f1)
  obtain ⟨-, kw1, kw2⟩ := hz_kw h ho0
  have hk3 : k ≤ 3 := by
    rcases t9 with ⟨x, _⟩ | ⟨x, _⟩ | ⟨x, _, _⟩ | ⟨x, _⟩ <;> omega
  have hsub : nI q - nI s = nI (q - s) := by
    have := hz_subN s (q - s) (by omega)
    rw [show s + (q - s) = q by omega] at this
    exact this
  have c6 : 6 < nI (q - s) ↔ 6 < q - s := by
    show nI 6 < nI (q - s) ↔ _
    rw [nI_ltI (by omega) (by omega)]
  unfold sX7_nameHere fX7_nameHere fX4_nameHere
  simp only [bnd]
  rw [t1, t2, t3, t4, t5, t6, hsub, if_neg hg, if_pos fb, kw2]
  have nF : fX7_good (fX7_fail m 1) = 0 → True := fun _ => trivial
  by_cases k1 : nI k = 1
  · have hk : k = 1 := hz_nIi (a := k) (b := 1) (by omega) (by omega) k1
    have hal : s < q ∧ hz_al g s (q - s) := by
      rcases t9 with ⟨x, _⟩ | ⟨x, y, z⟩ | ⟨x, _, _⟩ | ⟨x, _⟩
      · omega
      · exact ⟨y, z⟩
      · omega
      · omega
    have hpk := hz_packName (N := 1200) (by omega) (w.2.1 0) g (i := s) (n := q - s) (by omega) (fun j _ hj => ⟨(h.2.2.2 j (by omega)).2.1, (h.2.2.2 j (by omega)).1⟩)
    rw [show s + (q - s) = q by omega] at hpk
    rw [if_pos k1, if_pos k1]
    by_cases c : 6 < q - s
    · rw [if_pos (c6.2 c), hpk.2 (fun hh => by omega)]
      refine ⟨⟨fun h => absurd h hg, fun _ => ⟨fun _ => ⟨fun _ => ⟨fun _ => trivial, fun h => absurd fb h⟩, fun h => absurd (c6.2 c) h⟩, fun h => absurd k1 h⟩⟩, Or.inr ⟨?_, rfl⟩⟩
      by_cases ck : fX4_isKeyword w = 0
      · rw [if_pos ck]
      · rw [if_neg ck]
    · have c7 : ¬ 6 < nI (q - s) := fun hh => c (c6.1 hh)
      rw [if_neg c7]
      by_cases ck : fX4_isKeyword w = 0
      · obtain ⟨p1, p2⟩ := hz_pkd h t4 t2 hal.2 hal.1 t8 (by omega)
        have hnl := hz_wdN hal.2 (by omega) (by omega)
        have hnb := hz_e5B hnl
        rw [if_pos ck, if_pos ck, p2, hpk.1 ⟨by omega, by omega, hal.2⟩]
        refine ⟨⟨fun h => absurd h hg, fun _ => ⟨fun _ => ⟨fun h => absurd h c7, fun _ => ⟨kw1, fun _ => ⟨p1, trivial⟩, fun h => absurd ck h⟩⟩, fun h => absurd k1 h⟩⟩, Or.inl ⟨_, _, ⟨_, hnl, rfl, rfl⟩, ?_, rfl, rfl⟩⟩
        intro hh
        rw [hz_inj, nI_toInt (by omega), show (-1 : Int32).toInt = -1 from rfl] at hh
        omega
      · rw [if_neg ck, if_neg ck]
        exact ⟨⟨fun h => absurd h hg, fun _ => ⟨fun _ => ⟨fun h => absurd h c7, fun _ => ⟨kw1, fun h => absurd h ck, fun _ => ⟨fun _ => trivial, fun h => absurd fb h⟩⟩⟩, fun h => absurd k1 h⟩⟩, Or.inr ⟨rfl, rfl⟩⟩
  · rw [if_neg k1, if_neg k1]
    exact ⟨⟨fun h => absurd h hg, fun _ => ⟨fun h => absurd h k1, fun _ => ⟨fun _ => trivial, fun h => absurd fb h⟩⟩⟩, Or.inr ⟨rfl, rfl⟩⟩
end HZZ
