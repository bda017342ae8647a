/-! The text while it is written: what it may cost, what it is. -/
def cKf : Nat → Nat → Nat → Nat
  | 0, _, _ => 0
  | f + 1, X, n => if X ≤ n then 0 else cKf f X (n + (n + 2)) + 1
def cUf : Nat → Nat → Nat → Nat
  | 0, _, _ => 0
  | f + 1, X, n => if X ≤ n then 0 else cUf f X (n + (n + 2)) + (n + (n + 2))
def cNf : Nat → Nat → Nat → Nat
  | 0, _, n => n
  | f + 1, X, n => if X ≤ n then n else cNf f X (n + (n + 2))
theorem cf_0 {X n : Nat} (h : X ≤ n) : ∀ f, cKf f X n = 0 ∧ cUf f X n = 0 ∧ cNf f X n = n
  | 0 => ⟨rfl, rfl, rfl⟩
  | _ + 1 => ⟨if_pos h, if_pos h, if_pos h⟩
theorem cf_e : ∀ (f g X n : Nat), X ≤ n + f → X ≤ n + g → cKf f X n = cKf g X n ∧ cUf f X n = cUf g X n ∧ cNf f X n = cNf g X n := by
  intro f
  induction f with
  | zero =>
    intro g X n h1 h2
    obtain ⟨a1, a2, a3⟩ := cf_0 (show X ≤ n by omega) 0
    obtain ⟨b1, b2, b3⟩ := cf_0 (show X ≤ n by omega) g
    exact ⟨a1.trans b1.symm, a2.trans b2.symm, a3.trans b3.symm⟩
  | succ f ih =>
    intro g X n h1 h2
    by_cases c : X ≤ n
    · obtain ⟨a1, a2, a3⟩ := cf_0 c (f + 1)
      obtain ⟨b1, b2, b3⟩ := cf_0 c g
      exact ⟨a1.trans b1.symm, a2.trans b2.symm, a3.trans b3.symm⟩
    · obtain ⟨g, rfl⟩ : ∃ k, g = k + 1 := ⟨g - 1, by omega⟩
      obtain ⟨i1, i2, i3⟩ := ih g X (n + (n + 2)) (by omega) (by omega)
      have e1 : cKf (f + 1) X n = cKf f X (n + (n + 2)) + 1 := if_neg c
      have e2 : cUf (f + 1) X n = cUf f X (n + (n + 2)) + (n + (n + 2)) := if_neg c
      have e3 : cNf (f + 1) X n = cNf f X (n + (n + 2)) := if_neg c
      have e4 : cKf (g + 1) X n = cKf g X (n + (n + 2)) + 1 := if_neg c
      have e5 : cUf (g + 1) X n = cUf g X (n + (n + 2)) + (n + (n + 2)) := if_neg c
      have e6 : cNf (g + 1) X n = cNf g X (n + (n + 2)) := if_neg c
      rw [e1, e2, e3, e4, e5, e6, i1, i2, i3]
      exact ⟨rfl, rfl, rfl⟩
def cK (X n : Nat) : Nat := cKf X X n
def cU (X n : Nat) : Nat := cUf X X n
def cN (X n : Nat) : Nat := cNf X X n
theorem c_le {X n : Nat} (h : X ≤ n) : cK X n = 0 ∧ cU X n = 0 ∧ cN X n = n := cf_0 h X
theorem c_gt {X n : Nat} (h : n < X) : cK X n = cK X (n + (n + 2)) + 1 ∧ cU X n = cU X (n + (n + 2)) + (n + (n + 2)) ∧ cN X n = cN X (n + (n + 2)) := by
  obtain ⟨Y, rfl⟩ : ∃ Y, X = Y + 1 := ⟨X - 1, by omega⟩
  have c : ¬ Y + 1 ≤ n := by omega
  obtain ⟨i1, i2, i3⟩ := cf_e Y (Y + 1) (Y + 1) (n + (n + 2)) (by omega) (by omega)
  have e1 : cK (Y + 1) n = cKf Y (Y + 1) (n + (n + 2)) + 1 := if_neg c
  have e2 : cU (Y + 1) n = cUf Y (Y + 1) (n + (n + 2)) + (n + (n + 2)) := if_neg c
  have e3 : cN (Y + 1) n = cNf Y (Y + 1) (n + (n + 2)) := if_neg c
  rw [e1, e2, e3, i1, i2, i3]
  exact ⟨rfl, rfl, rfl⟩
theorem c_sb {q X n : Nat} (h : q ≤ X) : cK X n = sbK q n + cK X (sbN q n) ∧ cU X n = sbU q n + cU X (sbN q n) ∧ cN X n = cN X (sbN q n) := by
  unfold sbK sbU sbN
  by_cases c : q ≤ n
  · rw [if_pos c, if_pos c, if_pos c]
    exact ⟨by omega, by omega, rfl⟩
  · rw [if_neg c, if_neg c, if_neg c]
    obtain ⟨a1, a2, a3⟩ := c_gt (show n < X by omega)
    rw [a1, a2, a3]
    exact ⟨by omega, by omega, rfl⟩
theorem c_co {q X : Nat} (h : q ≤ X) : ∀ (f n : Nat), q ≤ n + f → cK X n = cK q n + cK X (cN q n) ∧ cU X n = cU q n + cU X (cN q n) ∧ cN X n = cN X (cN q n) := by
  intro f
  induction f with
  | zero =>
    intro n hn
    obtain ⟨a1, a2, a3⟩ := c_le (show q ≤ n by omega)
    rw [a1, a2, a3]
    exact ⟨by omega, by omega, rfl⟩
  | succ f ih =>
    intro n hn
    by_cases c : q ≤ n
    · obtain ⟨a1, a2, a3⟩ := c_le c
      rw [a1, a2, a3]
      exact ⟨by omega, by omega, rfl⟩
    · obtain ⟨a1, a2, a3⟩ := c_gt (show n < q by omega)
      obtain ⟨b1, b2, b3⟩ := c_gt (show n < X by omega)
      obtain ⟨i1, i2, i3⟩ := ih (n + (n + 2)) (by omega)
      rw [a1, a2, a3, b1, b2, b3, i1, i2]
      exact ⟨by omega, by omega, i3⟩
/-- what at most is spent -/
theorem c_bd {X : Nat} (hX : X ≤ 2000) : ∀ (f n : Nat), 16 ≤ n → X ≤ n + f → cK X n * 18 ≤ 2000 - n + 18 ∧ cU X n + (n + n) ≤ 8004 + (n + n - 4002) ∧ (2000 ≤ n → cK X n = 0 ∧ cU X n = 0) := by
  intro f
  induction f with
  | zero =>
    intro n h16 hn
    obtain ⟨a1, a2, a3⟩ := c_le (show X ≤ n by omega)
    rw [a1, a2]
    exact ⟨by omega, by omega, fun _ => ⟨rfl, rfl⟩⟩
  | succ f ih =>
    intro n h16 hn
    by_cases c : X ≤ n
    · obtain ⟨a1, a2, a3⟩ := c_le c
      rw [a1, a2]
      exact ⟨by omega, by omega, fun _ => ⟨rfl, rfl⟩⟩
    · obtain ⟨a1, a2, a3⟩ := c_gt (show n < X by omega)
      obtain ⟨i1, i2, i3⟩ := ih (n + (n + 2)) (by omega) (by omega)
      rw [a1, a2]
      by_cases c2 : 2000 ≤ n + (n + 2)
      · obtain ⟨j1, j2⟩ := i3 c2
        rw [j1, j2]
        exact ⟨by omega, by omega, fun h => by omega⟩
      · exact ⟨by omega, by omega, fun h => by omega⟩
/-- all but the text -/
def hz_tF (w0 w : Wd) : Prop := (∀ k, ¬ k = 16 → ¬ k = 17 → w.1 k = w0.1 k) ∧ w.2.1 = w0.2.1 ∧ w.2.2.1 = w0.2.2.1 ∧ w.2.2.2.1 = w0.2.2.2.1 ∧ w.2.2.2.2.1 = w0.2.2.2.2.1
def TB (G : GM) (K : Nat → Option va_E) (w0 : Wd) (T : List Int32) (h : List va_E) (n : Nat) : Prop := ∃ w, HW G K h w ∧ hz_tF w0 w ∧ w.1 16 = nI T.length ∧ w.2.2.2.2.2.2.1 = n ∧ hz_fit w.2.2.2.2.2.2.2 ∧ T.length ≤ n ∧ ∀ j, j < T.length → w.2.2.2.2.2.2.2 j = T.getD j 0
/-- .. on the way to a text of X bytes, with k cells and u slots left, and a row of N bytes at the end -/
def TS (G : GM) (K : Nat → Option va_E) (w0 : Wd) (T : List Int32) (h : List va_E) (X N k u : Nat) : Prop := ∃ n, TB G K w0 T h n ∧ cK X n ≤ k ∧ cU X n ≤ u ∧ cN X n = N
section TXT
variable {G : GM} {K : Nat → Option va_E} {w0 : Wd} {T : List Int32} {h h1 : List va_E} {n X N k u : Nat}
theorem ts_start (t : TB G K w0 T h n) (X : Nat) : TS G K w0 T h X (cN X n) (cK X n) (cU X n) := ⟨n, t, Nat.le_refl _, Nat.le_refl _, rfl⟩
theorem ts_end (t : TS G K w0 T h X N k u) (hX : X ≤ T.length) : TB G K w0 T h N := by
  obtain ⟨n, t1, -, -, t2⟩ := t
  obtain ⟨w, a1, a2, a3, a4, a5, a6, a7⟩ := t1
  have e := (c_le (show X ≤ n by omega)).2.2
  rw [← t2, e]
  exact ⟨w, a1, a2, a3, a4, a5, a6, a7⟩
theorem tb_sb (t : TB G K w0 T h n) : ∃ v f ml, SBc G h v n T.length f ml ∧ (∀ j, j < T.length → f j = T.getD j 0) ∧ 221 ≤ h.length ∧ n ≤ 4096 ∧ 16 ≤ n := by
  obtain ⟨w, hw, a2, a3, a4, a5, a6, a7⟩ := t
  have c2 := hwc19 hw
  have cB := hwB hw
  obtain ⟨-, -, ⟨-, b2, b3, b4⟩, -, b5⟩ := hw
  rw [a3] at c2
  rw [a4] at cB b3 b4
  exact ⟨w.2.2.2.2.2.1, w.2.2.2.2.2.2.2, w.1 17, ⟨c2, cB, by omega, ⟨by omega, by omega⟩, a5, a6, b3, b4⟩, a7, b5, b4, b3⟩
theorem tb_to (t : TB G K w0 T h n) {v n1 C : Nat} {f f1 : Nat → Int32} {ml ml1 : Int32} {v1 : Nat} (hb : SBc G h v n T.length f ml) (hb1 : SBc G h1 v1 n1 C f1 ml1) (hF : SBf h h1 v v1) {T1 : List Int32} (hC : C = T1.length) (hT : ∀ j, j < T1.length → f1 j = T1.getD j 0) : TB G K w0 T1 h1 n1 := by
  obtain ⟨w, hw, a2, a3, a4, a5, a6, a7⟩ := t
  have c2 := hwc19 hw
  obtain ⟨hp, ⟨c0, c1, -, c4, c53, c54, c215, c216, c217, c218, c219, c220⟩, ⟨-, b2, -, -⟩, kk, kl⟩ := hw
  have ev : w.2.2.2.2.2.1 = v := by
    have e := Option.some.inj (c2.symm.trans hb.1)
    have e2 := congrArg (fun x : va_E => match x with | .inr o => o.2[0]? | _ => none) e
    have e3 : gz G + w.2.2.2.2.2.1 = gz G + v := by
      have := Option.some.inj e2
      exact Value.ref.inj this
    omega
  rw [ev] at b2
  have fr : ∀ a, a < 221 → ¬ a = 19 → ¬ a = v → h1[a]? = h[a]? := fun a ha h2 h3 => hF.2.1 a (by omega) h2 h3
  have nv : ∀ a, a < 221 → ¬ a = 20 → ¬ a = v := fun a ha h3 => by omega
  have hK : ∀ a c, 221 ≤ a → K a = some c → h1[a]? = some c := fun a c ha hc => by
    have e := kk a c ha hc
    have hl := (List.getElem?_eq_some_iff.mp e).1
    have hv : ¬ a = v := fun ev => by
      rcases b2 with b2 | ⟨-, b2⟩
      · omega
      · rw [← ev, hc] at b2; cases b2
    rw [hF.2.1 a hl (by omega) hv]
    exact e
  have hv1 : v1 = 20 ∨ (221 ≤ v1 ∧ K v1 = none) := by
    rcases hF.2.2 with e | e
    · rw [e]; exact b2
    · refine Or.inr ⟨by omega, ?_⟩
      cases hc : K v1 with
      | none => rfl
      | some c =>
        have hl := (List.getElem?_eq_some_iff.mp (kk v1 c (by omega) hc)).1
        omega
  refine ⟨wB (wS (wS w 16 (nI C)) 17 ml1) (v1, n1, f1), ⟨fun i hi => ?_, ⟨(fr 0 (by omega) (by omega) (nv 0 (by omega) (by omega))).trans c0, (fr 2 (by omega) (by omega) (nv 2 (by omega) (by omega))).trans c1, hb1.1, (fr 1 (by omega) (by omega) (nv 1 (by omega) (by omega))).trans c4, (fr 53 (by omega) (by omega) (nv 53 (by omega) (by omega))).trans c53, (fr 54 (by omega) (by omega) (nv 54 (by omega) (by omega))).trans c54, (fr 215 (by omega) (by omega) (nv 215 (by omega) (by omega))).trans c215, (fr 216 (by omega) (by omega) (nv 216 (by omega) (by omega))).trans c216, (fr 217 (by omega) (by omega) (nv 217 (by omega) (by omega))).trans c217, (fr 218 (by omega) (by omega) (nv 218 (by omega) (by omega))).trans c218, (fr 219 (by omega) (by omega) (nv 219 (by omega) (by omega))).trans c219, (fr 220 (by omega) (by omega) (nv 220 (by omega) (by omega))).trans c220⟩, ⟨hb1.2.1, hv1, hb1.2.2.2.2.2.2.1, hb1.2.2.2.2.2.2.2⟩, hK, by have := hF.1; omega⟩, ⟨fun q h16 h17 => (if_neg h17).trans ((if_neg h16).trans (a2.1 q h16 h17)), a2.2⟩, ?_, rfl, hb1.2.2.2.2.1, by rw [← hC]; exact hb1.2.2.2.2.2.1, hT⟩
  · intro q hq
    have := pb_hi hi
    have := pb_lo i
    exact (fr _ (by omega) (by unfold pb; omega) (nv _ (by omega) (by unfold pb; omega))).trans (hp i hi q hq)
  · rw [← hC]; rfl
theorem ts_c0 (t : TS G K w0 T h X N k u) : h[0]? = some (.inr (7, [.ref (gz G + 2), .int (w0.1 0), .ref (gz G + 19), .ref (gz G + 1), .ref (gz G + 21), .ref (gz G + 37), .ref (gz G + 53), .ref (gz G + 215), .ref (gz G + 219)])) := by
  obtain ⟨n, ⟨w, hw, a2, -⟩, -⟩ := t
  rw [← a2.1 0 (by decide) (by decide)]
  exact hwc0 hw
theorem ts_P1 (t : TS G K w0 T h X N k u) : PlantAt G h 21 (w0.2.2.1 1) := by
  obtain ⟨n, ⟨w, hw, a2, -⟩, -⟩ := t
  rw [← a2.2.2.1]
  exact hwP1 hw
theorem ts_2 (t : TS G K w0 T h X N k u) : ∃ fs, h[19]? = some (.inr (0, fs)) := by
  obtain ⟨n, ⟨w, hw, -⟩, -⟩ := t
  exact ⟨_, hwc19 hw⟩
end TXT
def nmB1 (x : Int32) (s : Nat) : List Int32 := if ((x >>> (nI s &&& 31)) &&& 31) = 0 then [] else [nI (96 + ((x >>> (nI s &&& 31)) &&& 31).toNatClampNeg)]
def nmB (x : Int32) : List Int32 := nmB1 x 25 ++ nmB1 x 20 ++ nmB1 x 15 ++ nmB1 x 10 ++ nmB1 x 5 ++ nmB1 x 0
def numB (z : Nat) : List Int32 := (List.range (sbW z)).map (fun i => nI (48 + z / 10 ^ (sbW z - 1 - i) % 10))
theorem numB_len (z : Nat) : (numB z).length = sbW z := by unfold numB; rw [List.length_map, List.length_range]
theorem numB_at (z : Nat) {i : Nat} (hi : i < sbW z) : (numB z).getD i 0 = nI (48 + z / 10 ^ (sbW z - 1 - i) % 10) := by
  unfold numB
  rw [List.getD_eq_getElem?_getD, List.getElem?_map, List.getElem?_range hi]
  rfl
theorem gd_app {T L : List Int32} {f : Nat → Int32} (h1 : ∀ j, j < T.length → f j = T.getD j 0) (h2 : ∀ i, i < L.length → f (T.length + i) = L.getD i 0) : ∀ j, j < (T ++ L).length → f j = (T ++ L).getD j 0 := fun j hj => by
  rw [List.length_append] at hj
  by_cases c : j < T.length
  · rw [h1 j c, List.getD_eq_getElem?_getD, List.getD_eq_getElem?_getD, List.getElem?_append_left c]
  · have := h2 (j - T.length) (by omega)
    rw [show T.length + (j - T.length) = j by omega] at this
    rw [this, List.getD_eq_getElem?_getD, List.getD_eq_getElem?_getD, List.getElem?_append_right (by omega)]
theorem sb_b128 : ∀ b, b < 128 → (nI b).toInt8.toInt32.toInt8.toInt32 = nI b := by decide +kernel
section TXR
variable {l : Launch} {G : GM} {K : Nat → Option va_E} {w0 : Wd} {T : List Int32} {M M2 : MD} {d k u pc d2 n idx X N : Nat} {lv : List (Nat × Value)} {As rest : List Value} {h : List va_E} {Q : Option Value → List va_E → Prop}
theorem am_ts {L : List Int32} {st1 : List Value} (t : TS G K w0 T h X N k u) (hX : T.length + L.length ≤ X) (hX2 : X ≤ 2000) (hd : decode M.2.1 pc = .ok (.invokevirtual idx, 3)) (hM : okV M.1.cls idx M2 n) (hn : As.length = n) (hcl : some RJ4 = some M2.1.cls) (hst : st1 = As.reverse ++ .ref (gz G + 19) :: rest) (hw : (rest.map fun v => v.category).sum ≤ 8) (hd2 : d2 + 1 ≤ d) (hlen : (lg_sl (.ref (gz G + 19) :: As)).length ≤ M2.2.2.1)
    (hC : ∀ (m v : Nat) (f : Nat → Int32) (ml : Int32), SBc G h v m T.length f ml → T.length + L.length ≤ 2000 → Ct l G M2 d2 (sbK (T.length + L.length) m) (sbU (T.length + L.length) m) (.ref (gz G + 19) :: As) h (fun r h1 => r = some (.ref (gz G + 19)) ∧ ∃ v1 n1 f1, SBc G h1 v1 n1 (T.length + L.length) f1 ml ∧ SBf h h1 v v1 ∧ n1 = sbN (T.length + L.length) m ∧ (∀ j, j < T.length → f1 j = f j) ∧ ∀ i, i < L.length → f1 (T.length + i) = L.getD i 0))
    (kk : ∀ (h1 : List va_E) (k1 u1 : Nat), TS G K w0 (T ++ L) h1 X N k1 u1 → Tr l G M d k1 u1 (pc + 3) lv (.ref (gz G + 19) :: rest) h1 Q) : Tr l G M d k u pc lv st1 h Q := by
  obtain ⟨m, t1, t2, t3, t4⟩ := t
  obtain ⟨v, f, ml, hb, hf, -, -⟩ := tb_sb t1
  obtain ⟨e1, e2, e3⟩ := c_sb (n := m) hX
  refine am_callV (As := As) (rest := rest) hd hM hn hb.1 hcl hst hw hd2 (k2 := sbK (T.length + L.length) m) (by omega) (u2 := sbU (T.length + L.length) m) (by omega) hlen (hC m v f ml hb (by omega)) (fun r h1 hq => ?_)
  obtain ⟨rfl, v1, n1, f1, hb1, hF, hn1, hk1, hk2⟩ := hq
  refine kk h1 _ _ ⟨n1, tb_to t1 hb hb1 hF (T1 := T ++ L) (List.length_append).symm (gd_app (fun j hj => (hk1 j hj).trans (hf j hj)) hk2), ?_, ?_, ?_⟩
  · rw [hn1]; omega
  · rw [hn1]; omega
  · rw [hn1, ← e3]; exact t4
theorem am_tsS {j : Nat} {qs : String × Nat × String × List Int32} (t : TS G K w0 T h X N k u) (hj : strTab[j]? = some qs) (hX : T.length + qs.2.2.2.length ≤ X) (hX2 : X ≤ 2000) (hd : decode M.2.1 pc = .ok (.invokevirtual idx, 3)) (hM : okV M.1.cls idx mJ4_append_15ec4 1) (hw : (rest.map fun v => v.category).sum ≤ 8) (hd2 : 6 ≤ d)
    (kk : ∀ (h1 : List va_E) (k1 u1 : Nat), TS G K w0 (T ++ qs.2.2.2) h1 X N k1 u1 → Tr l G M d k1 u1 (pc + 3) lv (.ref (gz G + 19) :: rest) h1 Q) (h21 : j < 21 := by omega) : Tr l G M d k u pc lv (.ref (gS G j) :: .ref (gz G + 19) :: rest) h Q :=
  am_ts (As := [.ref (gS G j)]) (rest := rest) (d2 := 5) t hX hX2 hd hM rfl rfl rfl hw hd2 (Nat.le_of_ble_eq_true rfl) (fun m v f ml hb h2 => ctJ4_appendS hb hj h21 h2) kk
theorem am_tsC {c : Int32} {b : Nat} (t : TS G K w0 T h X N k u) (hc : c = nI b) (hb8 : b < 128) (hX : T.length + 1 ≤ X) (hX2 : X ≤ 2000) (hd : decode M.2.1 pc = .ok (.invokevirtual idx, 3)) (hM : okV M.1.cls idx mJ4_append_cf468 1) (hw : (rest.map fun v => v.category).sum ≤ 8) (hd2 : 6 ≤ d)
    (kk : ∀ (h1 : List va_E) (k1 u1 : Nat), TS G K w0 (T ++ [nI b]) h1 X N k1 u1 → Tr l G M d k1 u1 (pc + 3) lv (.ref (gz G + 19) :: rest) h1 Q) : Tr l G M d k u pc lv (.int c :: .ref (gz G + 19) :: rest) h Q := by
  subst hc
  refine am_ts (L := [nI b]) (As := [.int (nI b)]) (rest := rest) (d2 := 5) t hX hX2 hd hM rfl rfl rfl hw hd2 (Nat.le_of_ble_eq_true rfl) (fun m v f ml hb h2 => ?_) kk
  have hcc : ¬ (255 : Int32) < nI b := by
    rw [hz_lt, nI_toInt (by omega), show (255 : Int32).toInt = 255 from rfl]; omega
  refine sb_ctW (ctJ4_appendC (c := nI b) hb hcc h2) (fun r h1 hq => ?_)
  obtain ⟨rfl, v1, n1, f1, x1, x2, x3, x4, x5⟩ := hq
  refine ⟨rfl, v1, n1, f1, x1, x2, x3, x4, fun i hi => ?_⟩
  have hi0 : i = 0 := by
    have : i < 1 := hi
    omega
  subst hi0
  show f1 T.length = nI b
  rw [x5]
  exact sb_b128 b hb8
theorem am_tsI {z : Nat} (t : TS G K w0 T h X N k u) (hz : z < 10000) (hX : T.length + sbW z ≤ X) (hX2 : X ≤ 2000) (hd : decode M.2.1 pc = .ok (.invokevirtual idx, 3)) (hM : okV M.1.cls idx mJ4_append_bf812 1) (hw : (rest.map fun v => v.category).sum ≤ 8) (hd2 : 6 ≤ d)
    (kk : ∀ (h1 : List va_E) (k1 u1 : Nat), TS G K w0 (T ++ numB z) h1 X N k1 u1 → Tr l G M d k1 u1 (pc + 3) lv (.ref (gz G + 19) :: rest) h1 Q) : Tr l G M d k u pc lv (.int (nI z) :: .ref (gz G + 19) :: rest) h Q := by
  refine am_ts (L := numB z) (As := [.int (nI z)]) (rest := rest) (d2 := 5) t (by rw [numB_len]; exact hX) hX2 hd hM rfl rfl rfl hw hd2 (Nat.le_of_ble_eq_true rfl) (fun m v f ml hb h2 => ?_) kk
  rw [numB_len] at h2 ⊢
  refine sb_ctW (ctJ4_appendI hb hz h2) (fun r h1 hq => ?_)
  obtain ⟨rfl, v1, n1, f1, x1, x2, x3, x4, x5⟩ := hq
  exact ⟨rfl, v1, n1, f1, x1, x2, x3, x4, fun i hi => (x5 i hi).trans (numB_at z hi).symm⟩
/-- a method that writes L -/
theorem am_tsV {L : List Int32} {i ci : Nat} {fs : List Value} {st1 : List Value} (t : TS G K w0 T h X N k u) (hX : T.length + L.length ≤ X) (hd : decode M.2.1 pc = .ok (.invokevirtual idx, 3)) (hM : okV M.1.cls idx M2 n) (hn : As.length = n) (hh : h[i]? = some (.inr (ci, fs))) (hcl : (vwCl[ci]?).map (fun q => q.1) = some M2.1.cls) (hst : st1 = As.reverse ++ .ref (gz G + i) :: rest) (hw : (rest.map fun v => v.category).sum ≤ 8) (hd2 : d2 + 1 ≤ d) (hlen : (lg_sl (.ref (gz G + i) :: As)).length ≤ M2.2.2.1)
    (hC : ∀ m, TB G K w0 T h m → Ct l G M2 d2 (cK (T.length + L.length) m) (cU (T.length + L.length) m) (.ref (gz G + i) :: As) h (fun r h1 => r = none ∧ TB G K w0 (T ++ L) h1 (cN (T.length + L.length) m)))
    (kk : ∀ (h1 : List va_E) (k1 u1 : Nat), TS G K w0 (T ++ L) h1 X N k1 u1 → Tr l G M d k1 u1 (pc + 3) lv rest h1 Q) : Tr l G M d k u pc lv st1 h Q := by
  obtain ⟨m, t1, t2, t3, t4⟩ := t
  obtain ⟨e1, e2, e3⟩ := c_co hX (T.length + L.length) m (by omega)
  refine am_callV (As := As) (rest := rest) hd hM hn hh hcl hst hw hd2 (k2 := cK (T.length + L.length) m) (by omega) (u2 := cU (T.length + L.length) m) (by omega) hlen (hC m t1) (fun r h1 hq => ?_)
  obtain ⟨rfl, hq⟩ := hq
  exact kk h1 _ _ ⟨_, hq, by omega, by omega, by rw [← e3]; exact t4⟩
end TXR
