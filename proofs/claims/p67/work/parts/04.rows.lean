/-! The rows of Tr that make cells, call, or read what never changes. -/
section TRC
variable {l : Launch} {G : GM} {M : MD} {d k u pc : Nat} {lv lv' : List (Nat × Value)} {rest : List Value} {h : List va_E} {Q : Option Value → List va_E → Prop}
/-- more room than is needed -/
theorem am_less {k1 u1 : Nat} {st : List Value} (hk : k1 ≤ k) (hu : u1 ≤ u) (k2 : Tr l G M d k1 u1 pc lv st h Q) : Tr l G M d k u pc lv st h Q := by
  intro p e R s m args below meth c H locs cells slots mc ms ls F
  exact k2 p e R s m args below meth c H locs cells slots mc ms ls ⟨F.1, F.2.1, ⟨F.2.2.1.1, F.2.2.1.2.1, F.2.2.1.2.2.1, F.2.2.1.2.2.2.1, by have := F.2.2.1.2.2.2.2.1; omega, by have := F.2.2.1.2.2.2.2.2; omega⟩, F.2.2.2⟩
theorem am_deep {d1 : Nat} {st : List Value} (hd : d1 ≤ d) (k2 : Tr l G M d1 k u pc lv st h Q) : Tr l G M d k u pc lv st h Q := by
  intro p e R s m args below meth c H locs cells slots mc ms ls F
  exact k2 p e R s m args below meth c H locs cells slots mc ms ls ⟨F.1, F.2.1, ⟨Nat.le_trans hd F.2.2.1.1, by have := F.2.2.1.2.1; omega, F.2.2.1.2.2⟩, F.2.2.2⟩
/-- the locals in another order, or fewer -/
theorem am_lv {st : List Value} (ks : List Nat) (hl : lv_pick lv ks = lv') (k2 : Tr l G M d k u pc lv' st h Q) : Tr l G M d k u pc lv st h Q := by
  intro p e R s m args below meth c H locs cells slots mc ms ls F
  exact k2 p e R s m args below meth c H locs cells slots mc ms ls ⟨F.1, F.2.1, F.2.2.1, lv_sub F.2.2.2.1 ks hl, F.2.2.2.2⟩
theorem am_post {st : List Value} {Q1 : Option Value → List va_E → Prop} (hQ : ∀ v h1, Q1 v h1 → Q v h1) (k2 : Tr l G M d k u pc lv st h Q1) : Tr l G M d k u pc lv st h Q := by
  intro p e R s m args below meth c H locs cells slots mc ms ls F T hT X
  obtain ⟨t, a1, o, b1, b2, b3, b4⟩ := k2 p e R s m args below meth c H locs cells slots mc ms ls F T hT X
  obtain ⟨⟨v, h1, c1, c2, c3⟩, c4⟩ := b3
  exact ⟨t, a1, o, b1, b2, ⟨⟨v, h1, c1, hQ v h1 c2, c3⟩, c4⟩, b4⟩
def okN (own : String) (idx ci N : Nat) (fs : List Value) : Prop := ∃ (C : String) (T : u_T) (t : Nat → FieldType), vwCl[ci]? = some (C, T, N) ∧ (∀ w ∈ u_ws C T N, w ∈ lw_g) ∧ (∀ k, k < N → parseFieldDescriptor (T k).2.2.1 = some (t k)) ∧ Cond.classLink own idx C ∈ lw_g ∧ Cond.instantiable C N ∈ lw_g ∧ Cond.initialized C ∈ lw_g ∧ (∀ j, j < N → defaultValue (t j) = vp_V fs j)
theorem am_new {idx ci N k1 u1 : Nat} {fs : List Value} (hd : decode M.2.1 pc = .ok (.new idx, 3)) (hN : okN M.1.cls idx ci N fs) (hk : k1 + 1 ≤ k) (hu : u1 + N ≤ u) (k2 : Tr l G M d k1 u1 (pc + 3) lv (.ref (gz G + h.length) :: rest) (h ++ [.inr (ci, fs)]) Q) : Tr l G M d k u pc lv rest h Q := by
  intro p e R s m args below meth c H locs cells slots mc ms ls F
  obtain ⟨C, T, t, f1, f2, f3, f4, f5, f6, f7⟩ := hN
  obtain ⟨⟨hx, hb, hml, hown, hts0⟩, hM, ⟨r1, r2, r3, r4, r5, r6⟩, hls, hR, hK, hS, hC⟩ := F
  have hts : ∀ w ∈ lw_g, w.before args s = true := fun w hw => hts0 w (List.mem_cons_of_mem _ hw)
  have hKn := hK.1 ci _ f1
  refine W.newcK hx hb hown (hts _ f4) (hts _ f5) (hts _ f6) rfl hd (by omega) (by omega) hKn.2.1 rfl fun H1 kC hkC e1 z1 o1 => ?_
  have hz : H.size = gz G + h.length := hR.2
  have hz9 : H.size ≤ H1.size := by omega
  have g1 : va_S (gA G) s.heap H1 locs := ⟨Nat.le_trans hS.1 hz9, fun x h1 h2 => (o1 x (Nat.lt_of_lt_of_le h1 hS.1)).trans (hS.2.1 x h1 h2), hS.2.2⟩
  have g2 := k2 p e R s m args below meth c H1 locs (cells + 1) (slots + N) mc ms ls ⟨⟨hx, hb, hml, hown, hts0⟩, hM, ⟨r1, r2, r3, r4, by omega, by omega⟩, hls, hR.push ⟨_, f1, (u_born t hts f2 hKn hkC e1 f3).to f7⟩ z1 o1, hK, g1, hC⟩
  rw [hz]
  exact g2
theorem am_newi {n : Int32} {N k1 u1 : Nat} (hd : decode M.2.1 pc = .ok (.newarray .int, 2)) (hw : Cond.arrayClass .int ∈ lw_g) (hn : ¬ n < 0) (hN : n.toNatClampNeg = N) (hbytes : N * 4 ≤ 536870912) (hk : k1 + 1 ≤ k) (hu : u1 + N ≤ u) (k2 : Tr l G M d k1 u1 (pc + 2) lv (.ref (gz G + h.length) :: rest) (h ++ [.inl (0, N, .inl (fun _ => 0))]) Q) : Tr l G M d k u pc lv (.int n :: rest) h Q := by
  intro p e R s m args below meth c H locs cells slots mc ms ls F
  obtain ⟨⟨hx, hb, hml, hown, hts0⟩, hM, ⟨r1, r2, r3, r4, r5, r6⟩, hls, hR, hK, hS, hC⟩ := F
  have hts : ∀ w ∈ lw_g, w.before args s = true := fun w hw => hts0 w (List.mem_cons_of_mem _ hw)
  refine va_newaK (atype := .int) hx hb (hts _ hw) rfl hd rfl hn hN hbytes (by omega) (by omega) rfl fun H1 cA e1 z1 o1 hAr hNm => ?_
  have hz : H.size = gz G + h.length := hR.2
  have hz9 : H.size ≤ H1.size := by omega
  have hcA : cA = gc G 0 := Option.some.inj (hNm.symm.trans (hK.2 0 _ rfl).2)
  subst hcA
  have g1 : va_S (gA G) s.heap H1 locs := ⟨Nat.le_trans hS.1 hz9, fun x h1 h2 => (o1 x (Nat.lt_of_lt_of_le h1 hS.1)).trans (hS.2.1 x h1 h2), hS.2.2⟩
  have g2 := k2 p e R s m args below meth c H1 locs (cells + 1) (slots + N) mc ms ls ⟨⟨hx, hb, hml, hown, hts0⟩, hM, ⟨r1, r2, r3, r4, by omega, by omega⟩, hls, hR.push e1 z1 o1, hK, g1, hC⟩
  rw [hz]
  exact g2
theorem am_newb {n : Int32} {N k1 u1 : Nat} (hd : decode M.2.1 pc = .ok (.newarray .byte, 2)) (hw : Cond.arrayClass .byte ∈ lw_g) (hn : ¬ n < 0) (hN : n.toNatClampNeg = N) (hbytes : N * 1 ≤ 536870912) (hk : k1 + 1 ≤ k) (hu : u1 + N ≤ u) (k2 : Tr l G M d k1 u1 (pc + 2) lv (.ref (gz G + h.length) :: rest) (h ++ [.inl (1, N, .inl (fun _ => 0))]) Q) : Tr l G M d k u pc lv (.int n :: rest) h Q := by
  intro p e R s m args below meth c H locs cells slots mc ms ls F
  obtain ⟨⟨hx, hb, hml, hown, hts0⟩, hM, ⟨r1, r2, r3, r4, r5, r6⟩, hls, hR, hK, hS, hC⟩ := F
  have hts : ∀ w ∈ lw_g, w.before args s = true := fun w hw => hts0 w (List.mem_cons_of_mem _ hw)
  refine va_newaK (atype := .byte) hx hb (hts _ hw) rfl hd rfl hn hN hbytes (by omega) (by omega) rfl fun H1 cA e1 z1 o1 hAr hNm => ?_
  have hz : H.size = gz G + h.length := hR.2
  have hz9 : H.size ≤ H1.size := by omega
  have hcA : cA = gc G 1 := Option.some.inj (hNm.symm.trans (hK.2 1 _ rfl).2)
  subst hcA
  have g1 : va_S (gA G) s.heap H1 locs := ⟨Nat.le_trans hS.1 hz9, fun x h1 h2 => (o1 x (Nat.lt_of_lt_of_le h1 hS.1)).trans (hS.2.1 x h1 h2), hS.2.2⟩
  have g2 := k2 p e R s m args below meth c H1 locs (cells + 1) (slots + N) mc ms ls ⟨⟨hx, hb, hml, hown, hts0⟩, hM, ⟨r1, r2, r3, r4, by omega, by omega⟩, hls, hR.push e1 z1 o1, hK, g1, hC⟩
  rw [hz]
  exact g2
theorem am_newl {n : Int32} {N k1 u1 : Nat} (hd : decode M.2.1 pc = .ok (.newarray .long, 2)) (hw : Cond.arrayClass .long ∈ lw_g) (hn : ¬ n < 0) (hN : n.toNatClampNeg = N) (hbytes : N * 8 ≤ 536870912) (hk : k1 + 1 ≤ k) (hu : u1 + N ≤ u) (k2 : Tr l G M d k1 u1 (pc + 2) lv (.ref (gz G + h.length) :: rest) (h ++ [.inl (2, N, .inr (.inl (fun _ => 0)))]) Q) : Tr l G M d k u pc lv (.int n :: rest) h Q := by
  intro p e R s m args below meth c H locs cells slots mc ms ls F
  obtain ⟨⟨hx, hb, hml, hown, hts0⟩, hM, ⟨r1, r2, r3, r4, r5, r6⟩, hls, hR, hK, hS, hC⟩ := F
  have hts : ∀ w ∈ lw_g, w.before args s = true := fun w hw => hts0 w (List.mem_cons_of_mem _ hw)
  refine va_newaK (atype := .long) hx hb (hts _ hw) rfl hd rfl hn hN hbytes (by omega) (by omega) rfl fun H1 cA e1 z1 o1 hAr hNm => ?_
  have hz : H.size = gz G + h.length := hR.2
  have hz9 : H.size ≤ H1.size := by omega
  have hcA : cA = gc G 2 := Option.some.inj (hNm.symm.trans (hK.2 2 _ rfl).2)
  subst hcA
  have g1 : va_S (gA G) s.heap H1 locs := ⟨Nat.le_trans hS.1 hz9, fun x h1 h2 => (o1 x (Nat.lt_of_lt_of_le h1 hS.1)).trans (hS.2.1 x h1 h2), hS.2.2⟩
  have g2 := k2 p e R s m args below meth c H1 locs (cells + 1) (slots + N) mc ms ls ⟨⟨hx, hb, hml, hown, hts0⟩, hM, ⟨r1, r2, r3, r4, by omega, by omega⟩, hls, hR.push e1 z1 o1, hK, g1, hC⟩
  rw [hz]
  exact g2
/-- an array of plants -/
theorem am_newq {n : Int32} {idx N k1 u1 : Nat} (hd : decode M.2.1 pc = .ok (.anewarray idx, 3)) (hw : Cond.classLink M.1.cls idx RX5 ∈ lw_g) (hn : ¬ n < 0) (hN : n.toNatClampNeg = N) (hbytes : N * 4 ≤ 536870912) (hk : k1 + 1 ≤ k) (hu : u1 + N ≤ u) (k2 : Tr l G M d k1 u1 (pc + 3) lv (.ref (gz G + h.length) :: rest) (h ++ [.inl (3, N, .inr (.inr (.inr (.inr (fun _ => none)))))]) Q) : Tr l G M d k u pc lv (.int n :: rest) h Q := by
  intro p e R s m args below meth c H locs cells slots mc ms ls F
  obtain ⟨⟨hx, hb, hml, hown, hts0⟩, hM, ⟨r1, r2, r3, r4, r5, r6⟩, hls, hR, hK, hS, hC⟩ := F
  have hts : ∀ w ∈ lw_g, w.before args s = true := fun w hw => hts0 w (List.mem_cons_of_mem _ hw)
  subst hN
  refine W.anew hx hb hown (hts _ hw) (va_AO.use hC.2.2.2.2.2.1) rfl hd rfl hn hbytes (by omega) (by omega) fun cA kA comp f1 f2 f3 f4 => ?_
  have hz : H.size = gz G + h.length := hR.2
  have hcA : cA = gc G 3 := by
    obtain ⟨kA', comp', g1, g2, g3, g4⟩ := (hK.2 3 _ rfl).2
    exact Option.some.inj (f1.symm.trans g4)
  subst hcA
  generalize hH1 : H.push ({ cls := gc G 3, slots := Array.replicate n.toNatClampNeg .null, vm := .none } : Cell) = H1
  have z1 : H1.size = H.size + 1 := by rw [← hH1, Array.size_push]
  have e1 : H1[H.size]? = some (arrV (gc G 3) n.toNatClampNeg (fun _ => .null)) := by rw [← hH1, Array.getElem?_push_size, ← arrV_new]
  have o1 : ∀ q : Nat, q < H.size → H1[q]? = H[q]? := fun q hq => by rw [← hH1, Array.getElem?_push, if_neg (Nat.ne_of_lt hq)]
  have hz9 : H.size ≤ H1.size := by omega
  have g1 : va_S (gA G) s.heap H1 locs := ⟨Nat.le_trans hS.1 hz9, fun x h1 h2 => (o1 x (Nat.lt_of_lt_of_le h1 hS.1)).trans (hS.2.1 x h1 h2), hS.2.2⟩
  have g2 := k2 p e R s m args below meth c H1 locs (cells + 1) (slots + n.toNatClampNeg) mc ms ls ⟨⟨hx, hb, hml, hown, hts0⟩, hM, ⟨r1, r2, r3, r4, by omega, by omega⟩, hls, hR.push (show H1[H.size]? = some (vp_cell _ _) by rw [vp_cell_q]; exact e1) z1 o1, hK, g1, hC⟩
  rw [hz]
  exact g2
theorem am_aast {i j n : Nat} {f : Nat → Option Nat} {x : Int32} {fs : List Value} (hd : decode M.2.1 pc = .ok (.aastore, 1)) (hh : h[i]? = some (.inl (3, n, .inr (.inr (.inr (.inr f)))))) (hj : h[j]? = some (.inr (6, fs))) (hin : vp_in x n) (k1 : Tr l G M d k u (pc + 1) lv rest (h.set i (.inl (3, n, .inr (.inr (.inr (.inr (va_up f x.toNatClampNeg (some (gz G + j))))))))) Q) : Tr l G M d k u pc lv (.ref (gz G + j) :: .int x :: .ref (gz G + i) :: rest) h Q := by
  intro p e R s m args below meth c H locs cells slots mc ms ls F
  obtain ⟨hF, hM, hr, hls, hR, hK, hS, hC⟩ := F
  have hlt : x.toNatClampNeg < n := Nat.not_le.mp fun q => hin (Or.inr q)
  have h0 : ¬ x < 0 := fun q => hin (Or.inl q)
  have ha := wz_i (G := G) hh
  obtain ⟨r', hr', cellV, g1, g2, g3, -⟩ := hR.1 j _ (wz_i (G := G) hj)
  have hcls := (hK.1 6 _ rfl).2
  obtain ⟨kA, comp, k1', k2, k3, -⟩ := (hK.2 3 _ rfl).2
  have hcomp : comp = (gD G).1 6 := Option.some.inj (k3.symm.trans hcls.1)
  subst hcomp
  obtain ⟨kC, hkC, -⟩ := hcls.2
  refine W.aast hF.1 hF.2.1 (hR.1 i _ ha) (fun q h => by cases h) (fun h => by cases h) k1' k2 rfl hkC ⟨h0, by show _ < (arrV _ _ _).slots.size; rw [arrV_size]; exact hlt⟩ g1 (fun q h => by rw [g3] at h; cases h) (by rw [g2]; exact hkC) (by rw [g2]; exact va_assign hcls) rfl rfl hd fun H1 e1 z oq => ?_
  refine k1 p e R s m args below meth c H1 _ cells slots mc ms ls ⟨hF, hM, hr, hls, hR.put hh ?_ z oq, hK, hS.put z oq (Nat.le_add_right _ _), hC⟩
  show H1[gz G + i]? = some (vp_cell _ _)
  rw [e1]
  show some ((vp_cell (gc G 3) (n, .inr (.inr (.inr (.inr f))))).setSlot _ _) = some (vp_cell (gc G 3) (n, .inr (.inr (.inr (.inr (va_up f x.toNatClampNeg (some (gz G + j))))))))
  rw [vp_cell_q, vp_cell_q, arrV_store]
  congr 2
  funext q
  by_cases hq : q = x.toNatClampNeg
  · subst hq
    simp [updV, va_up, va_rf]
  · simp [updV, va_up, hq]
end TRC
