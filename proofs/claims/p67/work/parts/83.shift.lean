/-! An object may lie anywhere: the contracts speak of places counted from a base; here the base is moved. -/
def GS (G : GM) (B : Nat) : GM := (gz G + B, G.2)
theorem gs_z (G : GM) (B : Nat) : gz (GS G B) = gz G + B := rfl
theorem gs_0 (G : GM) : GS G 0 = G := rfl
theorem gs_A {G : GM} {B q : Nat} (h : gA (GS G B) q) : gA G q := Nat.le_trans (Nat.le_add_right _ _) h
theorem os_O {E : String} {t : Nat} {A A1 : Nat → Prop} {U : State} {H : Heap} (h : va_O E t A U H) (hA : ∀ q, A1 q → A q) : va_O E t A1 U H := by
  obtain ⟨c, h1, h2, h3, h4⟩ := h
  exact ⟨c, h1, h2, h3, fun z => h4 (hA _ z)⟩
theorem os_OF {o n d : String} {v : Value} {t : Nat} {A A1 : Nat → Prop} {U : State} {H : Heap} (h : va_OF o n d v t A U H) (hA : ∀ q, A1 q → A q) : va_OF o n d v t A1 U H := by
  obtain ⟨c, k, i, f, cell, h1, h2, h3, h4, h5, h6⟩ := h
  exact ⟨c, k, i, f, cell, h1, h2, h3, h4, h5, fun z => h6 (hA _ z)⟩
theorem os_T {ty : FieldType} {t N : Nat} {f : Nat → Value} {A A1 : Nat → Prop} {U : State} {H : Heap} (h : va_T ty t N f A U H) (hA : ∀ q, A1 q → A q) : va_T ty t N f A1 U H := by
  obtain ⟨c, h1, h2, h3, h4, h5, h6, h7⟩ := h
  exact ⟨c, h1, h2, h3, h4, h5, h6, fun z => h7 (hA _ z)⟩
theorem os_Z {C n d : String} {v : Value} {A A1 : Nat → Prop} {U : State} {H : Heap} (h : va_Z C n d v A U H) (hA : ∀ q, A1 q → A q) : va_Z C n d v A1 U H := by
  obtain ⟨a, b, c, d, e, f, h1, h2, h3, h4, h5, h6, h7, h8⟩ := h
  exact ⟨a, b, c, d, e, f, h1, h2, h3, h4, h5, h6, h7, fun z => h8 (hA _ z)⟩
theorem CX.up {G : GM} {B : Nat} {U : State} {H : Heap} (h : CX G U H) : CX (GS G B) U H := by
  obtain ⟨h1, ⟨h2, h3, h4, h5, h6, h7⟩, h8, h9, h10, h11, h12, h13, h14⟩ := h
  have hA : ∀ q, gA (GS G B) q → gA G q := fun q => gs_A
  refine ⟨fun j q hj => ?_, ⟨os_Z h2 hA, os_Z h3 hA, os_T h4 hA, os_Z h5 hA, os_T h6 hA, os_Z h7 hA⟩, h8, ?_, h10, h11, os_Z h12 hA, os_T h13 hA, h14⟩
  · obtain ⟨a1, a2, a3, a4, a5⟩ := h1 j q hj
    exact ⟨a1, os_O a2 hA, os_OF a3 hA, os_OF a4 hA, os_T a5 hA⟩
  · show gB G < gz G + B
    omega
theorem Rep.up {G : GM} {B : Nat} {h : List va_E} {H : Heap} (hB : B ≤ h.length) (hR : Rep G h H) : Rep (GS G B) (h.drop B) H := by
  refine ⟨fun k q hk => ?_, ?_⟩
  · refine hR.1 (B + k) q ?_
    rw [wz_get] at hk ⊢
    rw [List.getElem?_drop] at hk
    rw [← hk]
    show _ = Option.map (fun e => (gz G + B + k, cvE (gc G) e)) _
    rw [Nat.add_assoc]
  · rw [hR.2, List.length_drop]
    show gz G + h.length = gz G + B + (h.length - B)
    omega
theorem va_at.keep {D : va_G} {cl : List vw_C} {q : Nat × va_E} {H H1 : Heap} (h : va_at D cl q H) (e : H1[q.1]? = H[q.1]?) : va_at D cl q H1 := by
  have h2 : va_P D cl [q] H := fun k r hk => by
    cases k with
    | zero => cases hk; exact h
    | succ k => cases hk
  exact (h2.kept (H1 := H1) (fun k r hk => by
    cases k with
    | zero => cases hk; exact e
    | succ k => cases hk)) 0 q rfl
theorem Rep.down {G : GM} {B : Nat} {h h2 : List va_E} {H H1 : Heap} (hB : B ≤ h.length) (hR : Rep G h H) (hR2 : Rep (GS G B) h2 H1) (oq : ∀ q : Nat, q < H.size → ¬ gA (GS G B) q → H1[q]? = H[q]?) : Rep G (h.take B ++ h2) H1 := by
  have hl : (h.take B).length = B := by rw [List.length_take]; omega
  refine ⟨fun k q hk => ?_, ?_⟩
  · rw [wz_get] at hk
    by_cases c : k < B
    · rw [List.getElem?_append_left (by omega), List.getElem?_take_of_lt c] at hk
      have hk2 : (wz (gc G) (gz G) h)[k]? = some q := by rw [wz_get]; exact hk
      have e := wz_at hk2
      have hz := hR.2
      refine va_at.keep (hR.1 k q hk2) (oq _ (by omega) ?_)
      show ¬ gz G + B ≤ q.1
      omega
    · rw [List.getElem?_append_right (by omega), hl] at hk
      refine hR2.1 (k - B) q ?_
      rw [wz_get, ← hk]
      show Option.map (fun e => (gz G + B + (k - B), cvE (gc G) e)) _ = _
      rw [show gz G + B + (k - B) = gz G + k by omega]
  · rw [hR2.2, List.length_append, hl]
    show gz G + B + h2.length = _
    omega
/-- a contract as a caller sees it -/
def Cm (l : Launch) (G : GM) (M : MD) (d k u : Nat) (As : List Value) (h : List va_E) (Q : Option Value → List va_E → Prop) : Prop := Met l M.1 (wsM M) ({ frames := d, cells := k, slots := u, locals := 40 * d }) (PcG G As h) (QcG G Q) k u (gA G)
theorem Ct.m {l : Launch} {G : GM} {M : MD} {d k u n : Nat} {As : List Value} {h : List va_E} {Q : Option Value → List va_E → Prop} (hc : Ct l G M d k u As h Q) (hM : okC M n) (hlen : (lg_sl As).length ≤ M.2.2.1 := by exact Nat.le_of_ble_eq_true rfl) : Cm l G M d k u As h Q := met_of hc hM.2.2.1 hlen
theorem Cm.post {l : Launch} {G : GM} {M : MD} {d k u : Nat} {As : List Value} {h : List va_E} {Q Q2 : Option Value → List va_E → Prop} (hc : Cm l G M d k u As h Q) (hq : ∀ v h1, Q v h1 → Q2 v h1) : Cm l G M d k u As h Q2 := by
  intro p e ha hc1 hc2 s m args below hf hap hP hK
  obtain ⟨n, o, a1, a2, a3, ⟨⟨⟨v, h1, e1, e2, e3⟩, e4⟩, e5⟩⟩ := hc p e ha hc1 hc2 s m args below hf hap hP hK
  exact ⟨n, o, a1, a2, a3, ⟨⟨v, h1, e1, hq v h1 e2, e3⟩, e4⟩, e5⟩
theorem Cm.shift {l : Launch} {G : GM} {M : MD} {d k u B : Nat} {As : List Value} {h : List va_E} {Q : Option Value → List va_E → Prop} (hB : B ≤ h.length) (hc : Cm l (GS G B) M d k u As (h.drop B) Q) : Cm l G M d k u As h (fun v h1 => ∃ h2, h1 = h.take B ++ h2 ∧ Q v h2) := by
  intro p e ha hc1 hc2 s m args below hf hap hP hK
  obtain ⟨p1, p2, p3, p4⟩ := id hP
  have hP2 : PcG (GS G B) As (h.drop B) args s := ⟨p1, p2.up hB, p3, p4.up⟩
  obtain ⟨n, o, a1, a2, a3, ⟨⟨⟨v, h1, e1, e2, e3⟩, e4⟩, L, f1, f2⟩⟩ := hc p e ha hc1 hc2 s m args below hf hap hP2 hK
  exact ⟨n, o, a1, a2, a3, ⟨⟨v, h.take B ++ h1, e1, ⟨h1, rfl, e2⟩, Rep.down hB p2 e3 e4.2⟩, e4.1, fun q hq hn => e4.2 q hq (fun z => hn (gs_A z))⟩, L, f1, fun q hq => gs_A (f2 q hq)⟩
