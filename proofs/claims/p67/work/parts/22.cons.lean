/-! Constructors. -/
section CON
variable {l : Launch} {G : GM} {M : MD} {d k u pc : Nat} {lv lv' : List (Nat × Value)} {rest : List Value} {h : List va_E} {Q : Option Value → List va_E → Prop}
theorem hs_push {a : Nat} {c e : va_E} (h0 : h[a]? = some c) : (h ++ [e])[a]? = some c := by
  rw [List.getElem?_append_left (List.getElem?_eq_some_iff.mp h0).1]; exact h0
theorem hs_newc {n : Nat} {e : va_E} (hl : h.length = n) : (h ++ [e])[n]? = some e := by subst hl; simp
theorem ln_push {n n1 : Nat} {e : va_E} (hl : h.length = n) (hn : n + 1 = n1) : (h ++ [e]).length = n1 := by subst hl; subst hn; simp
theorem ln_set {n a : Nat} {c : va_E} (hl : h.length = n) : (h.set a c).length = n := by rw [List.length_set]; exact hl
theorem lo_push {h0 : List va_E} {b n : Nat} {e : va_E} (hf : ∀ a, a < b → h[a]? = h0[a]?) (hl : h.length = n) (hb : b ≤ n) : ∀ a, a < b → (h ++ [e])[a]? = h0[a]? := fun a ha => by
  rw [List.getElem?_append_left (by omega)]; exact hf a ha
theorem lo_set {h0 : List va_E} {b a : Nat} {c : va_E} (hf : ∀ a, a < b → h[a]? = h0[a]?) (hb : b ≤ a) : ∀ q, q < b → (h.set a c)[q]? = h0[q]? := fun q hq => by
  rw [List.getElem?_set_ne (by omega)]; exact hf q hq
theorem lo_tr {h0 h1 : List va_E} {b b1 : Nat} (hf : ∀ a, a < b → h[a]? = h0[a]?) (hg : ∀ a, a < b1 → h1[a]? = h[a]?) (hb : b ≤ b1) : ∀ a, a < b → h1[a]? = h0[a]? := fun a ha => (hg a (by omega)).trans (hf a ha)
theorem PlantAt.push {b : Nat} {p : Pl} {e : va_E} (hp : PlantAt G h b p) : PlantAt G (h ++ [e]) b p := fun k hk => hs_push (hp k hk)
theorem PlantAt.low {h1 : List va_E} {b b1 : Nat} {p : Pl} (hp : PlantAt G h b p) (hf : ∀ a, a < b1 → h1[a]? = h[a]?) (hb : b + 16 ≤ b1) : PlantAt G h1 b p := fun k hk => (hf _ (by omega)).trans (hp k hk)
theorem am_newL {idx ci N k1 u1 n : Nat} {fs : List Value} (hl : h.length = n) (hd : decode M.2.1 pc = .ok (.new idx, 3)) (hN : okN M.1.cls idx ci N fs) (hk : k1 + 1 ≤ k) (hu : u1 + N ≤ u) (k2 : Tr l G M d k1 u1 (pc + 3) lv (.ref (gz G + n) :: rest) (h ++ [.inr (ci, fs)]) Q) : Tr l G M d k u pc lv rest h Q := by
  subst hl; exact am_new hd hN hk hu k2
theorem am_newiL {m : Int32} {N k1 u1 n : Nat} (hl : h.length = n) (hd : decode M.2.1 pc = .ok (.newarray .int, 2)) (hw : Cond.arrayClass .int ∈ lw_g) (hn : ¬ m < 0) (hN : m.toNatClampNeg = N) (hbytes : N * 4 ≤ 536870912) (hk : k1 + 1 ≤ k) (hu : u1 + N ≤ u) (k2 : Tr l G M d k1 u1 (pc + 2) lv (.ref (gz G + n) :: rest) (h ++ [.inl (0, N, .inl (fun _ => 0))]) Q) : Tr l G M d k u pc lv (.int m :: rest) h Q := by
  subst hl; exact am_newi hd hw hn hN hbytes hk hu k2
theorem am_newbL {m : Int32} {N k1 u1 n : Nat} (hl : h.length = n) (hd : decode M.2.1 pc = .ok (.newarray .byte, 2)) (hw : Cond.arrayClass .byte ∈ lw_g) (hn : ¬ m < 0) (hN : m.toNatClampNeg = N) (hbytes : N * 1 ≤ 536870912) (hk : k1 + 1 ≤ k) (hu : u1 + N ≤ u) (k2 : Tr l G M d k1 u1 (pc + 2) lv (.ref (gz G + n) :: rest) (h ++ [.inl (1, N, .inl (fun _ => 0))]) Q) : Tr l G M d k u pc lv (.int m :: rest) h Q := by
  subst hl; exact am_newb hd hw hn hN hbytes hk hu k2
theorem am_newlL {m : Int32} {N k1 u1 n : Nat} (hl : h.length = n) (hd : decode M.2.1 pc = .ok (.newarray .long, 2)) (hw : Cond.arrayClass .long ∈ lw_g) (hn : ¬ m < 0) (hN : m.toNatClampNeg = N) (hbytes : N * 8 ≤ 536870912) (hk : k1 + 1 ≤ k) (hu : u1 + N ≤ u) (k2 : Tr l G M d k1 u1 (pc + 2) lv (.ref (gz G + n) :: rest) (h ++ [.inl (2, N, .inr (.inl (fun _ => 0)))]) Q) : Tr l G M d k u pc lv (.int m :: rest) h Q := by
  subst hl; exact am_newl hd hw hn hN hbytes hk hu k2
theorem am_newqL {m : Int32} {idx N k1 u1 n : Nat} (hl : h.length = n) (hd : decode M.2.1 pc = .ok (.anewarray idx, 3)) (hw : Cond.classLink M.1.cls idx RX5 ∈ lw_g) (hn : ¬ m < 0) (hN : m.toNatClampNeg = N) (hbytes : N * 4 ≤ 536870912) (hk : k1 + 1 ≤ k) (hu : u1 + N ≤ u) (k2 : Tr l G M d k1 u1 (pc + 3) lv (.ref (gz G + n) :: rest) (h ++ [.inl (3, N, .inr (.inr (.inr (.inr (fun _ => none)))))]) Q) : Tr l G M d k u pc lv (.int m :: rest) h Q := by
  subst hl; exact am_newq hd hw hn hN hbytes hk hu k2
end CON
def plz : Pl := (fun _ => 0, fun _ _ => 0)
theorem pl_mk {G : GM} {h : List va_E} {b : Nat} (c0 : h[b]? = some (plC (gz G) b plz 0)) (c1 : h[b + 1]? = some (plC (gz G) b plz 1)) (c2 : h[b + 2]? = some (plC (gz G) b plz 2)) (c3 : h[b + 3]? = some (plC (gz G) b plz 3)) (c4 : h[b + 4]? = some (plC (gz G) b plz 4)) (c5 : h[b + 5]? = some (plC (gz G) b plz 5)) (c6 : h[b + 6]? = some (plC (gz G) b plz 6)) (c7 : h[b + 7]? = some (plC (gz G) b plz 7)) (c8 : h[b + 8]? = some (plC (gz G) b plz 8)) (c9 : h[b + 9]? = some (plC (gz G) b plz 9)) (c10 : h[b + 10]? = some (plC (gz G) b plz 10)) (c11 : h[b + 11]? = some (plC (gz G) b plz 11)) (c12 : h[b + 12]? = some (plC (gz G) b plz 12)) (c13 : h[b + 13]? = some (plC (gz G) b plz 13)) (c14 : h[b + 14]? = some (plC (gz G) b plz 14)) (c15 : h[b + 15]? = some (plC (gz G) b plz 15)) : PlantAt G h b plz := by
  intro k hk
  match k, hk with
  | 0, _ => exact c0
  | 1, _ => exact c1
  | 2, _ => exact c2
  | 3, _ => exact c3
  | 4, _ => exact c4
  | 5, _ => exact c5
  | 6, _ => exact c6
  | 7, _ => exact c7
  | 8, _ => exact c8
  | 9, _ => exact c9
  | 10, _ => exact c10
  | 11, _ => exact c11
  | 12, _ => exact c12
  | 13, _ => exact c13
  | 14, _ => exact c14
  | 15, _ => exact c15
  | k + 16, hk => omega
def plE : Pl := fX5_makeEmpty plz
theorem dX0_init_0 : decode cX0_init 0 = .ok (.aload_n 0, 1) := by decide +kernel
theorem dX0_init_1 : decode cX0_init 1 = .ok (.invokespecial 3, 3) := by decide +kernel
theorem dX0_init_4 : decode cX0_init 4 = .ok (.aload_n 0, 1) := by decide +kernel
theorem dX0_init_5 : decode cX0_init 5 = .ok (.bipush 6, 2) := by decide +kernel
theorem dX0_init_7 : decode cX0_init 7 = .ok (.newarray .int, 2) := by decide +kernel
theorem dX0_init_9 : decode cX0_init 9 = .ok (.putfield 9, 3) := by decide +kernel
theorem dX0_init_12 : decode cX0_init 12 = .ok (.aload_n 0, 1) := by decide +kernel
theorem dX0_init_13 : decode cX0_init 13 = .ok (.bipush 6, 2) := by decide +kernel
theorem dX0_init_15 : decode cX0_init 15 = .ok (.newarray .int, 2) := by decide +kernel
theorem dX0_init_17 : decode cX0_init 17 = .ok (.putfield 15, 3) := by decide +kernel
theorem dX0_init_20 : decode cX0_init 20 = .ok (.aload_n 0, 1) := by decide +kernel
theorem dX0_init_21 : decode cX0_init 21 = .ok (.bipush 6, 2) := by decide +kernel
theorem dX0_init_23 : decode cX0_init 23 = .ok (.newarray .int, 2) := by decide +kernel
theorem dX0_init_25 : decode cX0_init 25 = .ok (.putfield 18, 3) := by decide +kernel
theorem dX0_init_28 : decode cX0_init 28 = .ok (.aload_n 0, 1) := by decide +kernel
theorem dX0_init_29 : decode cX0_init 29 = .ok (.bipush 8, 2) := by decide +kernel
theorem dX0_init_31 : decode cX0_init 31 = .ok (.newarray .int, 2) := by decide +kernel
theorem dX0_init_33 : decode cX0_init 33 = .ok (.putfield 21, 3) := by decide +kernel
theorem dX0_init_36 : decode cX0_init 36 = .ok (.aload_n 0, 1) := by decide +kernel
theorem dX0_init_37 : decode cX0_init 37 = .ok (.bipush 8, 2) := by decide +kernel
theorem dX0_init_39 : decode cX0_init 39 = .ok (.newarray .int, 2) := by decide +kernel
theorem dX0_init_41 : decode cX0_init 41 = .ok (.putfield 24, 3) := by decide +kernel
theorem dX0_init_44 : decode cX0_init 44 = .ok (.aload_n 0, 1) := by decide +kernel
theorem dX0_init_45 : decode cX0_init 45 = .ok (.bipush 6, 2) := by decide +kernel
theorem dX0_init_47 : decode cX0_init 47 = .ok (.newarray .int, 2) := by decide +kernel
theorem dX0_init_49 : decode cX0_init 49 = .ok (.putfield 27, 3) := by decide +kernel
theorem dX0_init_52 : decode cX0_init 52 = .ok (.aload_n 0, 1) := by decide +kernel
theorem dX0_init_53 : decode cX0_init 53 = .ok (.bipush 6, 2) := by decide +kernel
theorem dX0_init_55 : decode cX0_init 55 = .ok (.newarray .int, 2) := by decide +kernel
theorem dX0_init_57 : decode cX0_init 57 = .ok (.putfield 30, 3) := by decide +kernel
theorem dX0_init_60 : decode cX0_init 60 = .ok (.aload_n 0, 1) := by decide +kernel
theorem dX0_init_61 : decode cX0_init 61 = .ok (.bipush 6, 2) := by decide +kernel
theorem dX0_init_63 : decode cX0_init 63 = .ok (.newarray .int, 2) := by decide +kernel
theorem dX0_init_65 : decode cX0_init 65 = .ok (.putfield 33, 3) := by decide +kernel
theorem dX0_init_68 : decode cX0_init 68 = .ok (.return_, 1) := by decide +kernel
set_option maxRecDepth 20000 in
theorem ctX0_init {l : Launch} {G : GM} {b : Nat} {h : List va_E} (hl : h.length = (b + 1)) (hc : h[b]? = some (.inr (1, [.int 0, .int 0, .int 0, .null, .null, .null, .null, .null, .null, .null, .null]))) : Ct l G mX0_init 1 8 52 [.ref (gz G + b)] h (fun v h1 => v = none ∧ h1.length = (b + 9) ∧ (∀ a, a < b → h1[a]? = h[a]?) ∧ h1[b]? = some (.inr (1, [.int 0, .int 0, .int 0, .ref (gz G + (b + 1)), .ref (gz G + (b + 2)), .ref (gz G + (b + 3)), .ref (gz G + (b + 4)), .ref (gz G + (b + 5)), .ref (gz G + (b + 6)), .ref (gz G + (b + 7)), .ref (gz G + (b + 8))])) ∧ h1[(b + 1)]? = some (.inl (0, 6, .inl (fun _ => 0))) ∧ h1[(b + 2)]? = some (.inl (0, 6, .inl (fun _ => 0))) ∧ h1[(b + 3)]? = some (.inl (0, 6, .inl (fun _ => 0))) ∧ h1[(b + 4)]? = some (.inl (0, 8, .inl (fun _ => 0))) ∧ h1[(b + 5)]? = some (.inl (0, 8, .inl (fun _ => 0))) ∧ h1[(b + 6)]? = some (.inl (0, 6, .inl (fun _ => 0))) ∧ h1[(b + 7)]? = some (.inl (0, 6, .inl (fun _ => 0))) ∧ h1[(b + 8)]? = some (.inl (0, 6, .inl (fun _ => 0)))) := by
  show Tr l G mX0_init 1 8 52 0 [(0, .ref (gz G + b))] [] h _
  have hf : ∀ a, a < b → h[a]? = h[a]? := fun _ _ => rfl
  refine am_aload_n dX0_init_0 0 rfl ?_
  refine am_objInit dX0_init_1 kXX0_3 kOi.1 kOi.2 (Nat.le_of_ble_eq_true rfl) (by decide) ?_
  refine am_aload_n dX0_init_4 0 rfl ?_
  refine am_bipush (v := 6) dX0_init_5 (by decide) ?_
  refine am_newiL hl (k1 := 7) (u1 := 46) (N := 6) dX0_init_7 kAI (by decide) rfl (by decide) (by decide) (by decide) ?_
  have w1 := hs_push hc (e := .inl (0, 6, .inl (fun _ => 0)))
  have w2 := hs_newc hl (e := .inl (0, 6, .inl (fun _ => 0)))
  have w3 := lo_push hf hl (e := .inl (0, 6, .inl (fun _ => 0))) (by omega)
  have w4 := ln_push hl (e := .inl (0, 6, .inl (fun _ => 0))) (show (b + 1) + 1 = (b + 2) from rfl)
  refine am_putF dX0_init_9 kFX0_9 rfl w1 (Nat.le_of_ble_eq_true rfl) rfl rfl ?_
  have w6 := ln_set w4 (a := b) (c := .inr (1, [.int 0, .int 0, .int 0, .ref (gz G + (b + 1)), .null, .null, .null, .null, .null, .null, .null]))
  have w7 := lo_set w3 (a := b) (c := .inr (1, [.int 0, .int 0, .int 0, .ref (gz G + (b + 1)), .null, .null, .null, .null, .null, .null, .null])) (by omega)
  have w8 := hs_ne (a := b) (c1 := .inr (1, [.int 0, .int 0, .int 0, .ref (gz G + (b + 1)), .null, .null, .null, .null, .null, .null, .null])) w2 (by omega)
  have w5 := hs_self (c1 := .inr (1, [.int 0, .int 0, .int 0, .ref (gz G + (b + 1)), .null, .null, .null, .null, .null, .null, .null])) w1
  refine am_aload_n dX0_init_12 0 rfl ?_
  refine am_bipush (v := 6) dX0_init_13 (by decide) ?_
  refine am_newiL w6 (k1 := 6) (u1 := 40) (N := 6) dX0_init_15 kAI (by decide) rfl (by decide) (by decide) (by decide) ?_
  have w9 := hs_push w5 (e := .inl (0, 6, .inl (fun _ => 0)))
  have w10 := hs_push w8 (e := .inl (0, 6, .inl (fun _ => 0)))
  have w11 := hs_newc w6 (e := .inl (0, 6, .inl (fun _ => 0)))
  have w12 := lo_push w7 w6 (e := .inl (0, 6, .inl (fun _ => 0))) (by omega)
  have w13 := ln_push w6 (e := .inl (0, 6, .inl (fun _ => 0))) (show (b + 2) + 1 = (b + 3) from rfl)
  refine am_putF dX0_init_17 kFX0_15 rfl w9 (Nat.le_of_ble_eq_true rfl) rfl rfl ?_
  have w15 := ln_set w13 (a := b) (c := .inr (1, [.int 0, .int 0, .int 0, .ref (gz G + (b + 1)), .ref (gz G + (b + 2)), .null, .null, .null, .null, .null, .null]))
  have w16 := lo_set w12 (a := b) (c := .inr (1, [.int 0, .int 0, .int 0, .ref (gz G + (b + 1)), .ref (gz G + (b + 2)), .null, .null, .null, .null, .null, .null])) (by omega)
  have w17 := hs_ne (a := b) (c1 := .inr (1, [.int 0, .int 0, .int 0, .ref (gz G + (b + 1)), .ref (gz G + (b + 2)), .null, .null, .null, .null, .null, .null])) w10 (by omega)
  have w18 := hs_ne (a := b) (c1 := .inr (1, [.int 0, .int 0, .int 0, .ref (gz G + (b + 1)), .ref (gz G + (b + 2)), .null, .null, .null, .null, .null, .null])) w11 (by omega)
  have w14 := hs_self (c1 := .inr (1, [.int 0, .int 0, .int 0, .ref (gz G + (b + 1)), .ref (gz G + (b + 2)), .null, .null, .null, .null, .null, .null])) w9
  refine am_aload_n dX0_init_20 0 rfl ?_
  refine am_bipush (v := 6) dX0_init_21 (by decide) ?_
  refine am_newiL w15 (k1 := 5) (u1 := 34) (N := 6) dX0_init_23 kAI (by decide) rfl (by decide) (by decide) (by decide) ?_
  have w19 := hs_push w14 (e := .inl (0, 6, .inl (fun _ => 0)))
  have w20 := hs_push w17 (e := .inl (0, 6, .inl (fun _ => 0)))
  have w21 := hs_push w18 (e := .inl (0, 6, .inl (fun _ => 0)))
  have w22 := hs_newc w15 (e := .inl (0, 6, .inl (fun _ => 0)))
  have w23 := lo_push w16 w15 (e := .inl (0, 6, .inl (fun _ => 0))) (by omega)
  have w24 := ln_push w15 (e := .inl (0, 6, .inl (fun _ => 0))) (show (b + 3) + 1 = (b + 4) from rfl)
  refine am_putF dX0_init_25 kFX0_18 rfl w19 (Nat.le_of_ble_eq_true rfl) rfl rfl ?_
  have w26 := ln_set w24 (a := b) (c := .inr (1, [.int 0, .int 0, .int 0, .ref (gz G + (b + 1)), .ref (gz G + (b + 2)), .ref (gz G + (b + 3)), .null, .null, .null, .null, .null]))
  have w27 := lo_set w23 (a := b) (c := .inr (1, [.int 0, .int 0, .int 0, .ref (gz G + (b + 1)), .ref (gz G + (b + 2)), .ref (gz G + (b + 3)), .null, .null, .null, .null, .null])) (by omega)
  have w28 := hs_ne (a := b) (c1 := .inr (1, [.int 0, .int 0, .int 0, .ref (gz G + (b + 1)), .ref (gz G + (b + 2)), .ref (gz G + (b + 3)), .null, .null, .null, .null, .null])) w20 (by omega)
  have w29 := hs_ne (a := b) (c1 := .inr (1, [.int 0, .int 0, .int 0, .ref (gz G + (b + 1)), .ref (gz G + (b + 2)), .ref (gz G + (b + 3)), .null, .null, .null, .null, .null])) w21 (by omega)
  have w30 := hs_ne (a := b) (c1 := .inr (1, [.int 0, .int 0, .int 0, .ref (gz G + (b + 1)), .ref (gz G + (b + 2)), .ref (gz G + (b + 3)), .null, .null, .null, .null, .null])) w22 (by omega)
  have w25 := hs_self (c1 := .inr (1, [.int 0, .int 0, .int 0, .ref (gz G + (b + 1)), .ref (gz G + (b + 2)), .ref (gz G + (b + 3)), .null, .null, .null, .null, .null])) w19
  refine am_aload_n dX0_init_28 0 rfl ?_
  refine am_bipush (v := 8) dX0_init_29 (by decide) ?_
  refine am_newiL w26 (k1 := 4) (u1 := 26) (N := 8) dX0_init_31 kAI (by decide) rfl (by decide) (by decide) (by decide) ?_
  have w31 := hs_push w25 (e := .inl (0, 8, .inl (fun _ => 0)))
  have w32 := hs_push w28 (e := .inl (0, 8, .inl (fun _ => 0)))
  have w33 := hs_push w29 (e := .inl (0, 8, .inl (fun _ => 0)))
  have w34 := hs_push w30 (e := .inl (0, 8, .inl (fun _ => 0)))
  have w35 := hs_newc w26 (e := .inl (0, 8, .inl (fun _ => 0)))
  have w36 := lo_push w27 w26 (e := .inl (0, 8, .inl (fun _ => 0))) (by omega)
  have w37 := ln_push w26 (e := .inl (0, 8, .inl (fun _ => 0))) (show (b + 4) + 1 = (b + 5) from rfl)
  refine am_putF dX0_init_33 kFX0_21 rfl w31 (Nat.le_of_ble_eq_true rfl) rfl rfl ?_
  have w39 := ln_set w37 (a := b) (c := .inr (1, [.int 0, .int 0, .int 0, .ref (gz G + (b + 1)), .ref (gz G + (b + 2)), .ref (gz G + (b + 3)), .ref (gz G + (b + 4)), .null, .null, .null, .null]))
  have w40 := lo_set w36 (a := b) (c := .inr (1, [.int 0, .int 0, .int 0, .ref (gz G + (b + 1)), .ref (gz G + (b + 2)), .ref (gz G + (b + 3)), .ref (gz G + (b + 4)), .null, .null, .null, .null])) (by omega)
  have w41 := hs_ne (a := b) (c1 := .inr (1, [.int 0, .int 0, .int 0, .ref (gz G + (b + 1)), .ref (gz G + (b + 2)), .ref (gz G + (b + 3)), .ref (gz G + (b + 4)), .null, .null, .null, .null])) w32 (by omega)
  have w42 := hs_ne (a := b) (c1 := .inr (1, [.int 0, .int 0, .int 0, .ref (gz G + (b + 1)), .ref (gz G + (b + 2)), .ref (gz G + (b + 3)), .ref (gz G + (b + 4)), .null, .null, .null, .null])) w33 (by omega)
  have w43 := hs_ne (a := b) (c1 := .inr (1, [.int 0, .int 0, .int 0, .ref (gz G + (b + 1)), .ref (gz G + (b + 2)), .ref (gz G + (b + 3)), .ref (gz G + (b + 4)), .null, .null, .null, .null])) w34 (by omega)
  have w44 := hs_ne (a := b) (c1 := .inr (1, [.int 0, .int 0, .int 0, .ref (gz G + (b + 1)), .ref (gz G + (b + 2)), .ref (gz G + (b + 3)), .ref (gz G + (b + 4)), .null, .null, .null, .null])) w35 (by omega)
  have w38 := hs_self (c1 := .inr (1, [.int 0, .int 0, .int 0, .ref (gz G + (b + 1)), .ref (gz G + (b + 2)), .ref (gz G + (b + 3)), .ref (gz G + (b + 4)), .null, .null, .null, .null])) w31
  refine am_aload_n dX0_init_36 0 rfl ?_
  refine am_bipush (v := 8) dX0_init_37 (by decide) ?_
  refine am_newiL w39 (k1 := 3) (u1 := 18) (N := 8) dX0_init_39 kAI (by decide) rfl (by decide) (by decide) (by decide) ?_
  have w45 := hs_push w38 (e := .inl (0, 8, .inl (fun _ => 0)))
  have w46 := hs_push w41 (e := .inl (0, 8, .inl (fun _ => 0)))
  have w47 := hs_push w42 (e := .inl (0, 8, .inl (fun _ => 0)))
  have w48 := hs_push w43 (e := .inl (0, 8, .inl (fun _ => 0)))
  have w49 := hs_push w44 (e := .inl (0, 8, .inl (fun _ => 0)))
  have w50 := hs_newc w39 (e := .inl (0, 8, .inl (fun _ => 0)))
  have w51 := lo_push w40 w39 (e := .inl (0, 8, .inl (fun _ => 0))) (by omega)
  have w52 := ln_push w39 (e := .inl (0, 8, .inl (fun _ => 0))) (show (b + 5) + 1 = (b + 6) from rfl)
  refine am_putF dX0_init_41 kFX0_24 rfl w45 (Nat.le_of_ble_eq_true rfl) rfl rfl ?_
  have w54 := ln_set w52 (a := b) (c := .inr (1, [.int 0, .int 0, .int 0, .ref (gz G + (b + 1)), .ref (gz G + (b + 2)), .ref (gz G + (b + 3)), .ref (gz G + (b + 4)), .ref (gz G + (b + 5)), .null, .null, .null]))
  have w55 := lo_set w51 (a := b) (c := .inr (1, [.int 0, .int 0, .int 0, .ref (gz G + (b + 1)), .ref (gz G + (b + 2)), .ref (gz G + (b + 3)), .ref (gz G + (b + 4)), .ref (gz G + (b + 5)), .null, .null, .null])) (by omega)
  have w56 := hs_ne (a := b) (c1 := .inr (1, [.int 0, .int 0, .int 0, .ref (gz G + (b + 1)), .ref (gz G + (b + 2)), .ref (gz G + (b + 3)), .ref (gz G + (b + 4)), .ref (gz G + (b + 5)), .null, .null, .null])) w46 (by omega)
  have w57 := hs_ne (a := b) (c1 := .inr (1, [.int 0, .int 0, .int 0, .ref (gz G + (b + 1)), .ref (gz G + (b + 2)), .ref (gz G + (b + 3)), .ref (gz G + (b + 4)), .ref (gz G + (b + 5)), .null, .null, .null])) w47 (by omega)
  have w58 := hs_ne (a := b) (c1 := .inr (1, [.int 0, .int 0, .int 0, .ref (gz G + (b + 1)), .ref (gz G + (b + 2)), .ref (gz G + (b + 3)), .ref (gz G + (b + 4)), .ref (gz G + (b + 5)), .null, .null, .null])) w48 (by omega)
  have w59 := hs_ne (a := b) (c1 := .inr (1, [.int 0, .int 0, .int 0, .ref (gz G + (b + 1)), .ref (gz G + (b + 2)), .ref (gz G + (b + 3)), .ref (gz G + (b + 4)), .ref (gz G + (b + 5)), .null, .null, .null])) w49 (by omega)
  have w60 := hs_ne (a := b) (c1 := .inr (1, [.int 0, .int 0, .int 0, .ref (gz G + (b + 1)), .ref (gz G + (b + 2)), .ref (gz G + (b + 3)), .ref (gz G + (b + 4)), .ref (gz G + (b + 5)), .null, .null, .null])) w50 (by omega)
  have w53 := hs_self (c1 := .inr (1, [.int 0, .int 0, .int 0, .ref (gz G + (b + 1)), .ref (gz G + (b + 2)), .ref (gz G + (b + 3)), .ref (gz G + (b + 4)), .ref (gz G + (b + 5)), .null, .null, .null])) w45
  refine am_aload_n dX0_init_44 0 rfl ?_
  refine am_bipush (v := 6) dX0_init_45 (by decide) ?_
  refine am_newiL w54 (k1 := 2) (u1 := 12) (N := 6) dX0_init_47 kAI (by decide) rfl (by decide) (by decide) (by decide) ?_
  have w61 := hs_push w53 (e := .inl (0, 6, .inl (fun _ => 0)))
  have w62 := hs_push w56 (e := .inl (0, 6, .inl (fun _ => 0)))
  have w63 := hs_push w57 (e := .inl (0, 6, .inl (fun _ => 0)))
  have w64 := hs_push w58 (e := .inl (0, 6, .inl (fun _ => 0)))
  have w65 := hs_push w59 (e := .inl (0, 6, .inl (fun _ => 0)))
  have w66 := hs_push w60 (e := .inl (0, 6, .inl (fun _ => 0)))
  have w67 := hs_newc w54 (e := .inl (0, 6, .inl (fun _ => 0)))
  have w68 := lo_push w55 w54 (e := .inl (0, 6, .inl (fun _ => 0))) (by omega)
  have w69 := ln_push w54 (e := .inl (0, 6, .inl (fun _ => 0))) (show (b + 6) + 1 = (b + 7) from rfl)
  refine am_putF dX0_init_49 kFX0_27 rfl w61 (Nat.le_of_ble_eq_true rfl) rfl rfl ?_
  have w71 := ln_set w69 (a := b) (c := .inr (1, [.int 0, .int 0, .int 0, .ref (gz G + (b + 1)), .ref (gz G + (b + 2)), .ref (gz G + (b + 3)), .ref (gz G + (b + 4)), .ref (gz G + (b + 5)), .ref (gz G + (b + 6)), .null, .null]))
  have w72 := lo_set w68 (a := b) (c := .inr (1, [.int 0, .int 0, .int 0, .ref (gz G + (b + 1)), .ref (gz G + (b + 2)), .ref (gz G + (b + 3)), .ref (gz G + (b + 4)), .ref (gz G + (b + 5)), .ref (gz G + (b + 6)), .null, .null])) (by omega)
  have w73 := hs_ne (a := b) (c1 := .inr (1, [.int 0, .int 0, .int 0, .ref (gz G + (b + 1)), .ref (gz G + (b + 2)), .ref (gz G + (b + 3)), .ref (gz G + (b + 4)), .ref (gz G + (b + 5)), .ref (gz G + (b + 6)), .null, .null])) w62 (by omega)
  have w74 := hs_ne (a := b) (c1 := .inr (1, [.int 0, .int 0, .int 0, .ref (gz G + (b + 1)), .ref (gz G + (b + 2)), .ref (gz G + (b + 3)), .ref (gz G + (b + 4)), .ref (gz G + (b + 5)), .ref (gz G + (b + 6)), .null, .null])) w63 (by omega)
  have w75 := hs_ne (a := b) (c1 := .inr (1, [.int 0, .int 0, .int 0, .ref (gz G + (b + 1)), .ref (gz G + (b + 2)), .ref (gz G + (b + 3)), .ref (gz G + (b + 4)), .ref (gz G + (b + 5)), .ref (gz G + (b + 6)), .null, .null])) w64 (by omega)
  have w76 := hs_ne (a := b) (c1 := .inr (1, [.int 0, .int 0, .int 0, .ref (gz G + (b + 1)), .ref (gz G + (b + 2)), .ref (gz G + (b + 3)), .ref (gz G + (b + 4)), .ref (gz G + (b + 5)), .ref (gz G + (b + 6)), .null, .null])) w65 (by omega)
  have w77 := hs_ne (a := b) (c1 := .inr (1, [.int 0, .int 0, .int 0, .ref (gz G + (b + 1)), .ref (gz G + (b + 2)), .ref (gz G + (b + 3)), .ref (gz G + (b + 4)), .ref (gz G + (b + 5)), .ref (gz G + (b + 6)), .null, .null])) w66 (by omega)
  have w78 := hs_ne (a := b) (c1 := .inr (1, [.int 0, .int 0, .int 0, .ref (gz G + (b + 1)), .ref (gz G + (b + 2)), .ref (gz G + (b + 3)), .ref (gz G + (b + 4)), .ref (gz G + (b + 5)), .ref (gz G + (b + 6)), .null, .null])) w67 (by omega)
  have w70 := hs_self (c1 := .inr (1, [.int 0, .int 0, .int 0, .ref (gz G + (b + 1)), .ref (gz G + (b + 2)), .ref (gz G + (b + 3)), .ref (gz G + (b + 4)), .ref (gz G + (b + 5)), .ref (gz G + (b + 6)), .null, .null])) w61
  refine am_aload_n dX0_init_52 0 rfl ?_
  refine am_bipush (v := 6) dX0_init_53 (by decide) ?_
  refine am_newiL w71 (k1 := 1) (u1 := 6) (N := 6) dX0_init_55 kAI (by decide) rfl (by decide) (by decide) (by decide) ?_
  have w79 := hs_push w70 (e := .inl (0, 6, .inl (fun _ => 0)))
  have w80 := hs_push w73 (e := .inl (0, 6, .inl (fun _ => 0)))
  have w81 := hs_push w74 (e := .inl (0, 6, .inl (fun _ => 0)))
  have w82 := hs_push w75 (e := .inl (0, 6, .inl (fun _ => 0)))
  have w83 := hs_push w76 (e := .inl (0, 6, .inl (fun _ => 0)))
  have w84 := hs_push w77 (e := .inl (0, 6, .inl (fun _ => 0)))
  have w85 := hs_push w78 (e := .inl (0, 6, .inl (fun _ => 0)))
  have w86 := hs_newc w71 (e := .inl (0, 6, .inl (fun _ => 0)))
  have w87 := lo_push w72 w71 (e := .inl (0, 6, .inl (fun _ => 0))) (by omega)
  have w88 := ln_push w71 (e := .inl (0, 6, .inl (fun _ => 0))) (show (b + 7) + 1 = (b + 8) from rfl)
  refine am_putF dX0_init_57 kFX0_30 rfl w79 (Nat.le_of_ble_eq_true rfl) rfl rfl ?_
  have w90 := ln_set w88 (a := b) (c := .inr (1, [.int 0, .int 0, .int 0, .ref (gz G + (b + 1)), .ref (gz G + (b + 2)), .ref (gz G + (b + 3)), .ref (gz G + (b + 4)), .ref (gz G + (b + 5)), .ref (gz G + (b + 6)), .ref (gz G + (b + 7)), .null]))
  have w91 := lo_set w87 (a := b) (c := .inr (1, [.int 0, .int 0, .int 0, .ref (gz G + (b + 1)), .ref (gz G + (b + 2)), .ref (gz G + (b + 3)), .ref (gz G + (b + 4)), .ref (gz G + (b + 5)), .ref (gz G + (b + 6)), .ref (gz G + (b + 7)), .null])) (by omega)
  have w92 := hs_ne (a := b) (c1 := .inr (1, [.int 0, .int 0, .int 0, .ref (gz G + (b + 1)), .ref (gz G + (b + 2)), .ref (gz G + (b + 3)), .ref (gz G + (b + 4)), .ref (gz G + (b + 5)), .ref (gz G + (b + 6)), .ref (gz G + (b + 7)), .null])) w80 (by omega)
  have w93 := hs_ne (a := b) (c1 := .inr (1, [.int 0, .int 0, .int 0, .ref (gz G + (b + 1)), .ref (gz G + (b + 2)), .ref (gz G + (b + 3)), .ref (gz G + (b + 4)), .ref (gz G + (b + 5)), .ref (gz G + (b + 6)), .ref (gz G + (b + 7)), .null])) w81 (by omega)
  have w94 := hs_ne (a := b) (c1 := .inr (1, [.int 0, .int 0, .int 0, .ref (gz G + (b + 1)), .ref (gz G + (b + 2)), .ref (gz G + (b + 3)), .ref (gz G + (b + 4)), .ref (gz G + (b + 5)), .ref (gz G + (b + 6)), .ref (gz G + (b + 7)), .null])) w82 (by omega)
  have w95 := hs_ne (a := b) (c1 := .inr (1, [.int 0, .int 0, .int 0, .ref (gz G + (b + 1)), .ref (gz G + (b + 2)), .ref (gz G + (b + 3)), .ref (gz G + (b + 4)), .ref (gz G + (b + 5)), .ref (gz G + (b + 6)), .ref (gz G + (b + 7)), .null])) w83 (by omega)
  have w96 := hs_ne (a := b) (c1 := .inr (1, [.int 0, .int 0, .int 0, .ref (gz G + (b + 1)), .ref (gz G + (b + 2)), .ref (gz G + (b + 3)), .ref (gz G + (b + 4)), .ref (gz G + (b + 5)), .ref (gz G + (b + 6)), .ref (gz G + (b + 7)), .null])) w84 (by omega)
  have w97 := hs_ne (a := b) (c1 := .inr (1, [.int 0, .int 0, .int 0, .ref (gz G + (b + 1)), .ref (gz G + (b + 2)), .ref (gz G + (b + 3)), .ref (gz G + (b + 4)), .ref (gz G + (b + 5)), .ref (gz G + (b + 6)), .ref (gz G + (b + 7)), .null])) w85 (by omega)
  have w98 := hs_ne (a := b) (c1 := .inr (1, [.int 0, .int 0, .int 0, .ref (gz G + (b + 1)), .ref (gz G + (b + 2)), .ref (gz G + (b + 3)), .ref (gz G + (b + 4)), .ref (gz G + (b + 5)), .ref (gz G + (b + 6)), .ref (gz G + (b + 7)), .null])) w86 (by omega)
  have w89 := hs_self (c1 := .inr (1, [.int 0, .int 0, .int 0, .ref (gz G + (b + 1)), .ref (gz G + (b + 2)), .ref (gz G + (b + 3)), .ref (gz G + (b + 4)), .ref (gz G + (b + 5)), .ref (gz G + (b + 6)), .ref (gz G + (b + 7)), .null])) w79
  refine am_aload_n dX0_init_60 0 rfl ?_
  refine am_bipush (v := 6) dX0_init_61 (by decide) ?_
  refine am_newiL w90 (k1 := 0) (u1 := 0) (N := 6) dX0_init_63 kAI (by decide) rfl (by decide) (by decide) (by decide) ?_
  have w99 := hs_push w89 (e := .inl (0, 6, .inl (fun _ => 0)))
  have w100 := hs_push w92 (e := .inl (0, 6, .inl (fun _ => 0)))
  have w101 := hs_push w93 (e := .inl (0, 6, .inl (fun _ => 0)))
  have w102 := hs_push w94 (e := .inl (0, 6, .inl (fun _ => 0)))
  have w103 := hs_push w95 (e := .inl (0, 6, .inl (fun _ => 0)))
  have w104 := hs_push w96 (e := .inl (0, 6, .inl (fun _ => 0)))
  have w105 := hs_push w97 (e := .inl (0, 6, .inl (fun _ => 0)))
  have w106 := hs_push w98 (e := .inl (0, 6, .inl (fun _ => 0)))
  have w107 := hs_newc w90 (e := .inl (0, 6, .inl (fun _ => 0)))
  have w108 := lo_push w91 w90 (e := .inl (0, 6, .inl (fun _ => 0))) (by omega)
  have w109 := ln_push w90 (e := .inl (0, 6, .inl (fun _ => 0))) (show (b + 8) + 1 = (b + 9) from rfl)
  refine am_putF dX0_init_65 kFX0_33 rfl w99 (Nat.le_of_ble_eq_true rfl) rfl rfl ?_
  have w111 := ln_set w109 (a := b) (c := .inr (1, [.int 0, .int 0, .int 0, .ref (gz G + (b + 1)), .ref (gz G + (b + 2)), .ref (gz G + (b + 3)), .ref (gz G + (b + 4)), .ref (gz G + (b + 5)), .ref (gz G + (b + 6)), .ref (gz G + (b + 7)), .ref (gz G + (b + 8))]))
  have w112 := lo_set w108 (a := b) (c := .inr (1, [.int 0, .int 0, .int 0, .ref (gz G + (b + 1)), .ref (gz G + (b + 2)), .ref (gz G + (b + 3)), .ref (gz G + (b + 4)), .ref (gz G + (b + 5)), .ref (gz G + (b + 6)), .ref (gz G + (b + 7)), .ref (gz G + (b + 8))])) (by omega)
  have w113 := hs_ne (a := b) (c1 := .inr (1, [.int 0, .int 0, .int 0, .ref (gz G + (b + 1)), .ref (gz G + (b + 2)), .ref (gz G + (b + 3)), .ref (gz G + (b + 4)), .ref (gz G + (b + 5)), .ref (gz G + (b + 6)), .ref (gz G + (b + 7)), .ref (gz G + (b + 8))])) w100 (by omega)
  have w114 := hs_ne (a := b) (c1 := .inr (1, [.int 0, .int 0, .int 0, .ref (gz G + (b + 1)), .ref (gz G + (b + 2)), .ref (gz G + (b + 3)), .ref (gz G + (b + 4)), .ref (gz G + (b + 5)), .ref (gz G + (b + 6)), .ref (gz G + (b + 7)), .ref (gz G + (b + 8))])) w101 (by omega)
  have w115 := hs_ne (a := b) (c1 := .inr (1, [.int 0, .int 0, .int 0, .ref (gz G + (b + 1)), .ref (gz G + (b + 2)), .ref (gz G + (b + 3)), .ref (gz G + (b + 4)), .ref (gz G + (b + 5)), .ref (gz G + (b + 6)), .ref (gz G + (b + 7)), .ref (gz G + (b + 8))])) w102 (by omega)
  have w116 := hs_ne (a := b) (c1 := .inr (1, [.int 0, .int 0, .int 0, .ref (gz G + (b + 1)), .ref (gz G + (b + 2)), .ref (gz G + (b + 3)), .ref (gz G + (b + 4)), .ref (gz G + (b + 5)), .ref (gz G + (b + 6)), .ref (gz G + (b + 7)), .ref (gz G + (b + 8))])) w103 (by omega)
  have w117 := hs_ne (a := b) (c1 := .inr (1, [.int 0, .int 0, .int 0, .ref (gz G + (b + 1)), .ref (gz G + (b + 2)), .ref (gz G + (b + 3)), .ref (gz G + (b + 4)), .ref (gz G + (b + 5)), .ref (gz G + (b + 6)), .ref (gz G + (b + 7)), .ref (gz G + (b + 8))])) w104 (by omega)
  have w118 := hs_ne (a := b) (c1 := .inr (1, [.int 0, .int 0, .int 0, .ref (gz G + (b + 1)), .ref (gz G + (b + 2)), .ref (gz G + (b + 3)), .ref (gz G + (b + 4)), .ref (gz G + (b + 5)), .ref (gz G + (b + 6)), .ref (gz G + (b + 7)), .ref (gz G + (b + 8))])) w105 (by omega)
  have w119 := hs_ne (a := b) (c1 := .inr (1, [.int 0, .int 0, .int 0, .ref (gz G + (b + 1)), .ref (gz G + (b + 2)), .ref (gz G + (b + 3)), .ref (gz G + (b + 4)), .ref (gz G + (b + 5)), .ref (gz G + (b + 6)), .ref (gz G + (b + 7)), .ref (gz G + (b + 8))])) w106 (by omega)
  have w120 := hs_ne (a := b) (c1 := .inr (1, [.int 0, .int 0, .int 0, .ref (gz G + (b + 1)), .ref (gz G + (b + 2)), .ref (gz G + (b + 3)), .ref (gz G + (b + 4)), .ref (gz G + (b + 5)), .ref (gz G + (b + 6)), .ref (gz G + (b + 7)), .ref (gz G + (b + 8))])) w107 (by omega)
  have w110 := hs_self (c1 := .inr (1, [.int 0, .int 0, .int 0, .ref (gz G + (b + 1)), .ref (gz G + (b + 2)), .ref (gz G + (b + 3)), .ref (gz G + (b + 4)), .ref (gz G + (b + 5)), .ref (gz G + (b + 6)), .ref (gz G + (b + 7)), .ref (gz G + (b + 8))])) w99
  exact am_return dX0_init_68 rfl ⟨rfl, w111, w112, w110, w113, w114, w115, w116, w117, w118, w119, w120⟩

theorem dX5_init_0 : decode cX5_init 0 = .ok (.aload_n 0, 1) := by decide +kernel
theorem dX5_init_1 : decode cX5_init 1 = .ok (.invokespecial 3, 3) := by decide +kernel
theorem dX5_init_4 : decode cX5_init 4 = .ok (.aload_n 0, 1) := by decide +kernel
theorem dX5_init_5 : decode cX5_init 5 = .ok (.new 9, 3) := by decide +kernel
theorem dX5_init_8 : decode cX5_init 8 = .ok (.dup, 1) := by decide +kernel
theorem dX5_init_9 : decode cX5_init 9 = .ok (.invokespecial 11, 3) := by decide +kernel
theorem dX5_init_12 : decode cX5_init 12 = .ok (.putfield 12, 3) := by decide +kernel
theorem dX5_init_15 : decode cX5_init 15 = .ok (.aload_n 0, 1) := by decide +kernel
theorem dX5_init_16 : decode cX5_init 16 = .ok (.bipush 14, 2) := by decide +kernel
theorem dX5_init_18 : decode cX5_init 18 = .ok (.newarray .int, 2) := by decide +kernel
theorem dX5_init_20 : decode cX5_init 20 = .ok (.putfield 18, 3) := by decide +kernel
theorem dX5_init_23 : decode cX5_init 23 = .ok (.aload_n 0, 1) := by decide +kernel
theorem dX5_init_24 : decode cX5_init 24 = .ok (.bipush 14, 2) := by decide +kernel
theorem dX5_init_26 : decode cX5_init 26 = .ok (.newarray .int, 2) := by decide +kernel
theorem dX5_init_28 : decode cX5_init 28 = .ok (.putfield 22, 3) := by decide +kernel
theorem dX5_init_31 : decode cX5_init 31 = .ok (.aload_n 0, 1) := by decide +kernel
theorem dX5_init_32 : decode cX5_init 32 = .ok (.bipush 14, 2) := by decide +kernel
theorem dX5_init_34 : decode cX5_init 34 = .ok (.newarray .int, 2) := by decide +kernel
theorem dX5_init_36 : decode cX5_init 36 = .ok (.putfield 25, 3) := by decide +kernel
theorem dX5_init_39 : decode cX5_init 39 = .ok (.aload_n 0, 1) := by decide +kernel
theorem dX5_init_40 : decode cX5_init 40 = .ok (.bipush 14, 2) := by decide +kernel
theorem dX5_init_42 : decode cX5_init 42 = .ok (.newarray .int, 2) := by decide +kernel
theorem dX5_init_44 : decode cX5_init 44 = .ok (.putfield 28, 3) := by decide +kernel
theorem dX5_init_47 : decode cX5_init 47 = .ok (.aload_n 0, 1) := by decide +kernel
theorem dX5_init_48 : decode cX5_init 48 = .ok (.bipush 14, 2) := by decide +kernel
theorem dX5_init_50 : decode cX5_init 50 = .ok (.newarray .int, 2) := by decide +kernel
theorem dX5_init_52 : decode cX5_init 52 = .ok (.putfield 31, 3) := by decide +kernel
theorem dX5_init_55 : decode cX5_init 55 = .ok (.aload_n 0, 1) := by decide +kernel
theorem dX5_init_56 : decode cX5_init 56 = .ok (.bipush 14, 2) := by decide +kernel
theorem dX5_init_58 : decode cX5_init 58 = .ok (.newarray .int, 2) := by decide +kernel
theorem dX5_init_60 : decode cX5_init 60 = .ok (.putfield 34, 3) := by decide +kernel
theorem dX5_init_63 : decode cX5_init 63 = .ok (.aload_n 0, 1) := by decide +kernel
theorem dX5_init_64 : decode cX5_init 64 = .ok (.invokevirtual 37, 3) := by decide +kernel
theorem dX5_init_67 : decode cX5_init 67 = .ok (.return_, 1) := by decide +kernel
set_option maxHeartbeats 8000000 in
set_option maxRecDepth 20000 in
theorem ctX5_init {l : Launch} {G : GM} {b : Nat} {h : List va_E} (hl : h.length = (b + 1)) (hc : h[b]? = some (.inr (6, [.null, .int 0, .int 0, .int 0, .int 0, .int 0, .int 0, .null, .null, .null, .null, .null, .null]))) : Ct l G mX5_init 2 15 147 [.ref (gz G + b)] h (fun v h1 => v = none ∧ h1.length = (b + 16) ∧ (∀ a, a < b → h1[a]? = h[a]?) ∧ PlantAt G h1 b plE) := by
  show Tr l G mX5_init 2 15 147 0 [(0, .ref (gz G + b))] [] h _
  have hf : ∀ a, a < b → h[a]? = h[a]? := fun _ _ => rfl
  refine am_aload_n dX5_init_0 0 rfl ?_
  refine am_objInit dX5_init_1 kXX5_3 kOi.1 kOi.2 (Nat.le_of_ble_eq_true rfl) (by decide) ?_
  refine am_aload_n dX5_init_4 0 rfl ?_
  refine am_newL hl (k1 := 14) (u1 := 136) dX5_init_5 kNX5_9 (by decide) (by decide) ?_
  have w1 := hs_push hc (e := .inr (1, [.int 0, .int 0, .int 0, .null, .null, .null, .null, .null, .null, .null, .null]))
  have w2 := hs_newc hl (e := .inr (1, [.int 0, .int 0, .int 0, .null, .null, .null, .null, .null, .null, .null, .null]))
  have w3 := lo_push hf hl (e := .inr (1, [.int 0, .int 0, .int 0, .null, .null, .null, .null, .null, .null, .null, .null])) (by omega)
  have w4 := ln_push hl (e := .inr (1, [.int 0, .int 0, .int 0, .null, .null, .null, .null, .null, .null, .null, .null])) (show (b + 1) + 1 = (b + 2) from rfl)
  refine am_dup dX5_init_8 rfl ?_
  refine am_callI (As := []) (rest := [.ref (gz G + (b + 1)), .ref (gz G + b)]) dX5_init_9 kMX5_11 rfl  rfl (Nat.le_of_ble_eq_true rfl) (d2 := 1) (by decide) (k2 := 8) (by omega) (u2 := 52) (by omega) (Nat.le_of_ble_eq_true rfl) (ctX0_init w4 w2 ) (fun v5 h6 q7 => ?_)
  obtain ⟨rfl, w17, w18, w8, w9, w10, w11, w12, w13, w14, w15, w16⟩ := q7
  have w19 := (w18 _ (by omega)).trans w1
  have w20 := lo_tr w3 w18 (by omega)
  refine am_putF dX5_init_12 kFX5_12 rfl w19 (Nat.le_of_ble_eq_true rfl) rfl rfl ?_
  have w22 := ln_set w17 (a := b) (c := .inr (6, [.ref (gz G + (b + 1)), .int 0, .int 0, .int 0, .int 0, .int 0, .int 0, .null, .null, .null, .null, .null, .null]))
  have w23 := lo_set w20 (a := b) (c := .inr (6, [.ref (gz G + (b + 1)), .int 0, .int 0, .int 0, .int 0, .int 0, .int 0, .null, .null, .null, .null, .null, .null])) (by omega)
  have w24 := hs_ne (a := b) (c1 := .inr (6, [.ref (gz G + (b + 1)), .int 0, .int 0, .int 0, .int 0, .int 0, .int 0, .null, .null, .null, .null, .null, .null])) w8 (by omega)
  have w25 := hs_ne (a := b) (c1 := .inr (6, [.ref (gz G + (b + 1)), .int 0, .int 0, .int 0, .int 0, .int 0, .int 0, .null, .null, .null, .null, .null, .null])) w9 (by omega)
  have w26 := hs_ne (a := b) (c1 := .inr (6, [.ref (gz G + (b + 1)), .int 0, .int 0, .int 0, .int 0, .int 0, .int 0, .null, .null, .null, .null, .null, .null])) w10 (by omega)
  have w27 := hs_ne (a := b) (c1 := .inr (6, [.ref (gz G + (b + 1)), .int 0, .int 0, .int 0, .int 0, .int 0, .int 0, .null, .null, .null, .null, .null, .null])) w11 (by omega)
  have w28 := hs_ne (a := b) (c1 := .inr (6, [.ref (gz G + (b + 1)), .int 0, .int 0, .int 0, .int 0, .int 0, .int 0, .null, .null, .null, .null, .null, .null])) w12 (by omega)
  have w29 := hs_ne (a := b) (c1 := .inr (6, [.ref (gz G + (b + 1)), .int 0, .int 0, .int 0, .int 0, .int 0, .int 0, .null, .null, .null, .null, .null, .null])) w13 (by omega)
  have w30 := hs_ne (a := b) (c1 := .inr (6, [.ref (gz G + (b + 1)), .int 0, .int 0, .int 0, .int 0, .int 0, .int 0, .null, .null, .null, .null, .null, .null])) w14 (by omega)
  have w31 := hs_ne (a := b) (c1 := .inr (6, [.ref (gz G + (b + 1)), .int 0, .int 0, .int 0, .int 0, .int 0, .int 0, .null, .null, .null, .null, .null, .null])) w15 (by omega)
  have w32 := hs_ne (a := b) (c1 := .inr (6, [.ref (gz G + (b + 1)), .int 0, .int 0, .int 0, .int 0, .int 0, .int 0, .null, .null, .null, .null, .null, .null])) w16 (by omega)
  have w21 := hs_self (c1 := .inr (6, [.ref (gz G + (b + 1)), .int 0, .int 0, .int 0, .int 0, .int 0, .int 0, .null, .null, .null, .null, .null, .null])) w19
  refine am_aload_n dX5_init_15 0 rfl ?_
  refine am_bipush (v := 14) dX5_init_16 (by decide) ?_
  refine am_newiL w22 (k1 := 5) (u1 := 70) (N := 14) dX5_init_18 kAI (by decide) rfl (by decide) (by decide) (by decide) ?_
  have w33 := hs_push w21 (e := .inl (0, 14, .inl (fun _ => 0)))
  have w34 := hs_push w24 (e := .inl (0, 14, .inl (fun _ => 0)))
  have w35 := hs_push w25 (e := .inl (0, 14, .inl (fun _ => 0)))
  have w36 := hs_push w26 (e := .inl (0, 14, .inl (fun _ => 0)))
  have w37 := hs_push w27 (e := .inl (0, 14, .inl (fun _ => 0)))
  have w38 := hs_push w28 (e := .inl (0, 14, .inl (fun _ => 0)))
  have w39 := hs_push w29 (e := .inl (0, 14, .inl (fun _ => 0)))
  have w40 := hs_push w30 (e := .inl (0, 14, .inl (fun _ => 0)))
  have w41 := hs_push w31 (e := .inl (0, 14, .inl (fun _ => 0)))
  have w42 := hs_push w32 (e := .inl (0, 14, .inl (fun _ => 0)))
  have w43 := hs_newc w22 (e := .inl (0, 14, .inl (fun _ => 0)))
  have w44 := lo_push w23 w22 (e := .inl (0, 14, .inl (fun _ => 0))) (by omega)
  have w45 := ln_push w22 (e := .inl (0, 14, .inl (fun _ => 0))) (show (b + 10) + 1 = (b + 11) from rfl)
  refine am_putF dX5_init_20 kFX5_18 rfl w33 (Nat.le_of_ble_eq_true rfl) rfl rfl ?_
  have w47 := ln_set w45 (a := b) (c := .inr (6, [.ref (gz G + (b + 1)), .int 0, .int 0, .int 0, .int 0, .int 0, .int 0, .ref (gz G + (b + 10)), .null, .null, .null, .null, .null]))
  have w48 := lo_set w44 (a := b) (c := .inr (6, [.ref (gz G + (b + 1)), .int 0, .int 0, .int 0, .int 0, .int 0, .int 0, .ref (gz G + (b + 10)), .null, .null, .null, .null, .null])) (by omega)
  have w49 := hs_ne (a := b) (c1 := .inr (6, [.ref (gz G + (b + 1)), .int 0, .int 0, .int 0, .int 0, .int 0, .int 0, .ref (gz G + (b + 10)), .null, .null, .null, .null, .null])) w34 (by omega)
  have w50 := hs_ne (a := b) (c1 := .inr (6, [.ref (gz G + (b + 1)), .int 0, .int 0, .int 0, .int 0, .int 0, .int 0, .ref (gz G + (b + 10)), .null, .null, .null, .null, .null])) w35 (by omega)
  have w51 := hs_ne (a := b) (c1 := .inr (6, [.ref (gz G + (b + 1)), .int 0, .int 0, .int 0, .int 0, .int 0, .int 0, .ref (gz G + (b + 10)), .null, .null, .null, .null, .null])) w36 (by omega)
  have w52 := hs_ne (a := b) (c1 := .inr (6, [.ref (gz G + (b + 1)), .int 0, .int 0, .int 0, .int 0, .int 0, .int 0, .ref (gz G + (b + 10)), .null, .null, .null, .null, .null])) w37 (by omega)
  have w53 := hs_ne (a := b) (c1 := .inr (6, [.ref (gz G + (b + 1)), .int 0, .int 0, .int 0, .int 0, .int 0, .int 0, .ref (gz G + (b + 10)), .null, .null, .null, .null, .null])) w38 (by omega)
  have w54 := hs_ne (a := b) (c1 := .inr (6, [.ref (gz G + (b + 1)), .int 0, .int 0, .int 0, .int 0, .int 0, .int 0, .ref (gz G + (b + 10)), .null, .null, .null, .null, .null])) w39 (by omega)
  have w55 := hs_ne (a := b) (c1 := .inr (6, [.ref (gz G + (b + 1)), .int 0, .int 0, .int 0, .int 0, .int 0, .int 0, .ref (gz G + (b + 10)), .null, .null, .null, .null, .null])) w40 (by omega)
  have w56 := hs_ne (a := b) (c1 := .inr (6, [.ref (gz G + (b + 1)), .int 0, .int 0, .int 0, .int 0, .int 0, .int 0, .ref (gz G + (b + 10)), .null, .null, .null, .null, .null])) w41 (by omega)
  have w57 := hs_ne (a := b) (c1 := .inr (6, [.ref (gz G + (b + 1)), .int 0, .int 0, .int 0, .int 0, .int 0, .int 0, .ref (gz G + (b + 10)), .null, .null, .null, .null, .null])) w42 (by omega)
  have w58 := hs_ne (a := b) (c1 := .inr (6, [.ref (gz G + (b + 1)), .int 0, .int 0, .int 0, .int 0, .int 0, .int 0, .ref (gz G + (b + 10)), .null, .null, .null, .null, .null])) w43 (by omega)
  have w46 := hs_self (c1 := .inr (6, [.ref (gz G + (b + 1)), .int 0, .int 0, .int 0, .int 0, .int 0, .int 0, .ref (gz G + (b + 10)), .null, .null, .null, .null, .null])) w33
  refine am_aload_n dX5_init_23 0 rfl ?_
  refine am_bipush (v := 14) dX5_init_24 (by decide) ?_
  refine am_newiL w47 (k1 := 4) (u1 := 56) (N := 14) dX5_init_26 kAI (by decide) rfl (by decide) (by decide) (by decide) ?_
  have w59 := hs_push w46 (e := .inl (0, 14, .inl (fun _ => 0)))
  have w60 := hs_push w49 (e := .inl (0, 14, .inl (fun _ => 0)))
  have w61 := hs_push w50 (e := .inl (0, 14, .inl (fun _ => 0)))
  have w62 := hs_push w51 (e := .inl (0, 14, .inl (fun _ => 0)))
  have w63 := hs_push w52 (e := .inl (0, 14, .inl (fun _ => 0)))
  have w64 := hs_push w53 (e := .inl (0, 14, .inl (fun _ => 0)))
  have w65 := hs_push w54 (e := .inl (0, 14, .inl (fun _ => 0)))
  have w66 := hs_push w55 (e := .inl (0, 14, .inl (fun _ => 0)))
  have w67 := hs_push w56 (e := .inl (0, 14, .inl (fun _ => 0)))
  have w68 := hs_push w57 (e := .inl (0, 14, .inl (fun _ => 0)))
  have w69 := hs_push w58 (e := .inl (0, 14, .inl (fun _ => 0)))
  have w70 := hs_newc w47 (e := .inl (0, 14, .inl (fun _ => 0)))
  have w71 := lo_push w48 w47 (e := .inl (0, 14, .inl (fun _ => 0))) (by omega)
  have w72 := ln_push w47 (e := .inl (0, 14, .inl (fun _ => 0))) (show (b + 11) + 1 = (b + 12) from rfl)
  refine am_putF dX5_init_28 kFX5_22 rfl w59 (Nat.le_of_ble_eq_true rfl) rfl rfl ?_
  have w74 := ln_set w72 (a := b) (c := .inr (6, [.ref (gz G + (b + 1)), .int 0, .int 0, .int 0, .int 0, .int 0, .int 0, .ref (gz G + (b + 10)), .ref (gz G + (b + 11)), .null, .null, .null, .null]))
  have w75 := lo_set w71 (a := b) (c := .inr (6, [.ref (gz G + (b + 1)), .int 0, .int 0, .int 0, .int 0, .int 0, .int 0, .ref (gz G + (b + 10)), .ref (gz G + (b + 11)), .null, .null, .null, .null])) (by omega)
  have w76 := hs_ne (a := b) (c1 := .inr (6, [.ref (gz G + (b + 1)), .int 0, .int 0, .int 0, .int 0, .int 0, .int 0, .ref (gz G + (b + 10)), .ref (gz G + (b + 11)), .null, .null, .null, .null])) w60 (by omega)
  have w77 := hs_ne (a := b) (c1 := .inr (6, [.ref (gz G + (b + 1)), .int 0, .int 0, .int 0, .int 0, .int 0, .int 0, .ref (gz G + (b + 10)), .ref (gz G + (b + 11)), .null, .null, .null, .null])) w61 (by omega)
  have w78 := hs_ne (a := b) (c1 := .inr (6, [.ref (gz G + (b + 1)), .int 0, .int 0, .int 0, .int 0, .int 0, .int 0, .ref (gz G + (b + 10)), .ref (gz G + (b + 11)), .null, .null, .null, .null])) w62 (by omega)
  have w79 := hs_ne (a := b) (c1 := .inr (6, [.ref (gz G + (b + 1)), .int 0, .int 0, .int 0, .int 0, .int 0, .int 0, .ref (gz G + (b + 10)), .ref (gz G + (b + 11)), .null, .null, .null, .null])) w63 (by omega)
  have w80 := hs_ne (a := b) (c1 := .inr (6, [.ref (gz G + (b + 1)), .int 0, .int 0, .int 0, .int 0, .int 0, .int 0, .ref (gz G + (b + 10)), .ref (gz G + (b + 11)), .null, .null, .null, .null])) w64 (by omega)
  have w81 := hs_ne (a := b) (c1 := .inr (6, [.ref (gz G + (b + 1)), .int 0, .int 0, .int 0, .int 0, .int 0, .int 0, .ref (gz G + (b + 10)), .ref (gz G + (b + 11)), .null, .null, .null, .null])) w65 (by omega)
  have w82 := hs_ne (a := b) (c1 := .inr (6, [.ref (gz G + (b + 1)), .int 0, .int 0, .int 0, .int 0, .int 0, .int 0, .ref (gz G + (b + 10)), .ref (gz G + (b + 11)), .null, .null, .null, .null])) w66 (by omega)
  have w83 := hs_ne (a := b) (c1 := .inr (6, [.ref (gz G + (b + 1)), .int 0, .int 0, .int 0, .int 0, .int 0, .int 0, .ref (gz G + (b + 10)), .ref (gz G + (b + 11)), .null, .null, .null, .null])) w67 (by omega)
  have w84 := hs_ne (a := b) (c1 := .inr (6, [.ref (gz G + (b + 1)), .int 0, .int 0, .int 0, .int 0, .int 0, .int 0, .ref (gz G + (b + 10)), .ref (gz G + (b + 11)), .null, .null, .null, .null])) w68 (by omega)
  have w85 := hs_ne (a := b) (c1 := .inr (6, [.ref (gz G + (b + 1)), .int 0, .int 0, .int 0, .int 0, .int 0, .int 0, .ref (gz G + (b + 10)), .ref (gz G + (b + 11)), .null, .null, .null, .null])) w69 (by omega)
  have w86 := hs_ne (a := b) (c1 := .inr (6, [.ref (gz G + (b + 1)), .int 0, .int 0, .int 0, .int 0, .int 0, .int 0, .ref (gz G + (b + 10)), .ref (gz G + (b + 11)), .null, .null, .null, .null])) w70 (by omega)
  have w73 := hs_self (c1 := .inr (6, [.ref (gz G + (b + 1)), .int 0, .int 0, .int 0, .int 0, .int 0, .int 0, .ref (gz G + (b + 10)), .ref (gz G + (b + 11)), .null, .null, .null, .null])) w59
  refine am_aload_n dX5_init_31 0 rfl ?_
  refine am_bipush (v := 14) dX5_init_32 (by decide) ?_
  refine am_newiL w74 (k1 := 3) (u1 := 42) (N := 14) dX5_init_34 kAI (by decide) rfl (by decide) (by decide) (by decide) ?_
  have w87 := hs_push w73 (e := .inl (0, 14, .inl (fun _ => 0)))
  have w88 := hs_push w76 (e := .inl (0, 14, .inl (fun _ => 0)))
  have w89 := hs_push w77 (e := .inl (0, 14, .inl (fun _ => 0)))
  have w90 := hs_push w78 (e := .inl (0, 14, .inl (fun _ => 0)))
  have w91 := hs_push w79 (e := .inl (0, 14, .inl (fun _ => 0)))
  have w92 := hs_push w80 (e := .inl (0, 14, .inl (fun _ => 0)))
  have w93 := hs_push w81 (e := .inl (0, 14, .inl (fun _ => 0)))
  have w94 := hs_push w82 (e := .inl (0, 14, .inl (fun _ => 0)))
  have w95 := hs_push w83 (e := .inl (0, 14, .inl (fun _ => 0)))
  have w96 := hs_push w84 (e := .inl (0, 14, .inl (fun _ => 0)))
  have w97 := hs_push w85 (e := .inl (0, 14, .inl (fun _ => 0)))
  have w98 := hs_push w86 (e := .inl (0, 14, .inl (fun _ => 0)))
  have w99 := hs_newc w74 (e := .inl (0, 14, .inl (fun _ => 0)))
  have w100 := lo_push w75 w74 (e := .inl (0, 14, .inl (fun _ => 0))) (by omega)
  have w101 := ln_push w74 (e := .inl (0, 14, .inl (fun _ => 0))) (show (b + 12) + 1 = (b + 13) from rfl)
  refine am_putF dX5_init_36 kFX5_25 rfl w87 (Nat.le_of_ble_eq_true rfl) rfl rfl ?_
  have w103 := ln_set w101 (a := b) (c := .inr (6, [.ref (gz G + (b + 1)), .int 0, .int 0, .int 0, .int 0, .int 0, .int 0, .ref (gz G + (b + 10)), .ref (gz G + (b + 11)), .ref (gz G + (b + 12)), .null, .null, .null]))
  have w104 := lo_set w100 (a := b) (c := .inr (6, [.ref (gz G + (b + 1)), .int 0, .int 0, .int 0, .int 0, .int 0, .int 0, .ref (gz G + (b + 10)), .ref (gz G + (b + 11)), .ref (gz G + (b + 12)), .null, .null, .null])) (by omega)
  have w105 := hs_ne (a := b) (c1 := .inr (6, [.ref (gz G + (b + 1)), .int 0, .int 0, .int 0, .int 0, .int 0, .int 0, .ref (gz G + (b + 10)), .ref (gz G + (b + 11)), .ref (gz G + (b + 12)), .null, .null, .null])) w88 (by omega)
  have w106 := hs_ne (a := b) (c1 := .inr (6, [.ref (gz G + (b + 1)), .int 0, .int 0, .int 0, .int 0, .int 0, .int 0, .ref (gz G + (b + 10)), .ref (gz G + (b + 11)), .ref (gz G + (b + 12)), .null, .null, .null])) w89 (by omega)
  have w107 := hs_ne (a := b) (c1 := .inr (6, [.ref (gz G + (b + 1)), .int 0, .int 0, .int 0, .int 0, .int 0, .int 0, .ref (gz G + (b + 10)), .ref (gz G + (b + 11)), .ref (gz G + (b + 12)), .null, .null, .null])) w90 (by omega)
  have w108 := hs_ne (a := b) (c1 := .inr (6, [.ref (gz G + (b + 1)), .int 0, .int 0, .int 0, .int 0, .int 0, .int 0, .ref (gz G + (b + 10)), .ref (gz G + (b + 11)), .ref (gz G + (b + 12)), .null, .null, .null])) w91 (by omega)
  have w109 := hs_ne (a := b) (c1 := .inr (6, [.ref (gz G + (b + 1)), .int 0, .int 0, .int 0, .int 0, .int 0, .int 0, .ref (gz G + (b + 10)), .ref (gz G + (b + 11)), .ref (gz G + (b + 12)), .null, .null, .null])) w92 (by omega)
  have w110 := hs_ne (a := b) (c1 := .inr (6, [.ref (gz G + (b + 1)), .int 0, .int 0, .int 0, .int 0, .int 0, .int 0, .ref (gz G + (b + 10)), .ref (gz G + (b + 11)), .ref (gz G + (b + 12)), .null, .null, .null])) w93 (by omega)
  have w111 := hs_ne (a := b) (c1 := .inr (6, [.ref (gz G + (b + 1)), .int 0, .int 0, .int 0, .int 0, .int 0, .int 0, .ref (gz G + (b + 10)), .ref (gz G + (b + 11)), .ref (gz G + (b + 12)), .null, .null, .null])) w94 (by omega)
  have w112 := hs_ne (a := b) (c1 := .inr (6, [.ref (gz G + (b + 1)), .int 0, .int 0, .int 0, .int 0, .int 0, .int 0, .ref (gz G + (b + 10)), .ref (gz G + (b + 11)), .ref (gz G + (b + 12)), .null, .null, .null])) w95 (by omega)
  have w113 := hs_ne (a := b) (c1 := .inr (6, [.ref (gz G + (b + 1)), .int 0, .int 0, .int 0, .int 0, .int 0, .int 0, .ref (gz G + (b + 10)), .ref (gz G + (b + 11)), .ref (gz G + (b + 12)), .null, .null, .null])) w96 (by omega)
  have w114 := hs_ne (a := b) (c1 := .inr (6, [.ref (gz G + (b + 1)), .int 0, .int 0, .int 0, .int 0, .int 0, .int 0, .ref (gz G + (b + 10)), .ref (gz G + (b + 11)), .ref (gz G + (b + 12)), .null, .null, .null])) w97 (by omega)
  have w115 := hs_ne (a := b) (c1 := .inr (6, [.ref (gz G + (b + 1)), .int 0, .int 0, .int 0, .int 0, .int 0, .int 0, .ref (gz G + (b + 10)), .ref (gz G + (b + 11)), .ref (gz G + (b + 12)), .null, .null, .null])) w98 (by omega)
  have w116 := hs_ne (a := b) (c1 := .inr (6, [.ref (gz G + (b + 1)), .int 0, .int 0, .int 0, .int 0, .int 0, .int 0, .ref (gz G + (b + 10)), .ref (gz G + (b + 11)), .ref (gz G + (b + 12)), .null, .null, .null])) w99 (by omega)
  have w102 := hs_self (c1 := .inr (6, [.ref (gz G + (b + 1)), .int 0, .int 0, .int 0, .int 0, .int 0, .int 0, .ref (gz G + (b + 10)), .ref (gz G + (b + 11)), .ref (gz G + (b + 12)), .null, .null, .null])) w87
  refine am_aload_n dX5_init_39 0 rfl ?_
  refine am_bipush (v := 14) dX5_init_40 (by decide) ?_
  refine am_newiL w103 (k1 := 2) (u1 := 28) (N := 14) dX5_init_42 kAI (by decide) rfl (by decide) (by decide) (by decide) ?_
  have w117 := hs_push w102 (e := .inl (0, 14, .inl (fun _ => 0)))
  have w118 := hs_push w105 (e := .inl (0, 14, .inl (fun _ => 0)))
  have w119 := hs_push w106 (e := .inl (0, 14, .inl (fun _ => 0)))
  have w120 := hs_push w107 (e := .inl (0, 14, .inl (fun _ => 0)))
  have w121 := hs_push w108 (e := .inl (0, 14, .inl (fun _ => 0)))
  have w122 := hs_push w109 (e := .inl (0, 14, .inl (fun _ => 0)))
  have w123 := hs_push w110 (e := .inl (0, 14, .inl (fun _ => 0)))
  have w124 := hs_push w111 (e := .inl (0, 14, .inl (fun _ => 0)))
  have w125 := hs_push w112 (e := .inl (0, 14, .inl (fun _ => 0)))
  have w126 := hs_push w113 (e := .inl (0, 14, .inl (fun _ => 0)))
  have w127 := hs_push w114 (e := .inl (0, 14, .inl (fun _ => 0)))
  have w128 := hs_push w115 (e := .inl (0, 14, .inl (fun _ => 0)))
  have w129 := hs_push w116 (e := .inl (0, 14, .inl (fun _ => 0)))
  have w130 := hs_newc w103 (e := .inl (0, 14, .inl (fun _ => 0)))
  have w131 := lo_push w104 w103 (e := .inl (0, 14, .inl (fun _ => 0))) (by omega)
  have w132 := ln_push w103 (e := .inl (0, 14, .inl (fun _ => 0))) (show (b + 13) + 1 = (b + 14) from rfl)
  refine am_putF dX5_init_44 kFX5_28 rfl w117 (Nat.le_of_ble_eq_true rfl) rfl rfl ?_
  have w134 := ln_set w132 (a := b) (c := .inr (6, [.ref (gz G + (b + 1)), .int 0, .int 0, .int 0, .int 0, .int 0, .int 0, .ref (gz G + (b + 10)), .ref (gz G + (b + 11)), .ref (gz G + (b + 12)), .ref (gz G + (b + 13)), .null, .null]))
  have w135 := lo_set w131 (a := b) (c := .inr (6, [.ref (gz G + (b + 1)), .int 0, .int 0, .int 0, .int 0, .int 0, .int 0, .ref (gz G + (b + 10)), .ref (gz G + (b + 11)), .ref (gz G + (b + 12)), .ref (gz G + (b + 13)), .null, .null])) (by omega)
  have w136 := hs_ne (a := b) (c1 := .inr (6, [.ref (gz G + (b + 1)), .int 0, .int 0, .int 0, .int 0, .int 0, .int 0, .ref (gz G + (b + 10)), .ref (gz G + (b + 11)), .ref (gz G + (b + 12)), .ref (gz G + (b + 13)), .null, .null])) w118 (by omega)
  have w137 := hs_ne (a := b) (c1 := .inr (6, [.ref (gz G + (b + 1)), .int 0, .int 0, .int 0, .int 0, .int 0, .int 0, .ref (gz G + (b + 10)), .ref (gz G + (b + 11)), .ref (gz G + (b + 12)), .ref (gz G + (b + 13)), .null, .null])) w119 (by omega)
  have w138 := hs_ne (a := b) (c1 := .inr (6, [.ref (gz G + (b + 1)), .int 0, .int 0, .int 0, .int 0, .int 0, .int 0, .ref (gz G + (b + 10)), .ref (gz G + (b + 11)), .ref (gz G + (b + 12)), .ref (gz G + (b + 13)), .null, .null])) w120 (by omega)
  have w139 := hs_ne (a := b) (c1 := .inr (6, [.ref (gz G + (b + 1)), .int 0, .int 0, .int 0, .int 0, .int 0, .int 0, .ref (gz G + (b + 10)), .ref (gz G + (b + 11)), .ref (gz G + (b + 12)), .ref (gz G + (b + 13)), .null, .null])) w121 (by omega)
  have w140 := hs_ne (a := b) (c1 := .inr (6, [.ref (gz G + (b + 1)), .int 0, .int 0, .int 0, .int 0, .int 0, .int 0, .ref (gz G + (b + 10)), .ref (gz G + (b + 11)), .ref (gz G + (b + 12)), .ref (gz G + (b + 13)), .null, .null])) w122 (by omega)
  have w141 := hs_ne (a := b) (c1 := .inr (6, [.ref (gz G + (b + 1)), .int 0, .int 0, .int 0, .int 0, .int 0, .int 0, .ref (gz G + (b + 10)), .ref (gz G + (b + 11)), .ref (gz G + (b + 12)), .ref (gz G + (b + 13)), .null, .null])) w123 (by omega)
  have w142 := hs_ne (a := b) (c1 := .inr (6, [.ref (gz G + (b + 1)), .int 0, .int 0, .int 0, .int 0, .int 0, .int 0, .ref (gz G + (b + 10)), .ref (gz G + (b + 11)), .ref (gz G + (b + 12)), .ref (gz G + (b + 13)), .null, .null])) w124 (by omega)
  have w143 := hs_ne (a := b) (c1 := .inr (6, [.ref (gz G + (b + 1)), .int 0, .int 0, .int 0, .int 0, .int 0, .int 0, .ref (gz G + (b + 10)), .ref (gz G + (b + 11)), .ref (gz G + (b + 12)), .ref (gz G + (b + 13)), .null, .null])) w125 (by omega)
  have w144 := hs_ne (a := b) (c1 := .inr (6, [.ref (gz G + (b + 1)), .int 0, .int 0, .int 0, .int 0, .int 0, .int 0, .ref (gz G + (b + 10)), .ref (gz G + (b + 11)), .ref (gz G + (b + 12)), .ref (gz G + (b + 13)), .null, .null])) w126 (by omega)
  have w145 := hs_ne (a := b) (c1 := .inr (6, [.ref (gz G + (b + 1)), .int 0, .int 0, .int 0, .int 0, .int 0, .int 0, .ref (gz G + (b + 10)), .ref (gz G + (b + 11)), .ref (gz G + (b + 12)), .ref (gz G + (b + 13)), .null, .null])) w127 (by omega)
  have w146 := hs_ne (a := b) (c1 := .inr (6, [.ref (gz G + (b + 1)), .int 0, .int 0, .int 0, .int 0, .int 0, .int 0, .ref (gz G + (b + 10)), .ref (gz G + (b + 11)), .ref (gz G + (b + 12)), .ref (gz G + (b + 13)), .null, .null])) w128 (by omega)
  have w147 := hs_ne (a := b) (c1 := .inr (6, [.ref (gz G + (b + 1)), .int 0, .int 0, .int 0, .int 0, .int 0, .int 0, .ref (gz G + (b + 10)), .ref (gz G + (b + 11)), .ref (gz G + (b + 12)), .ref (gz G + (b + 13)), .null, .null])) w129 (by omega)
  have w148 := hs_ne (a := b) (c1 := .inr (6, [.ref (gz G + (b + 1)), .int 0, .int 0, .int 0, .int 0, .int 0, .int 0, .ref (gz G + (b + 10)), .ref (gz G + (b + 11)), .ref (gz G + (b + 12)), .ref (gz G + (b + 13)), .null, .null])) w130 (by omega)
  have w133 := hs_self (c1 := .inr (6, [.ref (gz G + (b + 1)), .int 0, .int 0, .int 0, .int 0, .int 0, .int 0, .ref (gz G + (b + 10)), .ref (gz G + (b + 11)), .ref (gz G + (b + 12)), .ref (gz G + (b + 13)), .null, .null])) w117
  refine am_aload_n dX5_init_47 0 rfl ?_
  refine am_bipush (v := 14) dX5_init_48 (by decide) ?_
  refine am_newiL w134 (k1 := 1) (u1 := 14) (N := 14) dX5_init_50 kAI (by decide) rfl (by decide) (by decide) (by decide) ?_
  have w149 := hs_push w133 (e := .inl (0, 14, .inl (fun _ => 0)))
  have w150 := hs_push w136 (e := .inl (0, 14, .inl (fun _ => 0)))
  have w151 := hs_push w137 (e := .inl (0, 14, .inl (fun _ => 0)))
  have w152 := hs_push w138 (e := .inl (0, 14, .inl (fun _ => 0)))
  have w153 := hs_push w139 (e := .inl (0, 14, .inl (fun _ => 0)))
  have w154 := hs_push w140 (e := .inl (0, 14, .inl (fun _ => 0)))
  have w155 := hs_push w141 (e := .inl (0, 14, .inl (fun _ => 0)))
  have w156 := hs_push w142 (e := .inl (0, 14, .inl (fun _ => 0)))
  have w157 := hs_push w143 (e := .inl (0, 14, .inl (fun _ => 0)))
  have w158 := hs_push w144 (e := .inl (0, 14, .inl (fun _ => 0)))
  have w159 := hs_push w145 (e := .inl (0, 14, .inl (fun _ => 0)))
  have w160 := hs_push w146 (e := .inl (0, 14, .inl (fun _ => 0)))
  have w161 := hs_push w147 (e := .inl (0, 14, .inl (fun _ => 0)))
  have w162 := hs_push w148 (e := .inl (0, 14, .inl (fun _ => 0)))
  have w163 := hs_newc w134 (e := .inl (0, 14, .inl (fun _ => 0)))
  have w164 := lo_push w135 w134 (e := .inl (0, 14, .inl (fun _ => 0))) (by omega)
  have w165 := ln_push w134 (e := .inl (0, 14, .inl (fun _ => 0))) (show (b + 14) + 1 = (b + 15) from rfl)
  refine am_putF dX5_init_52 kFX5_31 rfl w149 (Nat.le_of_ble_eq_true rfl) rfl rfl ?_
  have w167 := ln_set w165 (a := b) (c := .inr (6, [.ref (gz G + (b + 1)), .int 0, .int 0, .int 0, .int 0, .int 0, .int 0, .ref (gz G + (b + 10)), .ref (gz G + (b + 11)), .ref (gz G + (b + 12)), .ref (gz G + (b + 13)), .ref (gz G + (b + 14)), .null]))
  have w168 := lo_set w164 (a := b) (c := .inr (6, [.ref (gz G + (b + 1)), .int 0, .int 0, .int 0, .int 0, .int 0, .int 0, .ref (gz G + (b + 10)), .ref (gz G + (b + 11)), .ref (gz G + (b + 12)), .ref (gz G + (b + 13)), .ref (gz G + (b + 14)), .null])) (by omega)
  have w169 := hs_ne (a := b) (c1 := .inr (6, [.ref (gz G + (b + 1)), .int 0, .int 0, .int 0, .int 0, .int 0, .int 0, .ref (gz G + (b + 10)), .ref (gz G + (b + 11)), .ref (gz G + (b + 12)), .ref (gz G + (b + 13)), .ref (gz G + (b + 14)), .null])) w150 (by omega)
  have w170 := hs_ne (a := b) (c1 := .inr (6, [.ref (gz G + (b + 1)), .int 0, .int 0, .int 0, .int 0, .int 0, .int 0, .ref (gz G + (b + 10)), .ref (gz G + (b + 11)), .ref (gz G + (b + 12)), .ref (gz G + (b + 13)), .ref (gz G + (b + 14)), .null])) w151 (by omega)
  have w171 := hs_ne (a := b) (c1 := .inr (6, [.ref (gz G + (b + 1)), .int 0, .int 0, .int 0, .int 0, .int 0, .int 0, .ref (gz G + (b + 10)), .ref (gz G + (b + 11)), .ref (gz G + (b + 12)), .ref (gz G + (b + 13)), .ref (gz G + (b + 14)), .null])) w152 (by omega)
  have w172 := hs_ne (a := b) (c1 := .inr (6, [.ref (gz G + (b + 1)), .int 0, .int 0, .int 0, .int 0, .int 0, .int 0, .ref (gz G + (b + 10)), .ref (gz G + (b + 11)), .ref (gz G + (b + 12)), .ref (gz G + (b + 13)), .ref (gz G + (b + 14)), .null])) w153 (by omega)
  have w173 := hs_ne (a := b) (c1 := .inr (6, [.ref (gz G + (b + 1)), .int 0, .int 0, .int 0, .int 0, .int 0, .int 0, .ref (gz G + (b + 10)), .ref (gz G + (b + 11)), .ref (gz G + (b + 12)), .ref (gz G + (b + 13)), .ref (gz G + (b + 14)), .null])) w154 (by omega)
  have w174 := hs_ne (a := b) (c1 := .inr (6, [.ref (gz G + (b + 1)), .int 0, .int 0, .int 0, .int 0, .int 0, .int 0, .ref (gz G + (b + 10)), .ref (gz G + (b + 11)), .ref (gz G + (b + 12)), .ref (gz G + (b + 13)), .ref (gz G + (b + 14)), .null])) w155 (by omega)
  have w175 := hs_ne (a := b) (c1 := .inr (6, [.ref (gz G + (b + 1)), .int 0, .int 0, .int 0, .int 0, .int 0, .int 0, .ref (gz G + (b + 10)), .ref (gz G + (b + 11)), .ref (gz G + (b + 12)), .ref (gz G + (b + 13)), .ref (gz G + (b + 14)), .null])) w156 (by omega)
  have w176 := hs_ne (a := b) (c1 := .inr (6, [.ref (gz G + (b + 1)), .int 0, .int 0, .int 0, .int 0, .int 0, .int 0, .ref (gz G + (b + 10)), .ref (gz G + (b + 11)), .ref (gz G + (b + 12)), .ref (gz G + (b + 13)), .ref (gz G + (b + 14)), .null])) w157 (by omega)
  have w177 := hs_ne (a := b) (c1 := .inr (6, [.ref (gz G + (b + 1)), .int 0, .int 0, .int 0, .int 0, .int 0, .int 0, .ref (gz G + (b + 10)), .ref (gz G + (b + 11)), .ref (gz G + (b + 12)), .ref (gz G + (b + 13)), .ref (gz G + (b + 14)), .null])) w158 (by omega)
  have w178 := hs_ne (a := b) (c1 := .inr (6, [.ref (gz G + (b + 1)), .int 0, .int 0, .int 0, .int 0, .int 0, .int 0, .ref (gz G + (b + 10)), .ref (gz G + (b + 11)), .ref (gz G + (b + 12)), .ref (gz G + (b + 13)), .ref (gz G + (b + 14)), .null])) w159 (by omega)
  have w179 := hs_ne (a := b) (c1 := .inr (6, [.ref (gz G + (b + 1)), .int 0, .int 0, .int 0, .int 0, .int 0, .int 0, .ref (gz G + (b + 10)), .ref (gz G + (b + 11)), .ref (gz G + (b + 12)), .ref (gz G + (b + 13)), .ref (gz G + (b + 14)), .null])) w160 (by omega)
  have w180 := hs_ne (a := b) (c1 := .inr (6, [.ref (gz G + (b + 1)), .int 0, .int 0, .int 0, .int 0, .int 0, .int 0, .ref (gz G + (b + 10)), .ref (gz G + (b + 11)), .ref (gz G + (b + 12)), .ref (gz G + (b + 13)), .ref (gz G + (b + 14)), .null])) w161 (by omega)
  have w181 := hs_ne (a := b) (c1 := .inr (6, [.ref (gz G + (b + 1)), .int 0, .int 0, .int 0, .int 0, .int 0, .int 0, .ref (gz G + (b + 10)), .ref (gz G + (b + 11)), .ref (gz G + (b + 12)), .ref (gz G + (b + 13)), .ref (gz G + (b + 14)), .null])) w162 (by omega)
  have w182 := hs_ne (a := b) (c1 := .inr (6, [.ref (gz G + (b + 1)), .int 0, .int 0, .int 0, .int 0, .int 0, .int 0, .ref (gz G + (b + 10)), .ref (gz G + (b + 11)), .ref (gz G + (b + 12)), .ref (gz G + (b + 13)), .ref (gz G + (b + 14)), .null])) w163 (by omega)
  have w166 := hs_self (c1 := .inr (6, [.ref (gz G + (b + 1)), .int 0, .int 0, .int 0, .int 0, .int 0, .int 0, .ref (gz G + (b + 10)), .ref (gz G + (b + 11)), .ref (gz G + (b + 12)), .ref (gz G + (b + 13)), .ref (gz G + (b + 14)), .null])) w149
  refine am_aload_n dX5_init_55 0 rfl ?_
  refine am_bipush (v := 14) dX5_init_56 (by decide) ?_
  refine am_newiL w167 (k1 := 0) (u1 := 0) (N := 14) dX5_init_58 kAI (by decide) rfl (by decide) (by decide) (by decide) ?_
  have w183 := hs_push w166 (e := .inl (0, 14, .inl (fun _ => 0)))
  have w184 := hs_push w169 (e := .inl (0, 14, .inl (fun _ => 0)))
  have w185 := hs_push w170 (e := .inl (0, 14, .inl (fun _ => 0)))
  have w186 := hs_push w171 (e := .inl (0, 14, .inl (fun _ => 0)))
  have w187 := hs_push w172 (e := .inl (0, 14, .inl (fun _ => 0)))
  have w188 := hs_push w173 (e := .inl (0, 14, .inl (fun _ => 0)))
  have w189 := hs_push w174 (e := .inl (0, 14, .inl (fun _ => 0)))
  have w190 := hs_push w175 (e := .inl (0, 14, .inl (fun _ => 0)))
  have w191 := hs_push w176 (e := .inl (0, 14, .inl (fun _ => 0)))
  have w192 := hs_push w177 (e := .inl (0, 14, .inl (fun _ => 0)))
  have w193 := hs_push w178 (e := .inl (0, 14, .inl (fun _ => 0)))
  have w194 := hs_push w179 (e := .inl (0, 14, .inl (fun _ => 0)))
  have w195 := hs_push w180 (e := .inl (0, 14, .inl (fun _ => 0)))
  have w196 := hs_push w181 (e := .inl (0, 14, .inl (fun _ => 0)))
  have w197 := hs_push w182 (e := .inl (0, 14, .inl (fun _ => 0)))
  have w198 := hs_newc w167 (e := .inl (0, 14, .inl (fun _ => 0)))
  have w199 := lo_push w168 w167 (e := .inl (0, 14, .inl (fun _ => 0))) (by omega)
  have w200 := ln_push w167 (e := .inl (0, 14, .inl (fun _ => 0))) (show (b + 15) + 1 = (b + 16) from rfl)
  refine am_putF dX5_init_60 kFX5_34 rfl w183 (Nat.le_of_ble_eq_true rfl) rfl rfl ?_
  have w202 := ln_set w200 (a := b) (c := .inr (6, [.ref (gz G + (b + 1)), .int 0, .int 0, .int 0, .int 0, .int 0, .int 0, .ref (gz G + (b + 10)), .ref (gz G + (b + 11)), .ref (gz G + (b + 12)), .ref (gz G + (b + 13)), .ref (gz G + (b + 14)), .ref (gz G + (b + 15))]))
  have w203 := lo_set w199 (a := b) (c := .inr (6, [.ref (gz G + (b + 1)), .int 0, .int 0, .int 0, .int 0, .int 0, .int 0, .ref (gz G + (b + 10)), .ref (gz G + (b + 11)), .ref (gz G + (b + 12)), .ref (gz G + (b + 13)), .ref (gz G + (b + 14)), .ref (gz G + (b + 15))])) (by omega)
  have w204 := hs_ne (a := b) (c1 := .inr (6, [.ref (gz G + (b + 1)), .int 0, .int 0, .int 0, .int 0, .int 0, .int 0, .ref (gz G + (b + 10)), .ref (gz G + (b + 11)), .ref (gz G + (b + 12)), .ref (gz G + (b + 13)), .ref (gz G + (b + 14)), .ref (gz G + (b + 15))])) w184 (by omega)
  have w205 := hs_ne (a := b) (c1 := .inr (6, [.ref (gz G + (b + 1)), .int 0, .int 0, .int 0, .int 0, .int 0, .int 0, .ref (gz G + (b + 10)), .ref (gz G + (b + 11)), .ref (gz G + (b + 12)), .ref (gz G + (b + 13)), .ref (gz G + (b + 14)), .ref (gz G + (b + 15))])) w185 (by omega)
  have w206 := hs_ne (a := b) (c1 := .inr (6, [.ref (gz G + (b + 1)), .int 0, .int 0, .int 0, .int 0, .int 0, .int 0, .ref (gz G + (b + 10)), .ref (gz G + (b + 11)), .ref (gz G + (b + 12)), .ref (gz G + (b + 13)), .ref (gz G + (b + 14)), .ref (gz G + (b + 15))])) w186 (by omega)
  have w207 := hs_ne (a := b) (c1 := .inr (6, [.ref (gz G + (b + 1)), .int 0, .int 0, .int 0, .int 0, .int 0, .int 0, .ref (gz G + (b + 10)), .ref (gz G + (b + 11)), .ref (gz G + (b + 12)), .ref (gz G + (b + 13)), .ref (gz G + (b + 14)), .ref (gz G + (b + 15))])) w187 (by omega)
  have w208 := hs_ne (a := b) (c1 := .inr (6, [.ref (gz G + (b + 1)), .int 0, .int 0, .int 0, .int 0, .int 0, .int 0, .ref (gz G + (b + 10)), .ref (gz G + (b + 11)), .ref (gz G + (b + 12)), .ref (gz G + (b + 13)), .ref (gz G + (b + 14)), .ref (gz G + (b + 15))])) w188 (by omega)
  have w209 := hs_ne (a := b) (c1 := .inr (6, [.ref (gz G + (b + 1)), .int 0, .int 0, .int 0, .int 0, .int 0, .int 0, .ref (gz G + (b + 10)), .ref (gz G + (b + 11)), .ref (gz G + (b + 12)), .ref (gz G + (b + 13)), .ref (gz G + (b + 14)), .ref (gz G + (b + 15))])) w189 (by omega)
  have w210 := hs_ne (a := b) (c1 := .inr (6, [.ref (gz G + (b + 1)), .int 0, .int 0, .int 0, .int 0, .int 0, .int 0, .ref (gz G + (b + 10)), .ref (gz G + (b + 11)), .ref (gz G + (b + 12)), .ref (gz G + (b + 13)), .ref (gz G + (b + 14)), .ref (gz G + (b + 15))])) w190 (by omega)
  have w211 := hs_ne (a := b) (c1 := .inr (6, [.ref (gz G + (b + 1)), .int 0, .int 0, .int 0, .int 0, .int 0, .int 0, .ref (gz G + (b + 10)), .ref (gz G + (b + 11)), .ref (gz G + (b + 12)), .ref (gz G + (b + 13)), .ref (gz G + (b + 14)), .ref (gz G + (b + 15))])) w191 (by omega)
  have w212 := hs_ne (a := b) (c1 := .inr (6, [.ref (gz G + (b + 1)), .int 0, .int 0, .int 0, .int 0, .int 0, .int 0, .ref (gz G + (b + 10)), .ref (gz G + (b + 11)), .ref (gz G + (b + 12)), .ref (gz G + (b + 13)), .ref (gz G + (b + 14)), .ref (gz G + (b + 15))])) w192 (by omega)
  have w213 := hs_ne (a := b) (c1 := .inr (6, [.ref (gz G + (b + 1)), .int 0, .int 0, .int 0, .int 0, .int 0, .int 0, .ref (gz G + (b + 10)), .ref (gz G + (b + 11)), .ref (gz G + (b + 12)), .ref (gz G + (b + 13)), .ref (gz G + (b + 14)), .ref (gz G + (b + 15))])) w193 (by omega)
  have w214 := hs_ne (a := b) (c1 := .inr (6, [.ref (gz G + (b + 1)), .int 0, .int 0, .int 0, .int 0, .int 0, .int 0, .ref (gz G + (b + 10)), .ref (gz G + (b + 11)), .ref (gz G + (b + 12)), .ref (gz G + (b + 13)), .ref (gz G + (b + 14)), .ref (gz G + (b + 15))])) w194 (by omega)
  have w215 := hs_ne (a := b) (c1 := .inr (6, [.ref (gz G + (b + 1)), .int 0, .int 0, .int 0, .int 0, .int 0, .int 0, .ref (gz G + (b + 10)), .ref (gz G + (b + 11)), .ref (gz G + (b + 12)), .ref (gz G + (b + 13)), .ref (gz G + (b + 14)), .ref (gz G + (b + 15))])) w195 (by omega)
  have w216 := hs_ne (a := b) (c1 := .inr (6, [.ref (gz G + (b + 1)), .int 0, .int 0, .int 0, .int 0, .int 0, .int 0, .ref (gz G + (b + 10)), .ref (gz G + (b + 11)), .ref (gz G + (b + 12)), .ref (gz G + (b + 13)), .ref (gz G + (b + 14)), .ref (gz G + (b + 15))])) w196 (by omega)
  have w217 := hs_ne (a := b) (c1 := .inr (6, [.ref (gz G + (b + 1)), .int 0, .int 0, .int 0, .int 0, .int 0, .int 0, .ref (gz G + (b + 10)), .ref (gz G + (b + 11)), .ref (gz G + (b + 12)), .ref (gz G + (b + 13)), .ref (gz G + (b + 14)), .ref (gz G + (b + 15))])) w197 (by omega)
  have w218 := hs_ne (a := b) (c1 := .inr (6, [.ref (gz G + (b + 1)), .int 0, .int 0, .int 0, .int 0, .int 0, .int 0, .ref (gz G + (b + 10)), .ref (gz G + (b + 11)), .ref (gz G + (b + 12)), .ref (gz G + (b + 13)), .ref (gz G + (b + 14)), .ref (gz G + (b + 15))])) w198 (by omega)
  have w201 := hs_self (c1 := .inr (6, [.ref (gz G + (b + 1)), .int 0, .int 0, .int 0, .int 0, .int 0, .int 0, .ref (gz G + (b + 10)), .ref (gz G + (b + 11)), .ref (gz G + (b + 12)), .ref (gz G + (b + 13)), .ref (gz G + (b + 14)), .ref (gz G + (b + 15))])) w183
  refine am_aload_n dX5_init_63 0 rfl ?_
  have w219 := pl_mk (G := G) (b := b) w201 w204 w205 w206 w207 w208 w209 w210 w211 w212 w213 w214 w215 w216 w217 w218
  refine am_callV (As := []) (rest := []) dX5_init_64 kMX5_37 rfl (pl_0 (p := plz) w219) rfl rfl (Nat.le_of_ble_eq_true rfl) (d2 := 0) (by decide) (k2 := 0) (Nat.zero_le _) (u2 := 0) (Nat.zero_le _) (Nat.le_of_ble_eq_true rfl) (ctX5_makeEmpty (p := plz) w219 ) (fun v220 h221 q222 => ?_)
  obtain ⟨r223, e224, rfl, w225, w226⟩ := q222
  have w227 := w226.1.trans w202
  have w228 := lo_tr w203 (fun a ha => w226.2 a (fun z => absurd z.1 (by omega))) (Nat.le_refl _)
  have w229 := pl_eq e224.symm w225
  exact am_return dX5_init_67 rfl ⟨rfl, w227, w228, w229⟩

theorem dX4_init_0 : decode cX4_init 0 = .ok (.aload_n 0, 1) := by decide +kernel
theorem dX4_init_1 : decode cX4_init 1 = .ok (.invokespecial 3, 3) := by decide +kernel
theorem dX4_init_4 : decode cX4_init 4 = .ok (.aload_n 0, 1) := by decide +kernel
theorem dX4_init_5 : decode cX4_init 5 = .ok (.sipush 1200, 3) := by decide +kernel
theorem dX4_init_8 : decode cX4_init 8 = .ok (.newarray .int, 2) := by decide +kernel
theorem dX4_init_10 : decode cX4_init 10 = .ok (.putfield 9, 3) := by decide +kernel
theorem dX4_init_13 : decode cX4_init 13 = .ok (.aload_n 0, 1) := by decide +kernel
theorem dX4_init_14 : decode cX4_init 14 = .ok (.new 15, 3) := by decide +kernel
theorem dX4_init_17 : decode cX4_init 17 = .ok (.dup, 1) := by decide +kernel
theorem dX4_init_18 : decode cX4_init 18 = .ok (.invokespecial 17, 3) := by decide +kernel
theorem dX4_init_21 : decode cX4_init 21 = .ok (.putfield 18, 3) := by decide +kernel
theorem dX4_init_24 : decode cX4_init 24 = .ok (.aload_n 0, 1) := by decide +kernel
theorem dX4_init_25 : decode cX4_init 25 = .ok (.iconst (-1), 1) := by decide +kernel
theorem dX4_init_26 : decode cX4_init 26 = .ok (.putfield 22, 3) := by decide +kernel
theorem dX4_init_29 : decode cX4_init 29 = .ok (.return_, 1) := by decide +kernel
set_option maxRecDepth 20000 in
theorem ctX4_init {l : Launch} {G : GM} {h : List va_E} (hl : h.length = 2) (hc : h[1]? = some (.inr (5, [.null, .int 0, .int 0, .null, .int 0, .int 0, .int 0, .int 0, .int 0, .int 0, .int 0, .int 0]))) : Ct l G mX4_init 3 17 1360 [.ref (gz G + 1)] h (fun v h1 => v = none ∧ h1.length = 19 ∧ (∀ a, a < 1 → h1[a]? = h[a]?) ∧ h1[1]? = some (.inr (5, [.ref (gz G + 3), .int 0, .int (-1), .ref (gz G + 2), .int 0, .int 0, .int 0, .int 0, .int 0, .int 0, .int 0, .int 0])) ∧ h1[2]? = some (.inl (0, 1200, .inl (fun _ => 0))) ∧ PlantAt G h1 3 plE) := by
  show Tr l G mX4_init 3 17 1360 0 [(0, .ref (gz G + 1))] [] h _
  have hf : ∀ a, a < 1 → h[a]? = h[a]? := fun _ _ => rfl
  refine am_aload_n dX4_init_0 0 rfl ?_
  refine am_objInit dX4_init_1 kXX4_3 kOi.1 kOi.2 (Nat.le_of_ble_eq_true rfl) (by decide) ?_
  refine am_aload_n dX4_init_4 0 rfl ?_
  refine am_sipush (v := 1200) dX4_init_5 (by decide) ?_
  refine am_newiL hl (k1 := 16) (u1 := 160) (N := 1200) dX4_init_8 kAI (by decide) rfl (by decide) (by decide) (by decide) ?_
  have w1 := hs_push hc (e := .inl (0, 1200, .inl (fun _ => 0)))
  have w2 := hs_newc hl (e := .inl (0, 1200, .inl (fun _ => 0)))
  have w3 := lo_push hf hl (e := .inl (0, 1200, .inl (fun _ => 0))) (by omega)
  have w4 := ln_push hl (e := .inl (0, 1200, .inl (fun _ => 0))) (show 2 + 1 = 3 from rfl)
  refine am_putF dX4_init_10 kFX4_9 rfl w1 (Nat.le_of_ble_eq_true rfl) rfl rfl ?_
  have w6 := ln_set w4 (a := 1) (c := .inr (5, [.null, .int 0, .int 0, .ref (gz G + 2), .int 0, .int 0, .int 0, .int 0, .int 0, .int 0, .int 0, .int 0]))
  have w7 := lo_set w3 (a := 1) (c := .inr (5, [.null, .int 0, .int 0, .ref (gz G + 2), .int 0, .int 0, .int 0, .int 0, .int 0, .int 0, .int 0, .int 0])) (by omega)
  have w8 := hs_ne (a := 1) (c1 := .inr (5, [.null, .int 0, .int 0, .ref (gz G + 2), .int 0, .int 0, .int 0, .int 0, .int 0, .int 0, .int 0, .int 0])) w2 (by omega)
  have w5 := hs_self (c1 := .inr (5, [.null, .int 0, .int 0, .ref (gz G + 2), .int 0, .int 0, .int 0, .int 0, .int 0, .int 0, .int 0, .int 0])) w1
  refine am_aload_n dX4_init_13 0 rfl ?_
  refine am_newL w6 (k1 := 15) (u1 := 147) dX4_init_14 kNX4_15 (by decide) (by decide) ?_
  have w9 := hs_push w5 (e := .inr (6, [.null, .int 0, .int 0, .int 0, .int 0, .int 0, .int 0, .null, .null, .null, .null, .null, .null]))
  have w10 := hs_push w8 (e := .inr (6, [.null, .int 0, .int 0, .int 0, .int 0, .int 0, .int 0, .null, .null, .null, .null, .null, .null]))
  have w11 := hs_newc w6 (e := .inr (6, [.null, .int 0, .int 0, .int 0, .int 0, .int 0, .int 0, .null, .null, .null, .null, .null, .null]))
  have w12 := lo_push w7 w6 (e := .inr (6, [.null, .int 0, .int 0, .int 0, .int 0, .int 0, .int 0, .null, .null, .null, .null, .null, .null])) (by omega)
  have w13 := ln_push w6 (e := .inr (6, [.null, .int 0, .int 0, .int 0, .int 0, .int 0, .int 0, .null, .null, .null, .null, .null, .null])) (show 3 + 1 = 4 from rfl)
  refine am_dup dX4_init_17 rfl ?_
  refine am_callI (As := []) (rest := [.ref (gz G + 3), .ref (gz G + 1)]) dX4_init_18 kMX4_17 rfl  rfl (Nat.le_of_ble_eq_true rfl) (d2 := 2) (by decide) (k2 := 15) (by omega) (u2 := 147) (by omega) (Nat.le_of_ble_eq_true rfl) (ctX5_init w13 w11 ) (fun v14 h15 q16 => ?_)
  obtain ⟨rfl, w18, w19, w17⟩ := q16
  have w20 := (w19 _ (by omega)).trans w9
  have w21 := (w19 _ (by omega)).trans w10
  have w22 := lo_tr w12 w19 (by omega)
  refine am_putF dX4_init_21 kFX4_18 rfl w20 (Nat.le_of_ble_eq_true rfl) rfl rfl ?_
  have w24 := ln_set w18 (a := 1) (c := .inr (5, [.ref (gz G + 3), .int 0, .int 0, .ref (gz G + 2), .int 0, .int 0, .int 0, .int 0, .int 0, .int 0, .int 0, .int 0]))
  have w25 := lo_set w22 (a := 1) (c := .inr (5, [.ref (gz G + 3), .int 0, .int 0, .ref (gz G + 2), .int 0, .int 0, .int 0, .int 0, .int 0, .int 0, .int 0, .int 0])) (by omega)
  have w26 := hs_ne (a := 1) (c1 := .inr (5, [.ref (gz G + 3), .int 0, .int 0, .ref (gz G + 2), .int 0, .int 0, .int 0, .int 0, .int 0, .int 0, .int 0, .int 0])) w21 (by omega)
  have w27 := PlantAt.keep w17 (a := 1) (c := .inr (5, [.ref (gz G + 3), .int 0, .int 0, .ref (gz G + 2), .int 0, .int 0, .int 0, .int 0, .int 0, .int 0, .int 0, .int 0])) (by omega)
  have w23 := hs_self (c1 := .inr (5, [.ref (gz G + 3), .int 0, .int 0, .ref (gz G + 2), .int 0, .int 0, .int 0, .int 0, .int 0, .int 0, .int 0, .int 0])) w20
  refine am_aload_n dX4_init_24 0 rfl ?_
  refine am_iconst (v := (-1)) dX4_init_25 (by decide) ?_
  refine am_put dX4_init_26 kFX4_22 w23 (Nat.le_of_ble_eq_true rfl) rfl rfl ?_
  have w29 := ln_set w24 (a := 1) (c := .inr (5, [.ref (gz G + 3), .int 0, .int (-1), .ref (gz G + 2), .int 0, .int 0, .int 0, .int 0, .int 0, .int 0, .int 0, .int 0]))
  have w30 := lo_set w25 (a := 1) (c := .inr (5, [.ref (gz G + 3), .int 0, .int (-1), .ref (gz G + 2), .int 0, .int 0, .int 0, .int 0, .int 0, .int 0, .int 0, .int 0])) (by omega)
  have w31 := hs_ne (a := 1) (c1 := .inr (5, [.ref (gz G + 3), .int 0, .int (-1), .ref (gz G + 2), .int 0, .int 0, .int 0, .int 0, .int 0, .int 0, .int 0, .int 0])) w26 (by omega)
  have w32 := PlantAt.keep w27 (a := 1) (c := .inr (5, [.ref (gz G + 3), .int 0, .int (-1), .ref (gz G + 2), .int 0, .int 0, .int 0, .int 0, .int 0, .int 0, .int 0, .int 0])) (by omega)
  have w28 := hs_self (c1 := .inr (5, [.ref (gz G + 3), .int 0, .int (-1), .ref (gz G + 2), .int 0, .int 0, .int 0, .int 0, .int 0, .int 0, .int 0, .int 0])) w23
  exact am_return dX4_init_29 rfl ⟨rfl, w29, w30, w28, w31, w32⟩

theorem dX1_init_0 : decode cX1_init 0 = .ok (.aload_n 0, 1) := by decide +kernel
theorem dX1_init_1 : decode cX1_init 1 = .ok (.invokespecial 3, 3) := by decide +kernel
theorem dX1_init_4 : decode cX1_init 4 = .ok (.aload_n 0, 1) := by decide +kernel
theorem dX1_init_5 : decode cX1_init 5 = .ok (.bipush 10, 2) := by decide +kernel
theorem dX1_init_7 : decode cX1_init 7 = .ok (.anewarray 9, 3) := by decide +kernel
theorem dX1_init_10 : decode cX1_init 10 = .ok (.putfield 11, 3) := by decide +kernel
theorem dX1_init_13 : decode cX1_init 13 = .ok (.iconst 0, 1) := by decide +kernel
theorem dX1_init_14 : decode cX1_init 14 = .ok (.istore_n 1, 1) := by decide +kernel
theorem dX1_init_15 : decode cX1_init 15 = .ok (.iload_n 1, 1) := by decide +kernel
theorem dX1_init_16 : decode cX1_init 16 = .ok (.bipush 10, 2) := by decide +kernel
theorem dX1_init_18 : decode cX1_init 18 = .ok (.if_icmp .ge 22, 3) := by decide +kernel
theorem dX1_init_21 : decode cX1_init 21 = .ok (.aload_n 0, 1) := by decide +kernel
theorem dX1_init_22 : decode cX1_init 22 = .ok (.getfield 11, 3) := by decide +kernel
theorem dX1_init_25 : decode cX1_init 25 = .ok (.iload_n 1, 1) := by decide +kernel
theorem dX1_init_26 : decode cX1_init 26 = .ok (.new 9, 3) := by decide +kernel
theorem dX1_init_29 : decode cX1_init 29 = .ok (.dup, 1) := by decide +kernel
theorem dX1_init_30 : decode cX1_init 30 = .ok (.invokespecial 17, 3) := by decide +kernel
theorem dX1_init_33 : decode cX1_init 33 = .ok (.aastore, 1) := by decide +kernel
theorem dX1_init_34 : decode cX1_init 34 = .ok (.iinc 1 1, 3) := by decide +kernel
theorem dX1_init_37 : decode cX1_init 37 = .ok (.goto (-22), 3) := by decide +kernel
theorem dX1_init_40 : decode cX1_init 40 = .ok (.return_, 1) := by decide +kernel
set_option maxRecDepth 20000 in
theorem ctX1_init {l : Launch} {G : GM} {h : List va_E} (hl : h.length = 54) (hc : h[53]? = some (.inr (2, [.int 0, .int 0, .null]))) : Ct l G mX1_init 3 161 1610 [.ref (gz G + 53)] h (fun v h1 => v = none ∧ h1.length = 215 ∧ (∀ a, a < 53 → h1[a]? = h[a]?) ∧ h1[53]? = some (.inr (2, [.int 0, .int 0, .ref (gz G + 54)])) ∧ h1[54]? = some (.inl (3, 10, .inr (.inr (.inr (.inr (va_up (va_up (va_up (va_up (va_up (va_up (va_up (va_up (va_up (va_up (fun _ => none) (0 : Int32).toNatClampNeg (some (gz G + 55))) (1 : Int32).toNatClampNeg (some (gz G + 71))) (2 : Int32).toNatClampNeg (some (gz G + 87))) (3 : Int32).toNatClampNeg (some (gz G + 103))) (4 : Int32).toNatClampNeg (some (gz G + 119))) (5 : Int32).toNatClampNeg (some (gz G + 135))) (6 : Int32).toNatClampNeg (some (gz G + 151))) (7 : Int32).toNatClampNeg (some (gz G + 167))) (8 : Int32).toNatClampNeg (some (gz G + 183))) (9 : Int32).toNatClampNeg (some (gz G + 199)))))))) ∧ PlantAt G h1 55 plE ∧ PlantAt G h1 71 plE ∧ PlantAt G h1 87 plE ∧ PlantAt G h1 103 plE ∧ PlantAt G h1 119 plE ∧ PlantAt G h1 135 plE ∧ PlantAt G h1 151 plE ∧ PlantAt G h1 167 plE ∧ PlantAt G h1 183 plE ∧ PlantAt G h1 199 plE) := by
  show Tr l G mX1_init 3 161 1610 0 [(0, .ref (gz G + 53))] [] h _
  have hf : ∀ a, a < 53 → h[a]? = h[a]? := fun _ _ => rfl
  refine am_aload_n dX1_init_0 0 rfl ?_
  refine am_objInit dX1_init_1 kXX1_3 kOi.1 kOi.2 (Nat.le_of_ble_eq_true rfl) (by decide) ?_
  refine am_aload_n dX1_init_4 0 rfl ?_
  refine am_bipush (v := 10) dX1_init_5 (by decide) ?_
  refine am_newqL hl (k1 := 160) (u1 := 1600) (N := 10) dX1_init_7 kLX1_9 (by decide) rfl (by decide) (by decide) (by decide) ?_
  have w1 := hs_push hc (e := .inl (3, 10, .inr (.inr (.inr (.inr (fun _ => none))))))
  have w2 := hs_newc hl (e := .inl (3, 10, .inr (.inr (.inr (.inr (fun _ => none))))))
  have w3 := lo_push hf hl (e := .inl (3, 10, .inr (.inr (.inr (.inr (fun _ => none)))))) (by omega)
  have w4 := ln_push hl (e := .inl (3, 10, .inr (.inr (.inr (.inr (fun _ => none)))))) (show 54 + 1 = 55 from rfl)
  refine am_putF dX1_init_10 kFX1_11 rfl w1 (Nat.le_of_ble_eq_true rfl) rfl rfl ?_
  have w6 := ln_set w4 (a := 53) (c := .inr (2, [.int 0, .int 0, .ref (gz G + 54)]))
  have w7 := lo_set w3 (a := 53) (c := .inr (2, [.int 0, .int 0, .ref (gz G + 54)])) (by omega)
  have w8 := hs_ne (a := 53) (c1 := .inr (2, [.int 0, .int 0, .ref (gz G + 54)])) w2 (by omega)
  have w5 := hs_self (c1 := .inr (2, [.int 0, .int 0, .ref (gz G + 54)])) w1
  refine am_iconst (v := 0) dX1_init_13 (by decide) ?_
  refine am_istore_n dX1_init_14 (by decide) (lv' := [(1, .int 0), (0, .ref (gz G + 53))]) rfl ?_
  refine am_iload_n dX1_init_15 0 rfl ?_
  refine am_bipush (v := 10) dX1_init_16 (by decide) ?_
  refine am_icmp_ge dX1_init_18 (by decide : ((18 : Nat) : Int) + (22) = ((40 : Nat) : Int)) (fun q => absurd q (by decide)) (fun _ => ?_)
  refine am_aload_n dX1_init_21 1 rfl ?_
  refine am_get (v := .ref (gz G + 54)) dX1_init_22 kGX1_11 w5 rfl ?_
  refine am_iload_n dX1_init_25 0 rfl ?_
  refine am_newL w6 (k1 := 159) (u1 := 1587) dX1_init_26 kNX1_9 (by decide) (by decide) ?_
  have w10 := hs_push w5 (e := .inr (6, [.null, .int 0, .int 0, .int 0, .int 0, .int 0, .int 0, .null, .null, .null, .null, .null, .null]))
  have w11 := hs_push w8 (e := .inr (6, [.null, .int 0, .int 0, .int 0, .int 0, .int 0, .int 0, .null, .null, .null, .null, .null, .null]))
  have w12 := hs_newc w6 (e := .inr (6, [.null, .int 0, .int 0, .int 0, .int 0, .int 0, .int 0, .null, .null, .null, .null, .null, .null]))
  have w13 := lo_push w7 w6 (e := .inr (6, [.null, .int 0, .int 0, .int 0, .int 0, .int 0, .int 0, .null, .null, .null, .null, .null, .null])) (by omega)
  have w14 := ln_push w6 (e := .inr (6, [.null, .int 0, .int 0, .int 0, .int 0, .int 0, .int 0, .null, .null, .null, .null, .null, .null])) (show 55 + 1 = 56 from rfl)
  refine am_dup dX1_init_29 rfl ?_
  refine am_callI (As := []) (rest := [.ref (gz G + 55), .int 0, .ref (gz G + 54)]) dX1_init_30 kMX1_17 rfl  rfl (Nat.le_of_ble_eq_true rfl) (d2 := 2) (by decide) (k2 := 15) (by omega) (u2 := 147) (by omega) (Nat.le_of_ble_eq_true rfl) (ctX5_init w14 w12 ) (fun v15 h16 q17 => ?_)
  obtain ⟨rfl, w19, w20, w18⟩ := q17
  have w21 := (w20 _ (by omega)).trans w10
  have w22 := (w20 _ (by omega)).trans w11
  have w23 := lo_tr w13 w20 (by omega)
  refine am_aast (f := (fun _ => none)) dX1_init_33 w22 (pl_0 (p := plE) w18) (vp_lit (by decide)) ?_
  have w25 := ln_set w19 (a := 54) (c := .inl (3, 10, .inr (.inr (.inr (.inr (va_up (fun _ => none) (0 : Int32).toNatClampNeg (some (gz G + 55))))))))
  have w26 := lo_set w23 (a := 54) (c := .inl (3, 10, .inr (.inr (.inr (.inr (va_up (fun _ => none) (0 : Int32).toNatClampNeg (some (gz G + 55)))))))) (by omega)
  have w27 := hs_ne (a := 54) (c1 := .inl (3, 10, .inr (.inr (.inr (.inr (va_up (fun _ => none) (0 : Int32).toNatClampNeg (some (gz G + 55)))))))) w21 (by omega)
  have w28 := PlantAt.keep w18 (a := 54) (c := .inl (3, 10, .inr (.inr (.inr (.inr (va_up (fun _ => none) (0 : Int32).toNatClampNeg (some (gz G + 55)))))))) (by omega)
  have w24 := hs_self (c1 := .inl (3, 10, .inr (.inr (.inr (.inr (va_up (fun _ => none) (0 : Int32).toNatClampNeg (some (gz G + 55)))))))) w22
  refine am_iinc (v := 1) dX1_init_34 0 rfl rfl (by decide) (lv' := [(1, .int 1), (0, .ref (gz G + 53))]) rfl ?_
  refine am_goto dX1_init_37 (by decide : ((37 : Nat) : Int) + (-22) = ((15 : Nat) : Int)) ?_
  refine am_iload_n dX1_init_15 0 rfl ?_
  refine am_bipush (v := 10) dX1_init_16 (by decide) ?_
  refine am_icmp_ge dX1_init_18 (by decide : ((18 : Nat) : Int) + (22) = ((40 : Nat) : Int)) (fun q => absurd q (by decide)) (fun _ => ?_)
  refine am_aload_n dX1_init_21 1 rfl ?_
  refine am_get (v := .ref (gz G + 54)) dX1_init_22 kGX1_11 w27 rfl ?_
  refine am_iload_n dX1_init_25 0 rfl ?_
  refine am_newL w25 (k1 := 143) (u1 := 1427) dX1_init_26 kNX1_9 (by decide) (by decide) ?_
  have w30 := hs_push w27 (e := .inr (6, [.null, .int 0, .int 0, .int 0, .int 0, .int 0, .int 0, .null, .null, .null, .null, .null, .null]))
  have w31 := hs_push w24 (e := .inr (6, [.null, .int 0, .int 0, .int 0, .int 0, .int 0, .int 0, .null, .null, .null, .null, .null, .null]))
  have w32 := PlantAt.push w28 (e := .inr (6, [.null, .int 0, .int 0, .int 0, .int 0, .int 0, .int 0, .null, .null, .null, .null, .null, .null]))
  have w33 := hs_newc w25 (e := .inr (6, [.null, .int 0, .int 0, .int 0, .int 0, .int 0, .int 0, .null, .null, .null, .null, .null, .null]))
  have w34 := lo_push w26 w25 (e := .inr (6, [.null, .int 0, .int 0, .int 0, .int 0, .int 0, .int 0, .null, .null, .null, .null, .null, .null])) (by omega)
  have w35 := ln_push w25 (e := .inr (6, [.null, .int 0, .int 0, .int 0, .int 0, .int 0, .int 0, .null, .null, .null, .null, .null, .null])) (show 71 + 1 = 72 from rfl)
  refine am_dup dX1_init_29 rfl ?_
  refine am_callI (As := []) (rest := [.ref (gz G + 71), .int 1, .ref (gz G + 54)]) dX1_init_30 kMX1_17 rfl  rfl (Nat.le_of_ble_eq_true rfl) (d2 := 2) (by decide) (k2 := 15) (by omega) (u2 := 147) (by omega) (Nat.le_of_ble_eq_true rfl) (ctX5_init w35 w33 ) (fun v36 h37 q38 => ?_)
  obtain ⟨rfl, w40, w41, w39⟩ := q38
  have w42 := (w41 _ (by omega)).trans w30
  have w43 := (w41 _ (by omega)).trans w31
  have w44 := w32.low w41 (by omega)
  have w45 := lo_tr w34 w41 (by omega)
  refine am_aast (f := (va_up (fun _ => none) (0 : Int32).toNatClampNeg (some (gz G + 55)))) dX1_init_33 w43 (pl_0 (p := plE) w39) (vp_lit (by decide)) ?_
  have w47 := ln_set w40 (a := 54) (c := .inl (3, 10, .inr (.inr (.inr (.inr (va_up (va_up (fun _ => none) (0 : Int32).toNatClampNeg (some (gz G + 55))) (1 : Int32).toNatClampNeg (some (gz G + 71))))))))
  have w48 := lo_set w45 (a := 54) (c := .inl (3, 10, .inr (.inr (.inr (.inr (va_up (va_up (fun _ => none) (0 : Int32).toNatClampNeg (some (gz G + 55))) (1 : Int32).toNatClampNeg (some (gz G + 71)))))))) (by omega)
  have w49 := hs_ne (a := 54) (c1 := .inl (3, 10, .inr (.inr (.inr (.inr (va_up (va_up (fun _ => none) (0 : Int32).toNatClampNeg (some (gz G + 55))) (1 : Int32).toNatClampNeg (some (gz G + 71)))))))) w42 (by omega)
  have w50 := PlantAt.keep w44 (a := 54) (c := .inl (3, 10, .inr (.inr (.inr (.inr (va_up (va_up (fun _ => none) (0 : Int32).toNatClampNeg (some (gz G + 55))) (1 : Int32).toNatClampNeg (some (gz G + 71)))))))) (by omega)
  have w51 := PlantAt.keep w39 (a := 54) (c := .inl (3, 10, .inr (.inr (.inr (.inr (va_up (va_up (fun _ => none) (0 : Int32).toNatClampNeg (some (gz G + 55))) (1 : Int32).toNatClampNeg (some (gz G + 71)))))))) (by omega)
  have w46 := hs_self (c1 := .inl (3, 10, .inr (.inr (.inr (.inr (va_up (va_up (fun _ => none) (0 : Int32).toNatClampNeg (some (gz G + 55))) (1 : Int32).toNatClampNeg (some (gz G + 71)))))))) w43
  refine am_iinc (v := 2) dX1_init_34 0 rfl rfl (by decide) (lv' := [(1, .int 2), (0, .ref (gz G + 53))]) rfl ?_
  refine am_goto dX1_init_37 (by decide : ((37 : Nat) : Int) + (-22) = ((15 : Nat) : Int)) ?_
  refine am_iload_n dX1_init_15 0 rfl ?_
  refine am_bipush (v := 10) dX1_init_16 (by decide) ?_
  refine am_icmp_ge dX1_init_18 (by decide : ((18 : Nat) : Int) + (22) = ((40 : Nat) : Int)) (fun q => absurd q (by decide)) (fun _ => ?_)
  refine am_aload_n dX1_init_21 1 rfl ?_
  refine am_get (v := .ref (gz G + 54)) dX1_init_22 kGX1_11 w49 rfl ?_
  refine am_iload_n dX1_init_25 0 rfl ?_
  refine am_newL w47 (k1 := 127) (u1 := 1267) dX1_init_26 kNX1_9 (by decide) (by decide) ?_
  have w53 := hs_push w49 (e := .inr (6, [.null, .int 0, .int 0, .int 0, .int 0, .int 0, .int 0, .null, .null, .null, .null, .null, .null]))
  have w54 := hs_push w46 (e := .inr (6, [.null, .int 0, .int 0, .int 0, .int 0, .int 0, .int 0, .null, .null, .null, .null, .null, .null]))
  have w55 := PlantAt.push w50 (e := .inr (6, [.null, .int 0, .int 0, .int 0, .int 0, .int 0, .int 0, .null, .null, .null, .null, .null, .null]))
  have w56 := PlantAt.push w51 (e := .inr (6, [.null, .int 0, .int 0, .int 0, .int 0, .int 0, .int 0, .null, .null, .null, .null, .null, .null]))
  have w57 := hs_newc w47 (e := .inr (6, [.null, .int 0, .int 0, .int 0, .int 0, .int 0, .int 0, .null, .null, .null, .null, .null, .null]))
  have w58 := lo_push w48 w47 (e := .inr (6, [.null, .int 0, .int 0, .int 0, .int 0, .int 0, .int 0, .null, .null, .null, .null, .null, .null])) (by omega)
  have w59 := ln_push w47 (e := .inr (6, [.null, .int 0, .int 0, .int 0, .int 0, .int 0, .int 0, .null, .null, .null, .null, .null, .null])) (show 87 + 1 = 88 from rfl)
  refine am_dup dX1_init_29 rfl ?_
  refine am_callI (As := []) (rest := [.ref (gz G + 87), .int 2, .ref (gz G + 54)]) dX1_init_30 kMX1_17 rfl  rfl (Nat.le_of_ble_eq_true rfl) (d2 := 2) (by decide) (k2 := 15) (by omega) (u2 := 147) (by omega) (Nat.le_of_ble_eq_true rfl) (ctX5_init w59 w57 ) (fun v60 h61 q62 => ?_)
  obtain ⟨rfl, w64, w65, w63⟩ := q62
  have w66 := (w65 _ (by omega)).trans w53
  have w67 := (w65 _ (by omega)).trans w54
  have w68 := w55.low w65 (by omega)
  have w69 := w56.low w65 (by omega)
  have w70 := lo_tr w58 w65 (by omega)
  refine am_aast (f := (va_up (va_up (fun _ => none) (0 : Int32).toNatClampNeg (some (gz G + 55))) (1 : Int32).toNatClampNeg (some (gz G + 71)))) dX1_init_33 w67 (pl_0 (p := plE) w63) (vp_lit (by decide)) ?_
  have w72 := ln_set w64 (a := 54) (c := .inl (3, 10, .inr (.inr (.inr (.inr (va_up (va_up (va_up (fun _ => none) (0 : Int32).toNatClampNeg (some (gz G + 55))) (1 : Int32).toNatClampNeg (some (gz G + 71))) (2 : Int32).toNatClampNeg (some (gz G + 87))))))))
  have w73 := lo_set w70 (a := 54) (c := .inl (3, 10, .inr (.inr (.inr (.inr (va_up (va_up (va_up (fun _ => none) (0 : Int32).toNatClampNeg (some (gz G + 55))) (1 : Int32).toNatClampNeg (some (gz G + 71))) (2 : Int32).toNatClampNeg (some (gz G + 87)))))))) (by omega)
  have w74 := hs_ne (a := 54) (c1 := .inl (3, 10, .inr (.inr (.inr (.inr (va_up (va_up (va_up (fun _ => none) (0 : Int32).toNatClampNeg (some (gz G + 55))) (1 : Int32).toNatClampNeg (some (gz G + 71))) (2 : Int32).toNatClampNeg (some (gz G + 87)))))))) w66 (by omega)
  have w75 := PlantAt.keep w68 (a := 54) (c := .inl (3, 10, .inr (.inr (.inr (.inr (va_up (va_up (va_up (fun _ => none) (0 : Int32).toNatClampNeg (some (gz G + 55))) (1 : Int32).toNatClampNeg (some (gz G + 71))) (2 : Int32).toNatClampNeg (some (gz G + 87)))))))) (by omega)
  have w76 := PlantAt.keep w69 (a := 54) (c := .inl (3, 10, .inr (.inr (.inr (.inr (va_up (va_up (va_up (fun _ => none) (0 : Int32).toNatClampNeg (some (gz G + 55))) (1 : Int32).toNatClampNeg (some (gz G + 71))) (2 : Int32).toNatClampNeg (some (gz G + 87)))))))) (by omega)
  have w77 := PlantAt.keep w63 (a := 54) (c := .inl (3, 10, .inr (.inr (.inr (.inr (va_up (va_up (va_up (fun _ => none) (0 : Int32).toNatClampNeg (some (gz G + 55))) (1 : Int32).toNatClampNeg (some (gz G + 71))) (2 : Int32).toNatClampNeg (some (gz G + 87)))))))) (by omega)
  have w71 := hs_self (c1 := .inl (3, 10, .inr (.inr (.inr (.inr (va_up (va_up (va_up (fun _ => none) (0 : Int32).toNatClampNeg (some (gz G + 55))) (1 : Int32).toNatClampNeg (some (gz G + 71))) (2 : Int32).toNatClampNeg (some (gz G + 87)))))))) w67
  refine am_iinc (v := 3) dX1_init_34 0 rfl rfl (by decide) (lv' := [(1, .int 3), (0, .ref (gz G + 53))]) rfl ?_
  refine am_goto dX1_init_37 (by decide : ((37 : Nat) : Int) + (-22) = ((15 : Nat) : Int)) ?_
  refine am_iload_n dX1_init_15 0 rfl ?_
  refine am_bipush (v := 10) dX1_init_16 (by decide) ?_
  refine am_icmp_ge dX1_init_18 (by decide : ((18 : Nat) : Int) + (22) = ((40 : Nat) : Int)) (fun q => absurd q (by decide)) (fun _ => ?_)
  refine am_aload_n dX1_init_21 1 rfl ?_
  refine am_get (v := .ref (gz G + 54)) dX1_init_22 kGX1_11 w74 rfl ?_
  refine am_iload_n dX1_init_25 0 rfl ?_
  refine am_newL w72 (k1 := 111) (u1 := 1107) dX1_init_26 kNX1_9 (by decide) (by decide) ?_
  have w79 := hs_push w74 (e := .inr (6, [.null, .int 0, .int 0, .int 0, .int 0, .int 0, .int 0, .null, .null, .null, .null, .null, .null]))
  have w80 := hs_push w71 (e := .inr (6, [.null, .int 0, .int 0, .int 0, .int 0, .int 0, .int 0, .null, .null, .null, .null, .null, .null]))
  have w81 := PlantAt.push w75 (e := .inr (6, [.null, .int 0, .int 0, .int 0, .int 0, .int 0, .int 0, .null, .null, .null, .null, .null, .null]))
  have w82 := PlantAt.push w76 (e := .inr (6, [.null, .int 0, .int 0, .int 0, .int 0, .int 0, .int 0, .null, .null, .null, .null, .null, .null]))
  have w83 := PlantAt.push w77 (e := .inr (6, [.null, .int 0, .int 0, .int 0, .int 0, .int 0, .int 0, .null, .null, .null, .null, .null, .null]))
  have w84 := hs_newc w72 (e := .inr (6, [.null, .int 0, .int 0, .int 0, .int 0, .int 0, .int 0, .null, .null, .null, .null, .null, .null]))
  have w85 := lo_push w73 w72 (e := .inr (6, [.null, .int 0, .int 0, .int 0, .int 0, .int 0, .int 0, .null, .null, .null, .null, .null, .null])) (by omega)
  have w86 := ln_push w72 (e := .inr (6, [.null, .int 0, .int 0, .int 0, .int 0, .int 0, .int 0, .null, .null, .null, .null, .null, .null])) (show 103 + 1 = 104 from rfl)
  refine am_dup dX1_init_29 rfl ?_
  refine am_callI (As := []) (rest := [.ref (gz G + 103), .int 3, .ref (gz G + 54)]) dX1_init_30 kMX1_17 rfl  rfl (Nat.le_of_ble_eq_true rfl) (d2 := 2) (by decide) (k2 := 15) (by omega) (u2 := 147) (by omega) (Nat.le_of_ble_eq_true rfl) (ctX5_init w86 w84 ) (fun v87 h88 q89 => ?_)
  obtain ⟨rfl, w91, w92, w90⟩ := q89
  have w93 := (w92 _ (by omega)).trans w79
  have w94 := (w92 _ (by omega)).trans w80
  have w95 := w81.low w92 (by omega)
  have w96 := w82.low w92 (by omega)
  have w97 := w83.low w92 (by omega)
  have w98 := lo_tr w85 w92 (by omega)
  refine am_aast (f := (va_up (va_up (va_up (fun _ => none) (0 : Int32).toNatClampNeg (some (gz G + 55))) (1 : Int32).toNatClampNeg (some (gz G + 71))) (2 : Int32).toNatClampNeg (some (gz G + 87)))) dX1_init_33 w94 (pl_0 (p := plE) w90) (vp_lit (by decide)) ?_
  have w100 := ln_set w91 (a := 54) (c := .inl (3, 10, .inr (.inr (.inr (.inr (va_up (va_up (va_up (va_up (fun _ => none) (0 : Int32).toNatClampNeg (some (gz G + 55))) (1 : Int32).toNatClampNeg (some (gz G + 71))) (2 : Int32).toNatClampNeg (some (gz G + 87))) (3 : Int32).toNatClampNeg (some (gz G + 103))))))))
  have w101 := lo_set w98 (a := 54) (c := .inl (3, 10, .inr (.inr (.inr (.inr (va_up (va_up (va_up (va_up (fun _ => none) (0 : Int32).toNatClampNeg (some (gz G + 55))) (1 : Int32).toNatClampNeg (some (gz G + 71))) (2 : Int32).toNatClampNeg (some (gz G + 87))) (3 : Int32).toNatClampNeg (some (gz G + 103)))))))) (by omega)
  have w102 := hs_ne (a := 54) (c1 := .inl (3, 10, .inr (.inr (.inr (.inr (va_up (va_up (va_up (va_up (fun _ => none) (0 : Int32).toNatClampNeg (some (gz G + 55))) (1 : Int32).toNatClampNeg (some (gz G + 71))) (2 : Int32).toNatClampNeg (some (gz G + 87))) (3 : Int32).toNatClampNeg (some (gz G + 103)))))))) w93 (by omega)
  have w103 := PlantAt.keep w95 (a := 54) (c := .inl (3, 10, .inr (.inr (.inr (.inr (va_up (va_up (va_up (va_up (fun _ => none) (0 : Int32).toNatClampNeg (some (gz G + 55))) (1 : Int32).toNatClampNeg (some (gz G + 71))) (2 : Int32).toNatClampNeg (some (gz G + 87))) (3 : Int32).toNatClampNeg (some (gz G + 103)))))))) (by omega)
  have w104 := PlantAt.keep w96 (a := 54) (c := .inl (3, 10, .inr (.inr (.inr (.inr (va_up (va_up (va_up (va_up (fun _ => none) (0 : Int32).toNatClampNeg (some (gz G + 55))) (1 : Int32).toNatClampNeg (some (gz G + 71))) (2 : Int32).toNatClampNeg (some (gz G + 87))) (3 : Int32).toNatClampNeg (some (gz G + 103)))))))) (by omega)
  have w105 := PlantAt.keep w97 (a := 54) (c := .inl (3, 10, .inr (.inr (.inr (.inr (va_up (va_up (va_up (va_up (fun _ => none) (0 : Int32).toNatClampNeg (some (gz G + 55))) (1 : Int32).toNatClampNeg (some (gz G + 71))) (2 : Int32).toNatClampNeg (some (gz G + 87))) (3 : Int32).toNatClampNeg (some (gz G + 103)))))))) (by omega)
  have w106 := PlantAt.keep w90 (a := 54) (c := .inl (3, 10, .inr (.inr (.inr (.inr (va_up (va_up (va_up (va_up (fun _ => none) (0 : Int32).toNatClampNeg (some (gz G + 55))) (1 : Int32).toNatClampNeg (some (gz G + 71))) (2 : Int32).toNatClampNeg (some (gz G + 87))) (3 : Int32).toNatClampNeg (some (gz G + 103)))))))) (by omega)
  have w99 := hs_self (c1 := .inl (3, 10, .inr (.inr (.inr (.inr (va_up (va_up (va_up (va_up (fun _ => none) (0 : Int32).toNatClampNeg (some (gz G + 55))) (1 : Int32).toNatClampNeg (some (gz G + 71))) (2 : Int32).toNatClampNeg (some (gz G + 87))) (3 : Int32).toNatClampNeg (some (gz G + 103)))))))) w94
  refine am_iinc (v := 4) dX1_init_34 0 rfl rfl (by decide) (lv' := [(1, .int 4), (0, .ref (gz G + 53))]) rfl ?_
  refine am_goto dX1_init_37 (by decide : ((37 : Nat) : Int) + (-22) = ((15 : Nat) : Int)) ?_
  refine am_iload_n dX1_init_15 0 rfl ?_
  refine am_bipush (v := 10) dX1_init_16 (by decide) ?_
  refine am_icmp_ge dX1_init_18 (by decide : ((18 : Nat) : Int) + (22) = ((40 : Nat) : Int)) (fun q => absurd q (by decide)) (fun _ => ?_)
  refine am_aload_n dX1_init_21 1 rfl ?_
  refine am_get (v := .ref (gz G + 54)) dX1_init_22 kGX1_11 w102 rfl ?_
  refine am_iload_n dX1_init_25 0 rfl ?_
  refine am_newL w100 (k1 := 95) (u1 := 947) dX1_init_26 kNX1_9 (by decide) (by decide) ?_
  have w108 := hs_push w102 (e := .inr (6, [.null, .int 0, .int 0, .int 0, .int 0, .int 0, .int 0, .null, .null, .null, .null, .null, .null]))
  have w109 := hs_push w99 (e := .inr (6, [.null, .int 0, .int 0, .int 0, .int 0, .int 0, .int 0, .null, .null, .null, .null, .null, .null]))
  have w110 := PlantAt.push w103 (e := .inr (6, [.null, .int 0, .int 0, .int 0, .int 0, .int 0, .int 0, .null, .null, .null, .null, .null, .null]))
  have w111 := PlantAt.push w104 (e := .inr (6, [.null, .int 0, .int 0, .int 0, .int 0, .int 0, .int 0, .null, .null, .null, .null, .null, .null]))
  have w112 := PlantAt.push w105 (e := .inr (6, [.null, .int 0, .int 0, .int 0, .int 0, .int 0, .int 0, .null, .null, .null, .null, .null, .null]))
  have w113 := PlantAt.push w106 (e := .inr (6, [.null, .int 0, .int 0, .int 0, .int 0, .int 0, .int 0, .null, .null, .null, .null, .null, .null]))
  have w114 := hs_newc w100 (e := .inr (6, [.null, .int 0, .int 0, .int 0, .int 0, .int 0, .int 0, .null, .null, .null, .null, .null, .null]))
  have w115 := lo_push w101 w100 (e := .inr (6, [.null, .int 0, .int 0, .int 0, .int 0, .int 0, .int 0, .null, .null, .null, .null, .null, .null])) (by omega)
  have w116 := ln_push w100 (e := .inr (6, [.null, .int 0, .int 0, .int 0, .int 0, .int 0, .int 0, .null, .null, .null, .null, .null, .null])) (show 119 + 1 = 120 from rfl)
  refine am_dup dX1_init_29 rfl ?_
  refine am_callI (As := []) (rest := [.ref (gz G + 119), .int 4, .ref (gz G + 54)]) dX1_init_30 kMX1_17 rfl  rfl (Nat.le_of_ble_eq_true rfl) (d2 := 2) (by decide) (k2 := 15) (by omega) (u2 := 147) (by omega) (Nat.le_of_ble_eq_true rfl) (ctX5_init w116 w114 ) (fun v117 h118 q119 => ?_)
  obtain ⟨rfl, w121, w122, w120⟩ := q119
  have w123 := (w122 _ (by omega)).trans w108
  have w124 := (w122 _ (by omega)).trans w109
  have w125 := w110.low w122 (by omega)
  have w126 := w111.low w122 (by omega)
  have w127 := w112.low w122 (by omega)
  have w128 := w113.low w122 (by omega)
  have w129 := lo_tr w115 w122 (by omega)
  refine am_aast (f := (va_up (va_up (va_up (va_up (fun _ => none) (0 : Int32).toNatClampNeg (some (gz G + 55))) (1 : Int32).toNatClampNeg (some (gz G + 71))) (2 : Int32).toNatClampNeg (some (gz G + 87))) (3 : Int32).toNatClampNeg (some (gz G + 103)))) dX1_init_33 w124 (pl_0 (p := plE) w120) (vp_lit (by decide)) ?_
  have w131 := ln_set w121 (a := 54) (c := .inl (3, 10, .inr (.inr (.inr (.inr (va_up (va_up (va_up (va_up (va_up (fun _ => none) (0 : Int32).toNatClampNeg (some (gz G + 55))) (1 : Int32).toNatClampNeg (some (gz G + 71))) (2 : Int32).toNatClampNeg (some (gz G + 87))) (3 : Int32).toNatClampNeg (some (gz G + 103))) (4 : Int32).toNatClampNeg (some (gz G + 119))))))))
  have w132 := lo_set w129 (a := 54) (c := .inl (3, 10, .inr (.inr (.inr (.inr (va_up (va_up (va_up (va_up (va_up (fun _ => none) (0 : Int32).toNatClampNeg (some (gz G + 55))) (1 : Int32).toNatClampNeg (some (gz G + 71))) (2 : Int32).toNatClampNeg (some (gz G + 87))) (3 : Int32).toNatClampNeg (some (gz G + 103))) (4 : Int32).toNatClampNeg (some (gz G + 119)))))))) (by omega)
  have w133 := hs_ne (a := 54) (c1 := .inl (3, 10, .inr (.inr (.inr (.inr (va_up (va_up (va_up (va_up (va_up (fun _ => none) (0 : Int32).toNatClampNeg (some (gz G + 55))) (1 : Int32).toNatClampNeg (some (gz G + 71))) (2 : Int32).toNatClampNeg (some (gz G + 87))) (3 : Int32).toNatClampNeg (some (gz G + 103))) (4 : Int32).toNatClampNeg (some (gz G + 119)))))))) w123 (by omega)
  have w134 := PlantAt.keep w125 (a := 54) (c := .inl (3, 10, .inr (.inr (.inr (.inr (va_up (va_up (va_up (va_up (va_up (fun _ => none) (0 : Int32).toNatClampNeg (some (gz G + 55))) (1 : Int32).toNatClampNeg (some (gz G + 71))) (2 : Int32).toNatClampNeg (some (gz G + 87))) (3 : Int32).toNatClampNeg (some (gz G + 103))) (4 : Int32).toNatClampNeg (some (gz G + 119)))))))) (by omega)
  have w135 := PlantAt.keep w126 (a := 54) (c := .inl (3, 10, .inr (.inr (.inr (.inr (va_up (va_up (va_up (va_up (va_up (fun _ => none) (0 : Int32).toNatClampNeg (some (gz G + 55))) (1 : Int32).toNatClampNeg (some (gz G + 71))) (2 : Int32).toNatClampNeg (some (gz G + 87))) (3 : Int32).toNatClampNeg (some (gz G + 103))) (4 : Int32).toNatClampNeg (some (gz G + 119)))))))) (by omega)
  have w136 := PlantAt.keep w127 (a := 54) (c := .inl (3, 10, .inr (.inr (.inr (.inr (va_up (va_up (va_up (va_up (va_up (fun _ => none) (0 : Int32).toNatClampNeg (some (gz G + 55))) (1 : Int32).toNatClampNeg (some (gz G + 71))) (2 : Int32).toNatClampNeg (some (gz G + 87))) (3 : Int32).toNatClampNeg (some (gz G + 103))) (4 : Int32).toNatClampNeg (some (gz G + 119)))))))) (by omega)
  have w137 := PlantAt.keep w128 (a := 54) (c := .inl (3, 10, .inr (.inr (.inr (.inr (va_up (va_up (va_up (va_up (va_up (fun _ => none) (0 : Int32).toNatClampNeg (some (gz G + 55))) (1 : Int32).toNatClampNeg (some (gz G + 71))) (2 : Int32).toNatClampNeg (some (gz G + 87))) (3 : Int32).toNatClampNeg (some (gz G + 103))) (4 : Int32).toNatClampNeg (some (gz G + 119)))))))) (by omega)
  have w138 := PlantAt.keep w120 (a := 54) (c := .inl (3, 10, .inr (.inr (.inr (.inr (va_up (va_up (va_up (va_up (va_up (fun _ => none) (0 : Int32).toNatClampNeg (some (gz G + 55))) (1 : Int32).toNatClampNeg (some (gz G + 71))) (2 : Int32).toNatClampNeg (some (gz G + 87))) (3 : Int32).toNatClampNeg (some (gz G + 103))) (4 : Int32).toNatClampNeg (some (gz G + 119)))))))) (by omega)
  have w130 := hs_self (c1 := .inl (3, 10, .inr (.inr (.inr (.inr (va_up (va_up (va_up (va_up (va_up (fun _ => none) (0 : Int32).toNatClampNeg (some (gz G + 55))) (1 : Int32).toNatClampNeg (some (gz G + 71))) (2 : Int32).toNatClampNeg (some (gz G + 87))) (3 : Int32).toNatClampNeg (some (gz G + 103))) (4 : Int32).toNatClampNeg (some (gz G + 119)))))))) w124
  refine am_iinc (v := 5) dX1_init_34 0 rfl rfl (by decide) (lv' := [(1, .int 5), (0, .ref (gz G + 53))]) rfl ?_
  refine am_goto dX1_init_37 (by decide : ((37 : Nat) : Int) + (-22) = ((15 : Nat) : Int)) ?_
  refine am_iload_n dX1_init_15 0 rfl ?_
  refine am_bipush (v := 10) dX1_init_16 (by decide) ?_
  refine am_icmp_ge dX1_init_18 (by decide : ((18 : Nat) : Int) + (22) = ((40 : Nat) : Int)) (fun q => absurd q (by decide)) (fun _ => ?_)
  refine am_aload_n dX1_init_21 1 rfl ?_
  refine am_get (v := .ref (gz G + 54)) dX1_init_22 kGX1_11 w133 rfl ?_
  refine am_iload_n dX1_init_25 0 rfl ?_
  refine am_newL w131 (k1 := 79) (u1 := 787) dX1_init_26 kNX1_9 (by decide) (by decide) ?_
  have w140 := hs_push w133 (e := .inr (6, [.null, .int 0, .int 0, .int 0, .int 0, .int 0, .int 0, .null, .null, .null, .null, .null, .null]))
  have w141 := hs_push w130 (e := .inr (6, [.null, .int 0, .int 0, .int 0, .int 0, .int 0, .int 0, .null, .null, .null, .null, .null, .null]))
  have w142 := PlantAt.push w134 (e := .inr (6, [.null, .int 0, .int 0, .int 0, .int 0, .int 0, .int 0, .null, .null, .null, .null, .null, .null]))
  have w143 := PlantAt.push w135 (e := .inr (6, [.null, .int 0, .int 0, .int 0, .int 0, .int 0, .int 0, .null, .null, .null, .null, .null, .null]))
  have w144 := PlantAt.push w136 (e := .inr (6, [.null, .int 0, .int 0, .int 0, .int 0, .int 0, .int 0, .null, .null, .null, .null, .null, .null]))
  have w145 := PlantAt.push w137 (e := .inr (6, [.null, .int 0, .int 0, .int 0, .int 0, .int 0, .int 0, .null, .null, .null, .null, .null, .null]))
  have w146 := PlantAt.push w138 (e := .inr (6, [.null, .int 0, .int 0, .int 0, .int 0, .int 0, .int 0, .null, .null, .null, .null, .null, .null]))
  have w147 := hs_newc w131 (e := .inr (6, [.null, .int 0, .int 0, .int 0, .int 0, .int 0, .int 0, .null, .null, .null, .null, .null, .null]))
  have w148 := lo_push w132 w131 (e := .inr (6, [.null, .int 0, .int 0, .int 0, .int 0, .int 0, .int 0, .null, .null, .null, .null, .null, .null])) (by omega)
  have w149 := ln_push w131 (e := .inr (6, [.null, .int 0, .int 0, .int 0, .int 0, .int 0, .int 0, .null, .null, .null, .null, .null, .null])) (show 135 + 1 = 136 from rfl)
  refine am_dup dX1_init_29 rfl ?_
  refine am_callI (As := []) (rest := [.ref (gz G + 135), .int 5, .ref (gz G + 54)]) dX1_init_30 kMX1_17 rfl  rfl (Nat.le_of_ble_eq_true rfl) (d2 := 2) (by decide) (k2 := 15) (by omega) (u2 := 147) (by omega) (Nat.le_of_ble_eq_true rfl) (ctX5_init w149 w147 ) (fun v150 h151 q152 => ?_)
  obtain ⟨rfl, w154, w155, w153⟩ := q152
  have w156 := (w155 _ (by omega)).trans w140
  have w157 := (w155 _ (by omega)).trans w141
  have w158 := w142.low w155 (by omega)
  have w159 := w143.low w155 (by omega)
  have w160 := w144.low w155 (by omega)
  have w161 := w145.low w155 (by omega)
  have w162 := w146.low w155 (by omega)
  have w163 := lo_tr w148 w155 (by omega)
  refine am_aast (f := (va_up (va_up (va_up (va_up (va_up (fun _ => none) (0 : Int32).toNatClampNeg (some (gz G + 55))) (1 : Int32).toNatClampNeg (some (gz G + 71))) (2 : Int32).toNatClampNeg (some (gz G + 87))) (3 : Int32).toNatClampNeg (some (gz G + 103))) (4 : Int32).toNatClampNeg (some (gz G + 119)))) dX1_init_33 w157 (pl_0 (p := plE) w153) (vp_lit (by decide)) ?_
  have w165 := ln_set w154 (a := 54) (c := .inl (3, 10, .inr (.inr (.inr (.inr (va_up (va_up (va_up (va_up (va_up (va_up (fun _ => none) (0 : Int32).toNatClampNeg (some (gz G + 55))) (1 : Int32).toNatClampNeg (some (gz G + 71))) (2 : Int32).toNatClampNeg (some (gz G + 87))) (3 : Int32).toNatClampNeg (some (gz G + 103))) (4 : Int32).toNatClampNeg (some (gz G + 119))) (5 : Int32).toNatClampNeg (some (gz G + 135))))))))
  have w166 := lo_set w163 (a := 54) (c := .inl (3, 10, .inr (.inr (.inr (.inr (va_up (va_up (va_up (va_up (va_up (va_up (fun _ => none) (0 : Int32).toNatClampNeg (some (gz G + 55))) (1 : Int32).toNatClampNeg (some (gz G + 71))) (2 : Int32).toNatClampNeg (some (gz G + 87))) (3 : Int32).toNatClampNeg (some (gz G + 103))) (4 : Int32).toNatClampNeg (some (gz G + 119))) (5 : Int32).toNatClampNeg (some (gz G + 135)))))))) (by omega)
  have w167 := hs_ne (a := 54) (c1 := .inl (3, 10, .inr (.inr (.inr (.inr (va_up (va_up (va_up (va_up (va_up (va_up (fun _ => none) (0 : Int32).toNatClampNeg (some (gz G + 55))) (1 : Int32).toNatClampNeg (some (gz G + 71))) (2 : Int32).toNatClampNeg (some (gz G + 87))) (3 : Int32).toNatClampNeg (some (gz G + 103))) (4 : Int32).toNatClampNeg (some (gz G + 119))) (5 : Int32).toNatClampNeg (some (gz G + 135)))))))) w156 (by omega)
  have w168 := PlantAt.keep w158 (a := 54) (c := .inl (3, 10, .inr (.inr (.inr (.inr (va_up (va_up (va_up (va_up (va_up (va_up (fun _ => none) (0 : Int32).toNatClampNeg (some (gz G + 55))) (1 : Int32).toNatClampNeg (some (gz G + 71))) (2 : Int32).toNatClampNeg (some (gz G + 87))) (3 : Int32).toNatClampNeg (some (gz G + 103))) (4 : Int32).toNatClampNeg (some (gz G + 119))) (5 : Int32).toNatClampNeg (some (gz G + 135)))))))) (by omega)
  have w169 := PlantAt.keep w159 (a := 54) (c := .inl (3, 10, .inr (.inr (.inr (.inr (va_up (va_up (va_up (va_up (va_up (va_up (fun _ => none) (0 : Int32).toNatClampNeg (some (gz G + 55))) (1 : Int32).toNatClampNeg (some (gz G + 71))) (2 : Int32).toNatClampNeg (some (gz G + 87))) (3 : Int32).toNatClampNeg (some (gz G + 103))) (4 : Int32).toNatClampNeg (some (gz G + 119))) (5 : Int32).toNatClampNeg (some (gz G + 135)))))))) (by omega)
  have w170 := PlantAt.keep w160 (a := 54) (c := .inl (3, 10, .inr (.inr (.inr (.inr (va_up (va_up (va_up (va_up (va_up (va_up (fun _ => none) (0 : Int32).toNatClampNeg (some (gz G + 55))) (1 : Int32).toNatClampNeg (some (gz G + 71))) (2 : Int32).toNatClampNeg (some (gz G + 87))) (3 : Int32).toNatClampNeg (some (gz G + 103))) (4 : Int32).toNatClampNeg (some (gz G + 119))) (5 : Int32).toNatClampNeg (some (gz G + 135)))))))) (by omega)
  have w171 := PlantAt.keep w161 (a := 54) (c := .inl (3, 10, .inr (.inr (.inr (.inr (va_up (va_up (va_up (va_up (va_up (va_up (fun _ => none) (0 : Int32).toNatClampNeg (some (gz G + 55))) (1 : Int32).toNatClampNeg (some (gz G + 71))) (2 : Int32).toNatClampNeg (some (gz G + 87))) (3 : Int32).toNatClampNeg (some (gz G + 103))) (4 : Int32).toNatClampNeg (some (gz G + 119))) (5 : Int32).toNatClampNeg (some (gz G + 135)))))))) (by omega)
  have w172 := PlantAt.keep w162 (a := 54) (c := .inl (3, 10, .inr (.inr (.inr (.inr (va_up (va_up (va_up (va_up (va_up (va_up (fun _ => none) (0 : Int32).toNatClampNeg (some (gz G + 55))) (1 : Int32).toNatClampNeg (some (gz G + 71))) (2 : Int32).toNatClampNeg (some (gz G + 87))) (3 : Int32).toNatClampNeg (some (gz G + 103))) (4 : Int32).toNatClampNeg (some (gz G + 119))) (5 : Int32).toNatClampNeg (some (gz G + 135)))))))) (by omega)
  have w173 := PlantAt.keep w153 (a := 54) (c := .inl (3, 10, .inr (.inr (.inr (.inr (va_up (va_up (va_up (va_up (va_up (va_up (fun _ => none) (0 : Int32).toNatClampNeg (some (gz G + 55))) (1 : Int32).toNatClampNeg (some (gz G + 71))) (2 : Int32).toNatClampNeg (some (gz G + 87))) (3 : Int32).toNatClampNeg (some (gz G + 103))) (4 : Int32).toNatClampNeg (some (gz G + 119))) (5 : Int32).toNatClampNeg (some (gz G + 135)))))))) (by omega)
  have w164 := hs_self (c1 := .inl (3, 10, .inr (.inr (.inr (.inr (va_up (va_up (va_up (va_up (va_up (va_up (fun _ => none) (0 : Int32).toNatClampNeg (some (gz G + 55))) (1 : Int32).toNatClampNeg (some (gz G + 71))) (2 : Int32).toNatClampNeg (some (gz G + 87))) (3 : Int32).toNatClampNeg (some (gz G + 103))) (4 : Int32).toNatClampNeg (some (gz G + 119))) (5 : Int32).toNatClampNeg (some (gz G + 135)))))))) w157
  refine am_iinc (v := 6) dX1_init_34 0 rfl rfl (by decide) (lv' := [(1, .int 6), (0, .ref (gz G + 53))]) rfl ?_
  refine am_goto dX1_init_37 (by decide : ((37 : Nat) : Int) + (-22) = ((15 : Nat) : Int)) ?_
  refine am_iload_n dX1_init_15 0 rfl ?_
  refine am_bipush (v := 10) dX1_init_16 (by decide) ?_
  refine am_icmp_ge dX1_init_18 (by decide : ((18 : Nat) : Int) + (22) = ((40 : Nat) : Int)) (fun q => absurd q (by decide)) (fun _ => ?_)
  refine am_aload_n dX1_init_21 1 rfl ?_
  refine am_get (v := .ref (gz G + 54)) dX1_init_22 kGX1_11 w167 rfl ?_
  refine am_iload_n dX1_init_25 0 rfl ?_
  refine am_newL w165 (k1 := 63) (u1 := 627) dX1_init_26 kNX1_9 (by decide) (by decide) ?_
  have w175 := hs_push w167 (e := .inr (6, [.null, .int 0, .int 0, .int 0, .int 0, .int 0, .int 0, .null, .null, .null, .null, .null, .null]))
  have w176 := hs_push w164 (e := .inr (6, [.null, .int 0, .int 0, .int 0, .int 0, .int 0, .int 0, .null, .null, .null, .null, .null, .null]))
  have w177 := PlantAt.push w168 (e := .inr (6, [.null, .int 0, .int 0, .int 0, .int 0, .int 0, .int 0, .null, .null, .null, .null, .null, .null]))
  have w178 := PlantAt.push w169 (e := .inr (6, [.null, .int 0, .int 0, .int 0, .int 0, .int 0, .int 0, .null, .null, .null, .null, .null, .null]))
  have w179 := PlantAt.push w170 (e := .inr (6, [.null, .int 0, .int 0, .int 0, .int 0, .int 0, .int 0, .null, .null, .null, .null, .null, .null]))
  have w180 := PlantAt.push w171 (e := .inr (6, [.null, .int 0, .int 0, .int 0, .int 0, .int 0, .int 0, .null, .null, .null, .null, .null, .null]))
  have w181 := PlantAt.push w172 (e := .inr (6, [.null, .int 0, .int 0, .int 0, .int 0, .int 0, .int 0, .null, .null, .null, .null, .null, .null]))
  have w182 := PlantAt.push w173 (e := .inr (6, [.null, .int 0, .int 0, .int 0, .int 0, .int 0, .int 0, .null, .null, .null, .null, .null, .null]))
  have w183 := hs_newc w165 (e := .inr (6, [.null, .int 0, .int 0, .int 0, .int 0, .int 0, .int 0, .null, .null, .null, .null, .null, .null]))
  have w184 := lo_push w166 w165 (e := .inr (6, [.null, .int 0, .int 0, .int 0, .int 0, .int 0, .int 0, .null, .null, .null, .null, .null, .null])) (by omega)
  have w185 := ln_push w165 (e := .inr (6, [.null, .int 0, .int 0, .int 0, .int 0, .int 0, .int 0, .null, .null, .null, .null, .null, .null])) (show 151 + 1 = 152 from rfl)
  refine am_dup dX1_init_29 rfl ?_
  refine am_callI (As := []) (rest := [.ref (gz G + 151), .int 6, .ref (gz G + 54)]) dX1_init_30 kMX1_17 rfl  rfl (Nat.le_of_ble_eq_true rfl) (d2 := 2) (by decide) (k2 := 15) (by omega) (u2 := 147) (by omega) (Nat.le_of_ble_eq_true rfl) (ctX5_init w185 w183 ) (fun v186 h187 q188 => ?_)
  obtain ⟨rfl, w190, w191, w189⟩ := q188
  have w192 := (w191 _ (by omega)).trans w175
  have w193 := (w191 _ (by omega)).trans w176
  have w194 := w177.low w191 (by omega)
  have w195 := w178.low w191 (by omega)
  have w196 := w179.low w191 (by omega)
  have w197 := w180.low w191 (by omega)
  have w198 := w181.low w191 (by omega)
  have w199 := w182.low w191 (by omega)
  have w200 := lo_tr w184 w191 (by omega)
  refine am_aast (f := (va_up (va_up (va_up (va_up (va_up (va_up (fun _ => none) (0 : Int32).toNatClampNeg (some (gz G + 55))) (1 : Int32).toNatClampNeg (some (gz G + 71))) (2 : Int32).toNatClampNeg (some (gz G + 87))) (3 : Int32).toNatClampNeg (some (gz G + 103))) (4 : Int32).toNatClampNeg (some (gz G + 119))) (5 : Int32).toNatClampNeg (some (gz G + 135)))) dX1_init_33 w193 (pl_0 (p := plE) w189) (vp_lit (by decide)) ?_
  have w202 := ln_set w190 (a := 54) (c := .inl (3, 10, .inr (.inr (.inr (.inr (va_up (va_up (va_up (va_up (va_up (va_up (va_up (fun _ => none) (0 : Int32).toNatClampNeg (some (gz G + 55))) (1 : Int32).toNatClampNeg (some (gz G + 71))) (2 : Int32).toNatClampNeg (some (gz G + 87))) (3 : Int32).toNatClampNeg (some (gz G + 103))) (4 : Int32).toNatClampNeg (some (gz G + 119))) (5 : Int32).toNatClampNeg (some (gz G + 135))) (6 : Int32).toNatClampNeg (some (gz G + 151))))))))
  have w203 := lo_set w200 (a := 54) (c := .inl (3, 10, .inr (.inr (.inr (.inr (va_up (va_up (va_up (va_up (va_up (va_up (va_up (fun _ => none) (0 : Int32).toNatClampNeg (some (gz G + 55))) (1 : Int32).toNatClampNeg (some (gz G + 71))) (2 : Int32).toNatClampNeg (some (gz G + 87))) (3 : Int32).toNatClampNeg (some (gz G + 103))) (4 : Int32).toNatClampNeg (some (gz G + 119))) (5 : Int32).toNatClampNeg (some (gz G + 135))) (6 : Int32).toNatClampNeg (some (gz G + 151)))))))) (by omega)
  have w204 := hs_ne (a := 54) (c1 := .inl (3, 10, .inr (.inr (.inr (.inr (va_up (va_up (va_up (va_up (va_up (va_up (va_up (fun _ => none) (0 : Int32).toNatClampNeg (some (gz G + 55))) (1 : Int32).toNatClampNeg (some (gz G + 71))) (2 : Int32).toNatClampNeg (some (gz G + 87))) (3 : Int32).toNatClampNeg (some (gz G + 103))) (4 : Int32).toNatClampNeg (some (gz G + 119))) (5 : Int32).toNatClampNeg (some (gz G + 135))) (6 : Int32).toNatClampNeg (some (gz G + 151)))))))) w192 (by omega)
  have w205 := PlantAt.keep w194 (a := 54) (c := .inl (3, 10, .inr (.inr (.inr (.inr (va_up (va_up (va_up (va_up (va_up (va_up (va_up (fun _ => none) (0 : Int32).toNatClampNeg (some (gz G + 55))) (1 : Int32).toNatClampNeg (some (gz G + 71))) (2 : Int32).toNatClampNeg (some (gz G + 87))) (3 : Int32).toNatClampNeg (some (gz G + 103))) (4 : Int32).toNatClampNeg (some (gz G + 119))) (5 : Int32).toNatClampNeg (some (gz G + 135))) (6 : Int32).toNatClampNeg (some (gz G + 151)))))))) (by omega)
  have w206 := PlantAt.keep w195 (a := 54) (c := .inl (3, 10, .inr (.inr (.inr (.inr (va_up (va_up (va_up (va_up (va_up (va_up (va_up (fun _ => none) (0 : Int32).toNatClampNeg (some (gz G + 55))) (1 : Int32).toNatClampNeg (some (gz G + 71))) (2 : Int32).toNatClampNeg (some (gz G + 87))) (3 : Int32).toNatClampNeg (some (gz G + 103))) (4 : Int32).toNatClampNeg (some (gz G + 119))) (5 : Int32).toNatClampNeg (some (gz G + 135))) (6 : Int32).toNatClampNeg (some (gz G + 151)))))))) (by omega)
  have w207 := PlantAt.keep w196 (a := 54) (c := .inl (3, 10, .inr (.inr (.inr (.inr (va_up (va_up (va_up (va_up (va_up (va_up (va_up (fun _ => none) (0 : Int32).toNatClampNeg (some (gz G + 55))) (1 : Int32).toNatClampNeg (some (gz G + 71))) (2 : Int32).toNatClampNeg (some (gz G + 87))) (3 : Int32).toNatClampNeg (some (gz G + 103))) (4 : Int32).toNatClampNeg (some (gz G + 119))) (5 : Int32).toNatClampNeg (some (gz G + 135))) (6 : Int32).toNatClampNeg (some (gz G + 151)))))))) (by omega)
  have w208 := PlantAt.keep w197 (a := 54) (c := .inl (3, 10, .inr (.inr (.inr (.inr (va_up (va_up (va_up (va_up (va_up (va_up (va_up (fun _ => none) (0 : Int32).toNatClampNeg (some (gz G + 55))) (1 : Int32).toNatClampNeg (some (gz G + 71))) (2 : Int32).toNatClampNeg (some (gz G + 87))) (3 : Int32).toNatClampNeg (some (gz G + 103))) (4 : Int32).toNatClampNeg (some (gz G + 119))) (5 : Int32).toNatClampNeg (some (gz G + 135))) (6 : Int32).toNatClampNeg (some (gz G + 151)))))))) (by omega)
  have w209 := PlantAt.keep w198 (a := 54) (c := .inl (3, 10, .inr (.inr (.inr (.inr (va_up (va_up (va_up (va_up (va_up (va_up (va_up (fun _ => none) (0 : Int32).toNatClampNeg (some (gz G + 55))) (1 : Int32).toNatClampNeg (some (gz G + 71))) (2 : Int32).toNatClampNeg (some (gz G + 87))) (3 : Int32).toNatClampNeg (some (gz G + 103))) (4 : Int32).toNatClampNeg (some (gz G + 119))) (5 : Int32).toNatClampNeg (some (gz G + 135))) (6 : Int32).toNatClampNeg (some (gz G + 151)))))))) (by omega)
  have w210 := PlantAt.keep w199 (a := 54) (c := .inl (3, 10, .inr (.inr (.inr (.inr (va_up (va_up (va_up (va_up (va_up (va_up (va_up (fun _ => none) (0 : Int32).toNatClampNeg (some (gz G + 55))) (1 : Int32).toNatClampNeg (some (gz G + 71))) (2 : Int32).toNatClampNeg (some (gz G + 87))) (3 : Int32).toNatClampNeg (some (gz G + 103))) (4 : Int32).toNatClampNeg (some (gz G + 119))) (5 : Int32).toNatClampNeg (some (gz G + 135))) (6 : Int32).toNatClampNeg (some (gz G + 151)))))))) (by omega)
  have w211 := PlantAt.keep w189 (a := 54) (c := .inl (3, 10, .inr (.inr (.inr (.inr (va_up (va_up (va_up (va_up (va_up (va_up (va_up (fun _ => none) (0 : Int32).toNatClampNeg (some (gz G + 55))) (1 : Int32).toNatClampNeg (some (gz G + 71))) (2 : Int32).toNatClampNeg (some (gz G + 87))) (3 : Int32).toNatClampNeg (some (gz G + 103))) (4 : Int32).toNatClampNeg (some (gz G + 119))) (5 : Int32).toNatClampNeg (some (gz G + 135))) (6 : Int32).toNatClampNeg (some (gz G + 151)))))))) (by omega)
  have w201 := hs_self (c1 := .inl (3, 10, .inr (.inr (.inr (.inr (va_up (va_up (va_up (va_up (va_up (va_up (va_up (fun _ => none) (0 : Int32).toNatClampNeg (some (gz G + 55))) (1 : Int32).toNatClampNeg (some (gz G + 71))) (2 : Int32).toNatClampNeg (some (gz G + 87))) (3 : Int32).toNatClampNeg (some (gz G + 103))) (4 : Int32).toNatClampNeg (some (gz G + 119))) (5 : Int32).toNatClampNeg (some (gz G + 135))) (6 : Int32).toNatClampNeg (some (gz G + 151)))))))) w193
  refine am_iinc (v := 7) dX1_init_34 0 rfl rfl (by decide) (lv' := [(1, .int 7), (0, .ref (gz G + 53))]) rfl ?_
  refine am_goto dX1_init_37 (by decide : ((37 : Nat) : Int) + (-22) = ((15 : Nat) : Int)) ?_
  refine am_iload_n dX1_init_15 0 rfl ?_
  refine am_bipush (v := 10) dX1_init_16 (by decide) ?_
  refine am_icmp_ge dX1_init_18 (by decide : ((18 : Nat) : Int) + (22) = ((40 : Nat) : Int)) (fun q => absurd q (by decide)) (fun _ => ?_)
  refine am_aload_n dX1_init_21 1 rfl ?_
  refine am_get (v := .ref (gz G + 54)) dX1_init_22 kGX1_11 w204 rfl ?_
  refine am_iload_n dX1_init_25 0 rfl ?_
  refine am_newL w202 (k1 := 47) (u1 := 467) dX1_init_26 kNX1_9 (by decide) (by decide) ?_
  have w213 := hs_push w204 (e := .inr (6, [.null, .int 0, .int 0, .int 0, .int 0, .int 0, .int 0, .null, .null, .null, .null, .null, .null]))
  have w214 := hs_push w201 (e := .inr (6, [.null, .int 0, .int 0, .int 0, .int 0, .int 0, .int 0, .null, .null, .null, .null, .null, .null]))
  have w215 := PlantAt.push w205 (e := .inr (6, [.null, .int 0, .int 0, .int 0, .int 0, .int 0, .int 0, .null, .null, .null, .null, .null, .null]))
  have w216 := PlantAt.push w206 (e := .inr (6, [.null, .int 0, .int 0, .int 0, .int 0, .int 0, .int 0, .null, .null, .null, .null, .null, .null]))
  have w217 := PlantAt.push w207 (e := .inr (6, [.null, .int 0, .int 0, .int 0, .int 0, .int 0, .int 0, .null, .null, .null, .null, .null, .null]))
  have w218 := PlantAt.push w208 (e := .inr (6, [.null, .int 0, .int 0, .int 0, .int 0, .int 0, .int 0, .null, .null, .null, .null, .null, .null]))
  have w219 := PlantAt.push w209 (e := .inr (6, [.null, .int 0, .int 0, .int 0, .int 0, .int 0, .int 0, .null, .null, .null, .null, .null, .null]))
  have w220 := PlantAt.push w210 (e := .inr (6, [.null, .int 0, .int 0, .int 0, .int 0, .int 0, .int 0, .null, .null, .null, .null, .null, .null]))
  have w221 := PlantAt.push w211 (e := .inr (6, [.null, .int 0, .int 0, .int 0, .int 0, .int 0, .int 0, .null, .null, .null, .null, .null, .null]))
  have w222 := hs_newc w202 (e := .inr (6, [.null, .int 0, .int 0, .int 0, .int 0, .int 0, .int 0, .null, .null, .null, .null, .null, .null]))
  have w223 := lo_push w203 w202 (e := .inr (6, [.null, .int 0, .int 0, .int 0, .int 0, .int 0, .int 0, .null, .null, .null, .null, .null, .null])) (by omega)
  have w224 := ln_push w202 (e := .inr (6, [.null, .int 0, .int 0, .int 0, .int 0, .int 0, .int 0, .null, .null, .null, .null, .null, .null])) (show 167 + 1 = 168 from rfl)
  refine am_dup dX1_init_29 rfl ?_
  refine am_callI (As := []) (rest := [.ref (gz G + 167), .int 7, .ref (gz G + 54)]) dX1_init_30 kMX1_17 rfl  rfl (Nat.le_of_ble_eq_true rfl) (d2 := 2) (by decide) (k2 := 15) (by omega) (u2 := 147) (by omega) (Nat.le_of_ble_eq_true rfl) (ctX5_init w224 w222 ) (fun v225 h226 q227 => ?_)
  obtain ⟨rfl, w229, w230, w228⟩ := q227
  have w231 := (w230 _ (by omega)).trans w213
  have w232 := (w230 _ (by omega)).trans w214
  have w233 := w215.low w230 (by omega)
  have w234 := w216.low w230 (by omega)
  have w235 := w217.low w230 (by omega)
  have w236 := w218.low w230 (by omega)
  have w237 := w219.low w230 (by omega)
  have w238 := w220.low w230 (by omega)
  have w239 := w221.low w230 (by omega)
  have w240 := lo_tr w223 w230 (by omega)
  refine am_aast (f := (va_up (va_up (va_up (va_up (va_up (va_up (va_up (fun _ => none) (0 : Int32).toNatClampNeg (some (gz G + 55))) (1 : Int32).toNatClampNeg (some (gz G + 71))) (2 : Int32).toNatClampNeg (some (gz G + 87))) (3 : Int32).toNatClampNeg (some (gz G + 103))) (4 : Int32).toNatClampNeg (some (gz G + 119))) (5 : Int32).toNatClampNeg (some (gz G + 135))) (6 : Int32).toNatClampNeg (some (gz G + 151)))) dX1_init_33 w232 (pl_0 (p := plE) w228) (vp_lit (by decide)) ?_
  have w242 := ln_set w229 (a := 54) (c := .inl (3, 10, .inr (.inr (.inr (.inr (va_up (va_up (va_up (va_up (va_up (va_up (va_up (va_up (fun _ => none) (0 : Int32).toNatClampNeg (some (gz G + 55))) (1 : Int32).toNatClampNeg (some (gz G + 71))) (2 : Int32).toNatClampNeg (some (gz G + 87))) (3 : Int32).toNatClampNeg (some (gz G + 103))) (4 : Int32).toNatClampNeg (some (gz G + 119))) (5 : Int32).toNatClampNeg (some (gz G + 135))) (6 : Int32).toNatClampNeg (some (gz G + 151))) (7 : Int32).toNatClampNeg (some (gz G + 167))))))))
  have w243 := lo_set w240 (a := 54) (c := .inl (3, 10, .inr (.inr (.inr (.inr (va_up (va_up (va_up (va_up (va_up (va_up (va_up (va_up (fun _ => none) (0 : Int32).toNatClampNeg (some (gz G + 55))) (1 : Int32).toNatClampNeg (some (gz G + 71))) (2 : Int32).toNatClampNeg (some (gz G + 87))) (3 : Int32).toNatClampNeg (some (gz G + 103))) (4 : Int32).toNatClampNeg (some (gz G + 119))) (5 : Int32).toNatClampNeg (some (gz G + 135))) (6 : Int32).toNatClampNeg (some (gz G + 151))) (7 : Int32).toNatClampNeg (some (gz G + 167)))))))) (by omega)
  have w244 := hs_ne (a := 54) (c1 := .inl (3, 10, .inr (.inr (.inr (.inr (va_up (va_up (va_up (va_up (va_up (va_up (va_up (va_up (fun _ => none) (0 : Int32).toNatClampNeg (some (gz G + 55))) (1 : Int32).toNatClampNeg (some (gz G + 71))) (2 : Int32).toNatClampNeg (some (gz G + 87))) (3 : Int32).toNatClampNeg (some (gz G + 103))) (4 : Int32).toNatClampNeg (some (gz G + 119))) (5 : Int32).toNatClampNeg (some (gz G + 135))) (6 : Int32).toNatClampNeg (some (gz G + 151))) (7 : Int32).toNatClampNeg (some (gz G + 167)))))))) w231 (by omega)
  have w245 := PlantAt.keep w233 (a := 54) (c := .inl (3, 10, .inr (.inr (.inr (.inr (va_up (va_up (va_up (va_up (va_up (va_up (va_up (va_up (fun _ => none) (0 : Int32).toNatClampNeg (some (gz G + 55))) (1 : Int32).toNatClampNeg (some (gz G + 71))) (2 : Int32).toNatClampNeg (some (gz G + 87))) (3 : Int32).toNatClampNeg (some (gz G + 103))) (4 : Int32).toNatClampNeg (some (gz G + 119))) (5 : Int32).toNatClampNeg (some (gz G + 135))) (6 : Int32).toNatClampNeg (some (gz G + 151))) (7 : Int32).toNatClampNeg (some (gz G + 167)))))))) (by omega)
  have w246 := PlantAt.keep w234 (a := 54) (c := .inl (3, 10, .inr (.inr (.inr (.inr (va_up (va_up (va_up (va_up (va_up (va_up (va_up (va_up (fun _ => none) (0 : Int32).toNatClampNeg (some (gz G + 55))) (1 : Int32).toNatClampNeg (some (gz G + 71))) (2 : Int32).toNatClampNeg (some (gz G + 87))) (3 : Int32).toNatClampNeg (some (gz G + 103))) (4 : Int32).toNatClampNeg (some (gz G + 119))) (5 : Int32).toNatClampNeg (some (gz G + 135))) (6 : Int32).toNatClampNeg (some (gz G + 151))) (7 : Int32).toNatClampNeg (some (gz G + 167)))))))) (by omega)
  have w247 := PlantAt.keep w235 (a := 54) (c := .inl (3, 10, .inr (.inr (.inr (.inr (va_up (va_up (va_up (va_up (va_up (va_up (va_up (va_up (fun _ => none) (0 : Int32).toNatClampNeg (some (gz G + 55))) (1 : Int32).toNatClampNeg (some (gz G + 71))) (2 : Int32).toNatClampNeg (some (gz G + 87))) (3 : Int32).toNatClampNeg (some (gz G + 103))) (4 : Int32).toNatClampNeg (some (gz G + 119))) (5 : Int32).toNatClampNeg (some (gz G + 135))) (6 : Int32).toNatClampNeg (some (gz G + 151))) (7 : Int32).toNatClampNeg (some (gz G + 167)))))))) (by omega)
  have w248 := PlantAt.keep w236 (a := 54) (c := .inl (3, 10, .inr (.inr (.inr (.inr (va_up (va_up (va_up (va_up (va_up (va_up (va_up (va_up (fun _ => none) (0 : Int32).toNatClampNeg (some (gz G + 55))) (1 : Int32).toNatClampNeg (some (gz G + 71))) (2 : Int32).toNatClampNeg (some (gz G + 87))) (3 : Int32).toNatClampNeg (some (gz G + 103))) (4 : Int32).toNatClampNeg (some (gz G + 119))) (5 : Int32).toNatClampNeg (some (gz G + 135))) (6 : Int32).toNatClampNeg (some (gz G + 151))) (7 : Int32).toNatClampNeg (some (gz G + 167)))))))) (by omega)
  have w249 := PlantAt.keep w237 (a := 54) (c := .inl (3, 10, .inr (.inr (.inr (.inr (va_up (va_up (va_up (va_up (va_up (va_up (va_up (va_up (fun _ => none) (0 : Int32).toNatClampNeg (some (gz G + 55))) (1 : Int32).toNatClampNeg (some (gz G + 71))) (2 : Int32).toNatClampNeg (some (gz G + 87))) (3 : Int32).toNatClampNeg (some (gz G + 103))) (4 : Int32).toNatClampNeg (some (gz G + 119))) (5 : Int32).toNatClampNeg (some (gz G + 135))) (6 : Int32).toNatClampNeg (some (gz G + 151))) (7 : Int32).toNatClampNeg (some (gz G + 167)))))))) (by omega)
  have w250 := PlantAt.keep w238 (a := 54) (c := .inl (3, 10, .inr (.inr (.inr (.inr (va_up (va_up (va_up (va_up (va_up (va_up (va_up (va_up (fun _ => none) (0 : Int32).toNatClampNeg (some (gz G + 55))) (1 : Int32).toNatClampNeg (some (gz G + 71))) (2 : Int32).toNatClampNeg (some (gz G + 87))) (3 : Int32).toNatClampNeg (some (gz G + 103))) (4 : Int32).toNatClampNeg (some (gz G + 119))) (5 : Int32).toNatClampNeg (some (gz G + 135))) (6 : Int32).toNatClampNeg (some (gz G + 151))) (7 : Int32).toNatClampNeg (some (gz G + 167)))))))) (by omega)
  have w251 := PlantAt.keep w239 (a := 54) (c := .inl (3, 10, .inr (.inr (.inr (.inr (va_up (va_up (va_up (va_up (va_up (va_up (va_up (va_up (fun _ => none) (0 : Int32).toNatClampNeg (some (gz G + 55))) (1 : Int32).toNatClampNeg (some (gz G + 71))) (2 : Int32).toNatClampNeg (some (gz G + 87))) (3 : Int32).toNatClampNeg (some (gz G + 103))) (4 : Int32).toNatClampNeg (some (gz G + 119))) (5 : Int32).toNatClampNeg (some (gz G + 135))) (6 : Int32).toNatClampNeg (some (gz G + 151))) (7 : Int32).toNatClampNeg (some (gz G + 167)))))))) (by omega)
  have w252 := PlantAt.keep w228 (a := 54) (c := .inl (3, 10, .inr (.inr (.inr (.inr (va_up (va_up (va_up (va_up (va_up (va_up (va_up (va_up (fun _ => none) (0 : Int32).toNatClampNeg (some (gz G + 55))) (1 : Int32).toNatClampNeg (some (gz G + 71))) (2 : Int32).toNatClampNeg (some (gz G + 87))) (3 : Int32).toNatClampNeg (some (gz G + 103))) (4 : Int32).toNatClampNeg (some (gz G + 119))) (5 : Int32).toNatClampNeg (some (gz G + 135))) (6 : Int32).toNatClampNeg (some (gz G + 151))) (7 : Int32).toNatClampNeg (some (gz G + 167)))))))) (by omega)
  have w241 := hs_self (c1 := .inl (3, 10, .inr (.inr (.inr (.inr (va_up (va_up (va_up (va_up (va_up (va_up (va_up (va_up (fun _ => none) (0 : Int32).toNatClampNeg (some (gz G + 55))) (1 : Int32).toNatClampNeg (some (gz G + 71))) (2 : Int32).toNatClampNeg (some (gz G + 87))) (3 : Int32).toNatClampNeg (some (gz G + 103))) (4 : Int32).toNatClampNeg (some (gz G + 119))) (5 : Int32).toNatClampNeg (some (gz G + 135))) (6 : Int32).toNatClampNeg (some (gz G + 151))) (7 : Int32).toNatClampNeg (some (gz G + 167)))))))) w232
  refine am_iinc (v := 8) dX1_init_34 0 rfl rfl (by decide) (lv' := [(1, .int 8), (0, .ref (gz G + 53))]) rfl ?_
  refine am_goto dX1_init_37 (by decide : ((37 : Nat) : Int) + (-22) = ((15 : Nat) : Int)) ?_
  refine am_iload_n dX1_init_15 0 rfl ?_
  refine am_bipush (v := 10) dX1_init_16 (by decide) ?_
  refine am_icmp_ge dX1_init_18 (by decide : ((18 : Nat) : Int) + (22) = ((40 : Nat) : Int)) (fun q => absurd q (by decide)) (fun _ => ?_)
  refine am_aload_n dX1_init_21 1 rfl ?_
  refine am_get (v := .ref (gz G + 54)) dX1_init_22 kGX1_11 w244 rfl ?_
  refine am_iload_n dX1_init_25 0 rfl ?_
  refine am_newL w242 (k1 := 31) (u1 := 307) dX1_init_26 kNX1_9 (by decide) (by decide) ?_
  have w254 := hs_push w244 (e := .inr (6, [.null, .int 0, .int 0, .int 0, .int 0, .int 0, .int 0, .null, .null, .null, .null, .null, .null]))
  have w255 := hs_push w241 (e := .inr (6, [.null, .int 0, .int 0, .int 0, .int 0, .int 0, .int 0, .null, .null, .null, .null, .null, .null]))
  have w256 := PlantAt.push w245 (e := .inr (6, [.null, .int 0, .int 0, .int 0, .int 0, .int 0, .int 0, .null, .null, .null, .null, .null, .null]))
  have w257 := PlantAt.push w246 (e := .inr (6, [.null, .int 0, .int 0, .int 0, .int 0, .int 0, .int 0, .null, .null, .null, .null, .null, .null]))
  have w258 := PlantAt.push w247 (e := .inr (6, [.null, .int 0, .int 0, .int 0, .int 0, .int 0, .int 0, .null, .null, .null, .null, .null, .null]))
  have w259 := PlantAt.push w248 (e := .inr (6, [.null, .int 0, .int 0, .int 0, .int 0, .int 0, .int 0, .null, .null, .null, .null, .null, .null]))
  have w260 := PlantAt.push w249 (e := .inr (6, [.null, .int 0, .int 0, .int 0, .int 0, .int 0, .int 0, .null, .null, .null, .null, .null, .null]))
  have w261 := PlantAt.push w250 (e := .inr (6, [.null, .int 0, .int 0, .int 0, .int 0, .int 0, .int 0, .null, .null, .null, .null, .null, .null]))
  have w262 := PlantAt.push w251 (e := .inr (6, [.null, .int 0, .int 0, .int 0, .int 0, .int 0, .int 0, .null, .null, .null, .null, .null, .null]))
  have w263 := PlantAt.push w252 (e := .inr (6, [.null, .int 0, .int 0, .int 0, .int 0, .int 0, .int 0, .null, .null, .null, .null, .null, .null]))
  have w264 := hs_newc w242 (e := .inr (6, [.null, .int 0, .int 0, .int 0, .int 0, .int 0, .int 0, .null, .null, .null, .null, .null, .null]))
  have w265 := lo_push w243 w242 (e := .inr (6, [.null, .int 0, .int 0, .int 0, .int 0, .int 0, .int 0, .null, .null, .null, .null, .null, .null])) (by omega)
  have w266 := ln_push w242 (e := .inr (6, [.null, .int 0, .int 0, .int 0, .int 0, .int 0, .int 0, .null, .null, .null, .null, .null, .null])) (show 183 + 1 = 184 from rfl)
  refine am_dup dX1_init_29 rfl ?_
  refine am_callI (As := []) (rest := [.ref (gz G + 183), .int 8, .ref (gz G + 54)]) dX1_init_30 kMX1_17 rfl  rfl (Nat.le_of_ble_eq_true rfl) (d2 := 2) (by decide) (k2 := 15) (by omega) (u2 := 147) (by omega) (Nat.le_of_ble_eq_true rfl) (ctX5_init w266 w264 ) (fun v267 h268 q269 => ?_)
  obtain ⟨rfl, w271, w272, w270⟩ := q269
  have w273 := (w272 _ (by omega)).trans w254
  have w274 := (w272 _ (by omega)).trans w255
  have w275 := w256.low w272 (by omega)
  have w276 := w257.low w272 (by omega)
  have w277 := w258.low w272 (by omega)
  have w278 := w259.low w272 (by omega)
  have w279 := w260.low w272 (by omega)
  have w280 := w261.low w272 (by omega)
  have w281 := w262.low w272 (by omega)
  have w282 := w263.low w272 (by omega)
  have w283 := lo_tr w265 w272 (by omega)
  refine am_aast (f := (va_up (va_up (va_up (va_up (va_up (va_up (va_up (va_up (fun _ => none) (0 : Int32).toNatClampNeg (some (gz G + 55))) (1 : Int32).toNatClampNeg (some (gz G + 71))) (2 : Int32).toNatClampNeg (some (gz G + 87))) (3 : Int32).toNatClampNeg (some (gz G + 103))) (4 : Int32).toNatClampNeg (some (gz G + 119))) (5 : Int32).toNatClampNeg (some (gz G + 135))) (6 : Int32).toNatClampNeg (some (gz G + 151))) (7 : Int32).toNatClampNeg (some (gz G + 167)))) dX1_init_33 w274 (pl_0 (p := plE) w270) (vp_lit (by decide)) ?_
  have w285 := ln_set w271 (a := 54) (c := .inl (3, 10, .inr (.inr (.inr (.inr (va_up (va_up (va_up (va_up (va_up (va_up (va_up (va_up (va_up (fun _ => none) (0 : Int32).toNatClampNeg (some (gz G + 55))) (1 : Int32).toNatClampNeg (some (gz G + 71))) (2 : Int32).toNatClampNeg (some (gz G + 87))) (3 : Int32).toNatClampNeg (some (gz G + 103))) (4 : Int32).toNatClampNeg (some (gz G + 119))) (5 : Int32).toNatClampNeg (some (gz G + 135))) (6 : Int32).toNatClampNeg (some (gz G + 151))) (7 : Int32).toNatClampNeg (some (gz G + 167))) (8 : Int32).toNatClampNeg (some (gz G + 183))))))))
  have w286 := lo_set w283 (a := 54) (c := .inl (3, 10, .inr (.inr (.inr (.inr (va_up (va_up (va_up (va_up (va_up (va_up (va_up (va_up (va_up (fun _ => none) (0 : Int32).toNatClampNeg (some (gz G + 55))) (1 : Int32).toNatClampNeg (some (gz G + 71))) (2 : Int32).toNatClampNeg (some (gz G + 87))) (3 : Int32).toNatClampNeg (some (gz G + 103))) (4 : Int32).toNatClampNeg (some (gz G + 119))) (5 : Int32).toNatClampNeg (some (gz G + 135))) (6 : Int32).toNatClampNeg (some (gz G + 151))) (7 : Int32).toNatClampNeg (some (gz G + 167))) (8 : Int32).toNatClampNeg (some (gz G + 183)))))))) (by omega)
  have w287 := hs_ne (a := 54) (c1 := .inl (3, 10, .inr (.inr (.inr (.inr (va_up (va_up (va_up (va_up (va_up (va_up (va_up (va_up (va_up (fun _ => none) (0 : Int32).toNatClampNeg (some (gz G + 55))) (1 : Int32).toNatClampNeg (some (gz G + 71))) (2 : Int32).toNatClampNeg (some (gz G + 87))) (3 : Int32).toNatClampNeg (some (gz G + 103))) (4 : Int32).toNatClampNeg (some (gz G + 119))) (5 : Int32).toNatClampNeg (some (gz G + 135))) (6 : Int32).toNatClampNeg (some (gz G + 151))) (7 : Int32).toNatClampNeg (some (gz G + 167))) (8 : Int32).toNatClampNeg (some (gz G + 183)))))))) w273 (by omega)
  have w288 := PlantAt.keep w275 (a := 54) (c := .inl (3, 10, .inr (.inr (.inr (.inr (va_up (va_up (va_up (va_up (va_up (va_up (va_up (va_up (va_up (fun _ => none) (0 : Int32).toNatClampNeg (some (gz G + 55))) (1 : Int32).toNatClampNeg (some (gz G + 71))) (2 : Int32).toNatClampNeg (some (gz G + 87))) (3 : Int32).toNatClampNeg (some (gz G + 103))) (4 : Int32).toNatClampNeg (some (gz G + 119))) (5 : Int32).toNatClampNeg (some (gz G + 135))) (6 : Int32).toNatClampNeg (some (gz G + 151))) (7 : Int32).toNatClampNeg (some (gz G + 167))) (8 : Int32).toNatClampNeg (some (gz G + 183)))))))) (by omega)
  have w289 := PlantAt.keep w276 (a := 54) (c := .inl (3, 10, .inr (.inr (.inr (.inr (va_up (va_up (va_up (va_up (va_up (va_up (va_up (va_up (va_up (fun _ => none) (0 : Int32).toNatClampNeg (some (gz G + 55))) (1 : Int32).toNatClampNeg (some (gz G + 71))) (2 : Int32).toNatClampNeg (some (gz G + 87))) (3 : Int32).toNatClampNeg (some (gz G + 103))) (4 : Int32).toNatClampNeg (some (gz G + 119))) (5 : Int32).toNatClampNeg (some (gz G + 135))) (6 : Int32).toNatClampNeg (some (gz G + 151))) (7 : Int32).toNatClampNeg (some (gz G + 167))) (8 : Int32).toNatClampNeg (some (gz G + 183)))))))) (by omega)
  have w290 := PlantAt.keep w277 (a := 54) (c := .inl (3, 10, .inr (.inr (.inr (.inr (va_up (va_up (va_up (va_up (va_up (va_up (va_up (va_up (va_up (fun _ => none) (0 : Int32).toNatClampNeg (some (gz G + 55))) (1 : Int32).toNatClampNeg (some (gz G + 71))) (2 : Int32).toNatClampNeg (some (gz G + 87))) (3 : Int32).toNatClampNeg (some (gz G + 103))) (4 : Int32).toNatClampNeg (some (gz G + 119))) (5 : Int32).toNatClampNeg (some (gz G + 135))) (6 : Int32).toNatClampNeg (some (gz G + 151))) (7 : Int32).toNatClampNeg (some (gz G + 167))) (8 : Int32).toNatClampNeg (some (gz G + 183)))))))) (by omega)
  have w291 := PlantAt.keep w278 (a := 54) (c := .inl (3, 10, .inr (.inr (.inr (.inr (va_up (va_up (va_up (va_up (va_up (va_up (va_up (va_up (va_up (fun _ => none) (0 : Int32).toNatClampNeg (some (gz G + 55))) (1 : Int32).toNatClampNeg (some (gz G + 71))) (2 : Int32).toNatClampNeg (some (gz G + 87))) (3 : Int32).toNatClampNeg (some (gz G + 103))) (4 : Int32).toNatClampNeg (some (gz G + 119))) (5 : Int32).toNatClampNeg (some (gz G + 135))) (6 : Int32).toNatClampNeg (some (gz G + 151))) (7 : Int32).toNatClampNeg (some (gz G + 167))) (8 : Int32).toNatClampNeg (some (gz G + 183)))))))) (by omega)
  have w292 := PlantAt.keep w279 (a := 54) (c := .inl (3, 10, .inr (.inr (.inr (.inr (va_up (va_up (va_up (va_up (va_up (va_up (va_up (va_up (va_up (fun _ => none) (0 : Int32).toNatClampNeg (some (gz G + 55))) (1 : Int32).toNatClampNeg (some (gz G + 71))) (2 : Int32).toNatClampNeg (some (gz G + 87))) (3 : Int32).toNatClampNeg (some (gz G + 103))) (4 : Int32).toNatClampNeg (some (gz G + 119))) (5 : Int32).toNatClampNeg (some (gz G + 135))) (6 : Int32).toNatClampNeg (some (gz G + 151))) (7 : Int32).toNatClampNeg (some (gz G + 167))) (8 : Int32).toNatClampNeg (some (gz G + 183)))))))) (by omega)
  have w293 := PlantAt.keep w280 (a := 54) (c := .inl (3, 10, .inr (.inr (.inr (.inr (va_up (va_up (va_up (va_up (va_up (va_up (va_up (va_up (va_up (fun _ => none) (0 : Int32).toNatClampNeg (some (gz G + 55))) (1 : Int32).toNatClampNeg (some (gz G + 71))) (2 : Int32).toNatClampNeg (some (gz G + 87))) (3 : Int32).toNatClampNeg (some (gz G + 103))) (4 : Int32).toNatClampNeg (some (gz G + 119))) (5 : Int32).toNatClampNeg (some (gz G + 135))) (6 : Int32).toNatClampNeg (some (gz G + 151))) (7 : Int32).toNatClampNeg (some (gz G + 167))) (8 : Int32).toNatClampNeg (some (gz G + 183)))))))) (by omega)
  have w294 := PlantAt.keep w281 (a := 54) (c := .inl (3, 10, .inr (.inr (.inr (.inr (va_up (va_up (va_up (va_up (va_up (va_up (va_up (va_up (va_up (fun _ => none) (0 : Int32).toNatClampNeg (some (gz G + 55))) (1 : Int32).toNatClampNeg (some (gz G + 71))) (2 : Int32).toNatClampNeg (some (gz G + 87))) (3 : Int32).toNatClampNeg (some (gz G + 103))) (4 : Int32).toNatClampNeg (some (gz G + 119))) (5 : Int32).toNatClampNeg (some (gz G + 135))) (6 : Int32).toNatClampNeg (some (gz G + 151))) (7 : Int32).toNatClampNeg (some (gz G + 167))) (8 : Int32).toNatClampNeg (some (gz G + 183)))))))) (by omega)
  have w295 := PlantAt.keep w282 (a := 54) (c := .inl (3, 10, .inr (.inr (.inr (.inr (va_up (va_up (va_up (va_up (va_up (va_up (va_up (va_up (va_up (fun _ => none) (0 : Int32).toNatClampNeg (some (gz G + 55))) (1 : Int32).toNatClampNeg (some (gz G + 71))) (2 : Int32).toNatClampNeg (some (gz G + 87))) (3 : Int32).toNatClampNeg (some (gz G + 103))) (4 : Int32).toNatClampNeg (some (gz G + 119))) (5 : Int32).toNatClampNeg (some (gz G + 135))) (6 : Int32).toNatClampNeg (some (gz G + 151))) (7 : Int32).toNatClampNeg (some (gz G + 167))) (8 : Int32).toNatClampNeg (some (gz G + 183)))))))) (by omega)
  have w296 := PlantAt.keep w270 (a := 54) (c := .inl (3, 10, .inr (.inr (.inr (.inr (va_up (va_up (va_up (va_up (va_up (va_up (va_up (va_up (va_up (fun _ => none) (0 : Int32).toNatClampNeg (some (gz G + 55))) (1 : Int32).toNatClampNeg (some (gz G + 71))) (2 : Int32).toNatClampNeg (some (gz G + 87))) (3 : Int32).toNatClampNeg (some (gz G + 103))) (4 : Int32).toNatClampNeg (some (gz G + 119))) (5 : Int32).toNatClampNeg (some (gz G + 135))) (6 : Int32).toNatClampNeg (some (gz G + 151))) (7 : Int32).toNatClampNeg (some (gz G + 167))) (8 : Int32).toNatClampNeg (some (gz G + 183)))))))) (by omega)
  have w284 := hs_self (c1 := .inl (3, 10, .inr (.inr (.inr (.inr (va_up (va_up (va_up (va_up (va_up (va_up (va_up (va_up (va_up (fun _ => none) (0 : Int32).toNatClampNeg (some (gz G + 55))) (1 : Int32).toNatClampNeg (some (gz G + 71))) (2 : Int32).toNatClampNeg (some (gz G + 87))) (3 : Int32).toNatClampNeg (some (gz G + 103))) (4 : Int32).toNatClampNeg (some (gz G + 119))) (5 : Int32).toNatClampNeg (some (gz G + 135))) (6 : Int32).toNatClampNeg (some (gz G + 151))) (7 : Int32).toNatClampNeg (some (gz G + 167))) (8 : Int32).toNatClampNeg (some (gz G + 183)))))))) w274
  refine am_iinc (v := 9) dX1_init_34 0 rfl rfl (by decide) (lv' := [(1, .int 9), (0, .ref (gz G + 53))]) rfl ?_
  refine am_goto dX1_init_37 (by decide : ((37 : Nat) : Int) + (-22) = ((15 : Nat) : Int)) ?_
  refine am_iload_n dX1_init_15 0 rfl ?_
  refine am_bipush (v := 10) dX1_init_16 (by decide) ?_
  refine am_icmp_ge dX1_init_18 (by decide : ((18 : Nat) : Int) + (22) = ((40 : Nat) : Int)) (fun q => absurd q (by decide)) (fun _ => ?_)
  refine am_aload_n dX1_init_21 1 rfl ?_
  refine am_get (v := .ref (gz G + 54)) dX1_init_22 kGX1_11 w287 rfl ?_
  refine am_iload_n dX1_init_25 0 rfl ?_
  refine am_newL w285 (k1 := 15) (u1 := 147) dX1_init_26 kNX1_9 (by decide) (by decide) ?_
  have w298 := hs_push w287 (e := .inr (6, [.null, .int 0, .int 0, .int 0, .int 0, .int 0, .int 0, .null, .null, .null, .null, .null, .null]))
  have w299 := hs_push w284 (e := .inr (6, [.null, .int 0, .int 0, .int 0, .int 0, .int 0, .int 0, .null, .null, .null, .null, .null, .null]))
  have w300 := PlantAt.push w288 (e := .inr (6, [.null, .int 0, .int 0, .int 0, .int 0, .int 0, .int 0, .null, .null, .null, .null, .null, .null]))
  have w301 := PlantAt.push w289 (e := .inr (6, [.null, .int 0, .int 0, .int 0, .int 0, .int 0, .int 0, .null, .null, .null, .null, .null, .null]))
  have w302 := PlantAt.push w290 (e := .inr (6, [.null, .int 0, .int 0, .int 0, .int 0, .int 0, .int 0, .null, .null, .null, .null, .null, .null]))
  have w303 := PlantAt.push w291 (e := .inr (6, [.null, .int 0, .int 0, .int 0, .int 0, .int 0, .int 0, .null, .null, .null, .null, .null, .null]))
  have w304 := PlantAt.push w292 (e := .inr (6, [.null, .int 0, .int 0, .int 0, .int 0, .int 0, .int 0, .null, .null, .null, .null, .null, .null]))
  have w305 := PlantAt.push w293 (e := .inr (6, [.null, .int 0, .int 0, .int 0, .int 0, .int 0, .int 0, .null, .null, .null, .null, .null, .null]))
  have w306 := PlantAt.push w294 (e := .inr (6, [.null, .int 0, .int 0, .int 0, .int 0, .int 0, .int 0, .null, .null, .null, .null, .null, .null]))
  have w307 := PlantAt.push w295 (e := .inr (6, [.null, .int 0, .int 0, .int 0, .int 0, .int 0, .int 0, .null, .null, .null, .null, .null, .null]))
  have w308 := PlantAt.push w296 (e := .inr (6, [.null, .int 0, .int 0, .int 0, .int 0, .int 0, .int 0, .null, .null, .null, .null, .null, .null]))
  have w309 := hs_newc w285 (e := .inr (6, [.null, .int 0, .int 0, .int 0, .int 0, .int 0, .int 0, .null, .null, .null, .null, .null, .null]))
  have w310 := lo_push w286 w285 (e := .inr (6, [.null, .int 0, .int 0, .int 0, .int 0, .int 0, .int 0, .null, .null, .null, .null, .null, .null])) (by omega)
  have w311 := ln_push w285 (e := .inr (6, [.null, .int 0, .int 0, .int 0, .int 0, .int 0, .int 0, .null, .null, .null, .null, .null, .null])) (show 199 + 1 = 200 from rfl)
  refine am_dup dX1_init_29 rfl ?_
  refine am_callI (As := []) (rest := [.ref (gz G + 199), .int 9, .ref (gz G + 54)]) dX1_init_30 kMX1_17 rfl  rfl (Nat.le_of_ble_eq_true rfl) (d2 := 2) (by decide) (k2 := 15) (by omega) (u2 := 147) (by omega) (Nat.le_of_ble_eq_true rfl) (ctX5_init w311 w309 ) (fun v312 h313 q314 => ?_)
  obtain ⟨rfl, w316, w317, w315⟩ := q314
  have w318 := (w317 _ (by omega)).trans w298
  have w319 := (w317 _ (by omega)).trans w299
  have w320 := w300.low w317 (by omega)
  have w321 := w301.low w317 (by omega)
  have w322 := w302.low w317 (by omega)
  have w323 := w303.low w317 (by omega)
  have w324 := w304.low w317 (by omega)
  have w325 := w305.low w317 (by omega)
  have w326 := w306.low w317 (by omega)
  have w327 := w307.low w317 (by omega)
  have w328 := w308.low w317 (by omega)
  have w329 := lo_tr w310 w317 (by omega)
  refine am_aast (f := (va_up (va_up (va_up (va_up (va_up (va_up (va_up (va_up (va_up (fun _ => none) (0 : Int32).toNatClampNeg (some (gz G + 55))) (1 : Int32).toNatClampNeg (some (gz G + 71))) (2 : Int32).toNatClampNeg (some (gz G + 87))) (3 : Int32).toNatClampNeg (some (gz G + 103))) (4 : Int32).toNatClampNeg (some (gz G + 119))) (5 : Int32).toNatClampNeg (some (gz G + 135))) (6 : Int32).toNatClampNeg (some (gz G + 151))) (7 : Int32).toNatClampNeg (some (gz G + 167))) (8 : Int32).toNatClampNeg (some (gz G + 183)))) dX1_init_33 w319 (pl_0 (p := plE) w315) (vp_lit (by decide)) ?_
  have w331 := ln_set w316 (a := 54) (c := .inl (3, 10, .inr (.inr (.inr (.inr (va_up (va_up (va_up (va_up (va_up (va_up (va_up (va_up (va_up (va_up (fun _ => none) (0 : Int32).toNatClampNeg (some (gz G + 55))) (1 : Int32).toNatClampNeg (some (gz G + 71))) (2 : Int32).toNatClampNeg (some (gz G + 87))) (3 : Int32).toNatClampNeg (some (gz G + 103))) (4 : Int32).toNatClampNeg (some (gz G + 119))) (5 : Int32).toNatClampNeg (some (gz G + 135))) (6 : Int32).toNatClampNeg (some (gz G + 151))) (7 : Int32).toNatClampNeg (some (gz G + 167))) (8 : Int32).toNatClampNeg (some (gz G + 183))) (9 : Int32).toNatClampNeg (some (gz G + 199))))))))
  have w332 := lo_set w329 (a := 54) (c := .inl (3, 10, .inr (.inr (.inr (.inr (va_up (va_up (va_up (va_up (va_up (va_up (va_up (va_up (va_up (va_up (fun _ => none) (0 : Int32).toNatClampNeg (some (gz G + 55))) (1 : Int32).toNatClampNeg (some (gz G + 71))) (2 : Int32).toNatClampNeg (some (gz G + 87))) (3 : Int32).toNatClampNeg (some (gz G + 103))) (4 : Int32).toNatClampNeg (some (gz G + 119))) (5 : Int32).toNatClampNeg (some (gz G + 135))) (6 : Int32).toNatClampNeg (some (gz G + 151))) (7 : Int32).toNatClampNeg (some (gz G + 167))) (8 : Int32).toNatClampNeg (some (gz G + 183))) (9 : Int32).toNatClampNeg (some (gz G + 199)))))))) (by omega)
  have w333 := hs_ne (a := 54) (c1 := .inl (3, 10, .inr (.inr (.inr (.inr (va_up (va_up (va_up (va_up (va_up (va_up (va_up (va_up (va_up (va_up (fun _ => none) (0 : Int32).toNatClampNeg (some (gz G + 55))) (1 : Int32).toNatClampNeg (some (gz G + 71))) (2 : Int32).toNatClampNeg (some (gz G + 87))) (3 : Int32).toNatClampNeg (some (gz G + 103))) (4 : Int32).toNatClampNeg (some (gz G + 119))) (5 : Int32).toNatClampNeg (some (gz G + 135))) (6 : Int32).toNatClampNeg (some (gz G + 151))) (7 : Int32).toNatClampNeg (some (gz G + 167))) (8 : Int32).toNatClampNeg (some (gz G + 183))) (9 : Int32).toNatClampNeg (some (gz G + 199)))))))) w318 (by omega)
  have w334 := PlantAt.keep w320 (a := 54) (c := .inl (3, 10, .inr (.inr (.inr (.inr (va_up (va_up (va_up (va_up (va_up (va_up (va_up (va_up (va_up (va_up (fun _ => none) (0 : Int32).toNatClampNeg (some (gz G + 55))) (1 : Int32).toNatClampNeg (some (gz G + 71))) (2 : Int32).toNatClampNeg (some (gz G + 87))) (3 : Int32).toNatClampNeg (some (gz G + 103))) (4 : Int32).toNatClampNeg (some (gz G + 119))) (5 : Int32).toNatClampNeg (some (gz G + 135))) (6 : Int32).toNatClampNeg (some (gz G + 151))) (7 : Int32).toNatClampNeg (some (gz G + 167))) (8 : Int32).toNatClampNeg (some (gz G + 183))) (9 : Int32).toNatClampNeg (some (gz G + 199)))))))) (by omega)
  have w335 := PlantAt.keep w321 (a := 54) (c := .inl (3, 10, .inr (.inr (.inr (.inr (va_up (va_up (va_up (va_up (va_up (va_up (va_up (va_up (va_up (va_up (fun _ => none) (0 : Int32).toNatClampNeg (some (gz G + 55))) (1 : Int32).toNatClampNeg (some (gz G + 71))) (2 : Int32).toNatClampNeg (some (gz G + 87))) (3 : Int32).toNatClampNeg (some (gz G + 103))) (4 : Int32).toNatClampNeg (some (gz G + 119))) (5 : Int32).toNatClampNeg (some (gz G + 135))) (6 : Int32).toNatClampNeg (some (gz G + 151))) (7 : Int32).toNatClampNeg (some (gz G + 167))) (8 : Int32).toNatClampNeg (some (gz G + 183))) (9 : Int32).toNatClampNeg (some (gz G + 199)))))))) (by omega)
  have w336 := PlantAt.keep w322 (a := 54) (c := .inl (3, 10, .inr (.inr (.inr (.inr (va_up (va_up (va_up (va_up (va_up (va_up (va_up (va_up (va_up (va_up (fun _ => none) (0 : Int32).toNatClampNeg (some (gz G + 55))) (1 : Int32).toNatClampNeg (some (gz G + 71))) (2 : Int32).toNatClampNeg (some (gz G + 87))) (3 : Int32).toNatClampNeg (some (gz G + 103))) (4 : Int32).toNatClampNeg (some (gz G + 119))) (5 : Int32).toNatClampNeg (some (gz G + 135))) (6 : Int32).toNatClampNeg (some (gz G + 151))) (7 : Int32).toNatClampNeg (some (gz G + 167))) (8 : Int32).toNatClampNeg (some (gz G + 183))) (9 : Int32).toNatClampNeg (some (gz G + 199)))))))) (by omega)
  have w337 := PlantAt.keep w323 (a := 54) (c := .inl (3, 10, .inr (.inr (.inr (.inr (va_up (va_up (va_up (va_up (va_up (va_up (va_up (va_up (va_up (va_up (fun _ => none) (0 : Int32).toNatClampNeg (some (gz G + 55))) (1 : Int32).toNatClampNeg (some (gz G + 71))) (2 : Int32).toNatClampNeg (some (gz G + 87))) (3 : Int32).toNatClampNeg (some (gz G + 103))) (4 : Int32).toNatClampNeg (some (gz G + 119))) (5 : Int32).toNatClampNeg (some (gz G + 135))) (6 : Int32).toNatClampNeg (some (gz G + 151))) (7 : Int32).toNatClampNeg (some (gz G + 167))) (8 : Int32).toNatClampNeg (some (gz G + 183))) (9 : Int32).toNatClampNeg (some (gz G + 199)))))))) (by omega)
  have w338 := PlantAt.keep w324 (a := 54) (c := .inl (3, 10, .inr (.inr (.inr (.inr (va_up (va_up (va_up (va_up (va_up (va_up (va_up (va_up (va_up (va_up (fun _ => none) (0 : Int32).toNatClampNeg (some (gz G + 55))) (1 : Int32).toNatClampNeg (some (gz G + 71))) (2 : Int32).toNatClampNeg (some (gz G + 87))) (3 : Int32).toNatClampNeg (some (gz G + 103))) (4 : Int32).toNatClampNeg (some (gz G + 119))) (5 : Int32).toNatClampNeg (some (gz G + 135))) (6 : Int32).toNatClampNeg (some (gz G + 151))) (7 : Int32).toNatClampNeg (some (gz G + 167))) (8 : Int32).toNatClampNeg (some (gz G + 183))) (9 : Int32).toNatClampNeg (some (gz G + 199)))))))) (by omega)
  have w339 := PlantAt.keep w325 (a := 54) (c := .inl (3, 10, .inr (.inr (.inr (.inr (va_up (va_up (va_up (va_up (va_up (va_up (va_up (va_up (va_up (va_up (fun _ => none) (0 : Int32).toNatClampNeg (some (gz G + 55))) (1 : Int32).toNatClampNeg (some (gz G + 71))) (2 : Int32).toNatClampNeg (some (gz G + 87))) (3 : Int32).toNatClampNeg (some (gz G + 103))) (4 : Int32).toNatClampNeg (some (gz G + 119))) (5 : Int32).toNatClampNeg (some (gz G + 135))) (6 : Int32).toNatClampNeg (some (gz G + 151))) (7 : Int32).toNatClampNeg (some (gz G + 167))) (8 : Int32).toNatClampNeg (some (gz G + 183))) (9 : Int32).toNatClampNeg (some (gz G + 199)))))))) (by omega)
  have w340 := PlantAt.keep w326 (a := 54) (c := .inl (3, 10, .inr (.inr (.inr (.inr (va_up (va_up (va_up (va_up (va_up (va_up (va_up (va_up (va_up (va_up (fun _ => none) (0 : Int32).toNatClampNeg (some (gz G + 55))) (1 : Int32).toNatClampNeg (some (gz G + 71))) (2 : Int32).toNatClampNeg (some (gz G + 87))) (3 : Int32).toNatClampNeg (some (gz G + 103))) (4 : Int32).toNatClampNeg (some (gz G + 119))) (5 : Int32).toNatClampNeg (some (gz G + 135))) (6 : Int32).toNatClampNeg (some (gz G + 151))) (7 : Int32).toNatClampNeg (some (gz G + 167))) (8 : Int32).toNatClampNeg (some (gz G + 183))) (9 : Int32).toNatClampNeg (some (gz G + 199)))))))) (by omega)
  have w341 := PlantAt.keep w327 (a := 54) (c := .inl (3, 10, .inr (.inr (.inr (.inr (va_up (va_up (va_up (va_up (va_up (va_up (va_up (va_up (va_up (va_up (fun _ => none) (0 : Int32).toNatClampNeg (some (gz G + 55))) (1 : Int32).toNatClampNeg (some (gz G + 71))) (2 : Int32).toNatClampNeg (some (gz G + 87))) (3 : Int32).toNatClampNeg (some (gz G + 103))) (4 : Int32).toNatClampNeg (some (gz G + 119))) (5 : Int32).toNatClampNeg (some (gz G + 135))) (6 : Int32).toNatClampNeg (some (gz G + 151))) (7 : Int32).toNatClampNeg (some (gz G + 167))) (8 : Int32).toNatClampNeg (some (gz G + 183))) (9 : Int32).toNatClampNeg (some (gz G + 199)))))))) (by omega)
  have w342 := PlantAt.keep w328 (a := 54) (c := .inl (3, 10, .inr (.inr (.inr (.inr (va_up (va_up (va_up (va_up (va_up (va_up (va_up (va_up (va_up (va_up (fun _ => none) (0 : Int32).toNatClampNeg (some (gz G + 55))) (1 : Int32).toNatClampNeg (some (gz G + 71))) (2 : Int32).toNatClampNeg (some (gz G + 87))) (3 : Int32).toNatClampNeg (some (gz G + 103))) (4 : Int32).toNatClampNeg (some (gz G + 119))) (5 : Int32).toNatClampNeg (some (gz G + 135))) (6 : Int32).toNatClampNeg (some (gz G + 151))) (7 : Int32).toNatClampNeg (some (gz G + 167))) (8 : Int32).toNatClampNeg (some (gz G + 183))) (9 : Int32).toNatClampNeg (some (gz G + 199)))))))) (by omega)
  have w343 := PlantAt.keep w315 (a := 54) (c := .inl (3, 10, .inr (.inr (.inr (.inr (va_up (va_up (va_up (va_up (va_up (va_up (va_up (va_up (va_up (va_up (fun _ => none) (0 : Int32).toNatClampNeg (some (gz G + 55))) (1 : Int32).toNatClampNeg (some (gz G + 71))) (2 : Int32).toNatClampNeg (some (gz G + 87))) (3 : Int32).toNatClampNeg (some (gz G + 103))) (4 : Int32).toNatClampNeg (some (gz G + 119))) (5 : Int32).toNatClampNeg (some (gz G + 135))) (6 : Int32).toNatClampNeg (some (gz G + 151))) (7 : Int32).toNatClampNeg (some (gz G + 167))) (8 : Int32).toNatClampNeg (some (gz G + 183))) (9 : Int32).toNatClampNeg (some (gz G + 199)))))))) (by omega)
  have w330 := hs_self (c1 := .inl (3, 10, .inr (.inr (.inr (.inr (va_up (va_up (va_up (va_up (va_up (va_up (va_up (va_up (va_up (va_up (fun _ => none) (0 : Int32).toNatClampNeg (some (gz G + 55))) (1 : Int32).toNatClampNeg (some (gz G + 71))) (2 : Int32).toNatClampNeg (some (gz G + 87))) (3 : Int32).toNatClampNeg (some (gz G + 103))) (4 : Int32).toNatClampNeg (some (gz G + 119))) (5 : Int32).toNatClampNeg (some (gz G + 135))) (6 : Int32).toNatClampNeg (some (gz G + 151))) (7 : Int32).toNatClampNeg (some (gz G + 167))) (8 : Int32).toNatClampNeg (some (gz G + 183))) (9 : Int32).toNatClampNeg (some (gz G + 199)))))))) w319
  refine am_iinc (v := 10) dX1_init_34 0 rfl rfl (by decide) (lv' := [(1, .int 10), (0, .ref (gz G + 53))]) rfl ?_
  refine am_goto dX1_init_37 (by decide : ((37 : Nat) : Int) + (-22) = ((15 : Nat) : Int)) ?_
  refine am_iload_n dX1_init_15 0 rfl ?_
  refine am_bipush (v := 10) dX1_init_16 (by decide) ?_
  refine am_icmp_ge dX1_init_18 (by decide : ((18 : Nat) : Int) + (22) = ((40 : Nat) : Int)) (fun _ => ?_) (fun q => absurd q (by decide))
  exact am_return dX1_init_40 rfl ⟨rfl, w331, w332, w333, w330, w334, w335, w336, w337, w338, w339, w340, w341, w342, w343⟩

theorem dX2_init_0 : decode cX2_init 0 = .ok (.aload_n 0, 1) := by decide +kernel
theorem dX2_init_1 : decode cX2_init 1 = .ok (.invokespecial 3, 3) := by decide +kernel
theorem dX2_init_4 : decode cX2_init 4 = .ok (.aload_n 0, 1) := by decide +kernel
theorem dX2_init_5 : decode cX2_init 5 = .ok (.bipush 14, 2) := by decide +kernel
theorem dX2_init_7 : decode cX2_init 7 = .ok (.newarray .int, 2) := by decide +kernel
theorem dX2_init_9 : decode cX2_init 9 = .ok (.putfield 9, 3) := by decide +kernel
theorem dX2_init_12 : decode cX2_init 12 = .ok (.aload_n 0, 1) := by decide +kernel
theorem dX2_init_13 : decode cX2_init 13 = .ok (.sipush 196, 3) := by decide +kernel
theorem dX2_init_16 : decode cX2_init 16 = .ok (.newarray .int, 2) := by decide +kernel
theorem dX2_init_18 : decode cX2_init 18 = .ok (.putfield 15, 3) := by decide +kernel
theorem dX2_init_21 : decode cX2_init 21 = .ok (.aload_n 0, 1) := by decide +kernel
theorem dX2_init_22 : decode cX2_init 22 = .ok (.sipush 8192, 3) := by decide +kernel
theorem dX2_init_25 : decode cX2_init 25 = .ok (.newarray .long, 2) := by decide +kernel
theorem dX2_init_27 : decode cX2_init 27 = .ok (.putfield 18, 3) := by decide +kernel
theorem dX2_init_30 : decode cX2_init 30 = .ok (.return_, 1) := by decide +kernel
set_option maxRecDepth 20000 in
theorem ctX2_init {l : Launch} {G : GM} {h : List va_E} (hl : h.length = 216) (hc : h[215]? = some (.inr (3, [.null, .null, .null, .long 0]))) : Ct l G mX2_init 1 3 8402 [.ref (gz G + 215)] h (fun v h1 => v = none ∧ h1.length = 219 ∧ (∀ a, a < 215 → h1[a]? = h[a]?) ∧ h1[215]? = some (.inr (3, [.ref (gz G + 216), .ref (gz G + 217), .ref (gz G + 218), .long 0])) ∧ h1[216]? = some (.inl (0, 14, .inl (fun _ => 0))) ∧ h1[217]? = some (.inl (0, 196, .inl (fun _ => 0))) ∧ h1[218]? = some (.inl (2, 8192, .inr (.inl (fun _ => 0))))) := by
  show Tr l G mX2_init 1 3 8402 0 [(0, .ref (gz G + 215))] [] h _
  have hf : ∀ a, a < 215 → h[a]? = h[a]? := fun _ _ => rfl
  refine am_aload_n dX2_init_0 0 rfl ?_
  refine am_objInit dX2_init_1 kXX2_3 kOi.1 kOi.2 (Nat.le_of_ble_eq_true rfl) (by decide) ?_
  refine am_aload_n dX2_init_4 0 rfl ?_
  refine am_bipush (v := 14) dX2_init_5 (by decide) ?_
  refine am_newiL hl (k1 := 2) (u1 := 8388) (N := 14) dX2_init_7 kAI (by decide) rfl (by decide) (by decide) (by decide) ?_
  have w1 := hs_push hc (e := .inl (0, 14, .inl (fun _ => 0)))
  have w2 := hs_newc hl (e := .inl (0, 14, .inl (fun _ => 0)))
  have w3 := lo_push hf hl (e := .inl (0, 14, .inl (fun _ => 0))) (by omega)
  have w4 := ln_push hl (e := .inl (0, 14, .inl (fun _ => 0))) (show 216 + 1 = 217 from rfl)
  refine am_putF dX2_init_9 kFX2_9 rfl w1 (Nat.le_of_ble_eq_true rfl) rfl rfl ?_
  have w6 := ln_set w4 (a := 215) (c := .inr (3, [.ref (gz G + 216), .null, .null, .long 0]))
  have w7 := lo_set w3 (a := 215) (c := .inr (3, [.ref (gz G + 216), .null, .null, .long 0])) (by omega)
  have w8 := hs_ne (a := 215) (c1 := .inr (3, [.ref (gz G + 216), .null, .null, .long 0])) w2 (by omega)
  have w5 := hs_self (c1 := .inr (3, [.ref (gz G + 216), .null, .null, .long 0])) w1
  refine am_aload_n dX2_init_12 0 rfl ?_
  refine am_sipush (v := 196) dX2_init_13 (by decide) ?_
  refine am_newiL w6 (k1 := 1) (u1 := 8192) (N := 196) dX2_init_16 kAI (by decide) rfl (by decide) (by decide) (by decide) ?_
  have w9 := hs_push w5 (e := .inl (0, 196, .inl (fun _ => 0)))
  have w10 := hs_push w8 (e := .inl (0, 196, .inl (fun _ => 0)))
  have w11 := hs_newc w6 (e := .inl (0, 196, .inl (fun _ => 0)))
  have w12 := lo_push w7 w6 (e := .inl (0, 196, .inl (fun _ => 0))) (by omega)
  have w13 := ln_push w6 (e := .inl (0, 196, .inl (fun _ => 0))) (show 217 + 1 = 218 from rfl)
  refine am_putF dX2_init_18 kFX2_15 rfl w9 (Nat.le_of_ble_eq_true rfl) rfl rfl ?_
  have w15 := ln_set w13 (a := 215) (c := .inr (3, [.ref (gz G + 216), .ref (gz G + 217), .null, .long 0]))
  have w16 := lo_set w12 (a := 215) (c := .inr (3, [.ref (gz G + 216), .ref (gz G + 217), .null, .long 0])) (by omega)
  have w17 := hs_ne (a := 215) (c1 := .inr (3, [.ref (gz G + 216), .ref (gz G + 217), .null, .long 0])) w10 (by omega)
  have w18 := hs_ne (a := 215) (c1 := .inr (3, [.ref (gz G + 216), .ref (gz G + 217), .null, .long 0])) w11 (by omega)
  have w14 := hs_self (c1 := .inr (3, [.ref (gz G + 216), .ref (gz G + 217), .null, .long 0])) w9
  refine am_aload_n dX2_init_21 0 rfl ?_
  refine am_sipush (v := 8192) dX2_init_22 (by decide) ?_
  refine am_newlL w15 (k1 := 0) (u1 := 0) (N := 8192) dX2_init_25 kAJ (by decide) rfl (by decide) (by decide) (by decide) ?_
  have w19 := hs_push w14 (e := .inl (2, 8192, .inr (.inl (fun _ => 0))))
  have w20 := hs_push w17 (e := .inl (2, 8192, .inr (.inl (fun _ => 0))))
  have w21 := hs_push w18 (e := .inl (2, 8192, .inr (.inl (fun _ => 0))))
  have w22 := hs_newc w15 (e := .inl (2, 8192, .inr (.inl (fun _ => 0))))
  have w23 := lo_push w16 w15 (e := .inl (2, 8192, .inr (.inl (fun _ => 0)))) (by omega)
  have w24 := ln_push w15 (e := .inl (2, 8192, .inr (.inl (fun _ => 0)))) (show 218 + 1 = 219 from rfl)
  refine am_putF dX2_init_27 kFX2_18 rfl w19 (Nat.le_of_ble_eq_true rfl) rfl rfl ?_
  have w26 := ln_set w24 (a := 215) (c := .inr (3, [.ref (gz G + 216), .ref (gz G + 217), .ref (gz G + 218), .long 0]))
  have w27 := lo_set w23 (a := 215) (c := .inr (3, [.ref (gz G + 216), .ref (gz G + 217), .ref (gz G + 218), .long 0])) (by omega)
  have w28 := hs_ne (a := 215) (c1 := .inr (3, [.ref (gz G + 216), .ref (gz G + 217), .ref (gz G + 218), .long 0])) w20 (by omega)
  have w29 := hs_ne (a := 215) (c1 := .inr (3, [.ref (gz G + 216), .ref (gz G + 217), .ref (gz G + 218), .long 0])) w21 (by omega)
  have w30 := hs_ne (a := 215) (c1 := .inr (3, [.ref (gz G + 216), .ref (gz G + 217), .ref (gz G + 218), .long 0])) w22 (by omega)
  have w25 := hs_self (c1 := .inr (3, [.ref (gz G + 216), .ref (gz G + 217), .ref (gz G + 218), .long 0])) w19
  exact am_return dX2_init_30 rfl ⟨rfl, w26, w27, w25, w28, w29, w30⟩

theorem dX3_init_0 : decode cX3_init 0 = .ok (.aload_n 0, 1) := by decide +kernel
theorem dX3_init_1 : decode cX3_init 1 = .ok (.invokespecial 3, 3) := by decide +kernel
theorem dX3_init_4 : decode cX3_init 4 = .ok (.aload_n 0, 1) := by decide +kernel
theorem dX3_init_5 : decode cX3_init 5 = .ok (.bipush 14, 2) := by decide +kernel
theorem dX3_init_7 : decode cX3_init 7 = .ok (.newarray .int, 2) := by decide +kernel
theorem dX3_init_9 : decode cX3_init 9 = .ok (.putfield 9, 3) := by decide +kernel
theorem dX3_init_12 : decode cX3_init 12 = .ok (.return_, 1) := by decide +kernel
set_option maxRecDepth 20000 in
theorem ctX3_init {l : Launch} {G : GM} {h : List va_E} (hl : h.length = 220) (hc : h[219]? = some (.inr (4, [.int 0, .int 0, .int 0, .null]))) : Ct l G mX3_init 1 1 14 [.ref (gz G + 219)] h (fun v h1 => v = none ∧ h1.length = 221 ∧ (∀ a, a < 219 → h1[a]? = h[a]?) ∧ h1[219]? = some (.inr (4, [.int 0, .int 0, .int 0, .ref (gz G + 220)])) ∧ h1[220]? = some (.inl (0, 14, .inl (fun _ => 0)))) := by
  show Tr l G mX3_init 1 1 14 0 [(0, .ref (gz G + 219))] [] h _
  have hf : ∀ a, a < 219 → h[a]? = h[a]? := fun _ _ => rfl
  refine am_aload_n dX3_init_0 0 rfl ?_
  refine am_objInit dX3_init_1 kXX3_3 kOi.1 kOi.2 (Nat.le_of_ble_eq_true rfl) (by decide) ?_
  refine am_aload_n dX3_init_4 0 rfl ?_
  refine am_bipush (v := 14) dX3_init_5 (by decide) ?_
  refine am_newiL hl (k1 := 0) (u1 := 0) (N := 14) dX3_init_7 kAI (by decide) rfl (by decide) (by decide) (by decide) ?_
  have w1 := hs_push hc (e := .inl (0, 14, .inl (fun _ => 0)))
  have w2 := hs_newc hl (e := .inl (0, 14, .inl (fun _ => 0)))
  have w3 := lo_push hf hl (e := .inl (0, 14, .inl (fun _ => 0))) (by omega)
  have w4 := ln_push hl (e := .inl (0, 14, .inl (fun _ => 0))) (show 220 + 1 = 221 from rfl)
  refine am_putF dX3_init_9 kFX3_9 rfl w1 (Nat.le_of_ble_eq_true rfl) rfl rfl ?_
  have w6 := ln_set w4 (a := 219) (c := .inr (4, [.int 0, .int 0, .int 0, .ref (gz G + 220)]))
  have w7 := lo_set w3 (a := 219) (c := .inr (4, [.int 0, .int 0, .int 0, .ref (gz G + 220)])) (by omega)
  have w8 := hs_ne (a := 219) (c1 := .inr (4, [.int 0, .int 0, .int 0, .ref (gz G + 220)])) w2 (by omega)
  have w5 := hs_self (c1 := .inr (4, [.int 0, .int 0, .int 0, .ref (gz G + 220)])) w1
  exact am_return dX3_init_12 rfl ⟨rfl, w6, w7, w5, w8⟩

theorem dJ5_init_d00df_0 : decode cJ5_init_d00df 0 = .ok (.aload_n 0, 1) := by decide +kernel
theorem dJ5_init_d00df_1 : decode cJ5_init_d00df 1 = .ok (.invokespecial 3, 3) := by decide +kernel
theorem dJ5_init_d00df_4 : decode cJ5_init_d00df 4 = .ok (.getstatic 18, 3) := by decide +kernel
theorem dJ5_init_d00df_7 : decode cJ5_init_d00df 7 = .ok (.ifCond .eq 18, 3) := by decide +kernel
theorem dJ5_init_d00df_10 : decode cJ5_init_d00df 10 = .ok (.aload_n 0, 1) := by decide +kernel
theorem dJ5_init_d00df_11 : decode cJ5_init_d00df 11 = .ok (.iload_n 1, 1) := by decide +kernel
theorem dJ5_init_d00df_12 : decode cJ5_init_d00df 12 = .ok (.newarray .byte, 2) := by decide +kernel
theorem dJ5_init_d00df_14 : decode cJ5_init_d00df 14 = .ok (.putfield 15, 3) := by decide +kernel
theorem dJ5_init_d00df_17 : decode cJ5_init_d00df 17 = .ok (.aload_n 0, 1) := by decide +kernel
theorem dJ5_init_d00df_18 : decode cJ5_init_d00df 18 = .ok (.iconst 0, 1) := by decide +kernel
theorem dJ5_init_d00df_19 : decode cJ5_init_d00df 19 = .ok (.putfield 22, 3) := by decide +kernel
theorem dJ5_init_d00df_22 : decode cJ5_init_d00df 22 = .ok (.goto 16, 3) := by decide +kernel
theorem dJ5_init_d00df_38 : decode cJ5_init_d00df 38 = .ok (.return_, 1) := by decide +kernel
set_option maxRecDepth 20000 in
theorem ctJ5_init_d00df {l : Launch} {G : GM} {h : List va_E} (hl : h.length = 20) (hc : h[19]? = some (.inr (0, [.null, .int 0, .int 0, .int 0]))) : Ct l G mJ5_init_d00df 1 1 16 [.ref (gz G + 19), .int 16] h (fun v h1 => v = none ∧ h1.length = 21 ∧ (∀ a, a < 19 → h1[a]? = h[a]?) ∧ h1[19]? = some (.inr (0, [.ref (gz G + 20), .int 0, .int 0, .int 0])) ∧ h1[20]? = some (.inl (1, 16, .inl (fun _ => 0)))) := by
  show Tr l G mJ5_init_d00df 1 1 16 0 [(0, .ref (gz G + 19)), (1, .int 16)] [] h _
  have hf : ∀ a, a < 19 → h[a]? = h[a]? := fun _ _ => rfl
  refine am_aload_n dJ5_init_d00df_0 0 rfl ?_
  refine am_objInit dJ5_init_d00df_1 kXJ5_3 kOi.1 kOi.2 (Nat.le_of_ble_eq_true rfl) (by decide) ?_
  refine am_compact dJ5_init_d00df_4 (lw_k1 221 (by decide +kernel) (by decide +kernel)) ?_
  refine am_if_eq dJ5_init_d00df_7 (by decide : ((7 : Nat) : Int) + (18) = ((25 : Nat) : Int)) (fun q => absurd q (by decide)) (fun _ => ?_)
  refine am_aload_n dJ5_init_d00df_10 0 rfl ?_
  refine am_iload_n dJ5_init_d00df_11 1 rfl ?_
  refine am_newbL hl (k1 := 0) (u1 := 0) (N := 16) dJ5_init_d00df_12 kAB (by decide) rfl (by decide) (by decide) (by decide) ?_
  have w2 := hs_push hc (e := .inl (1, 16, .inl (fun _ => 0)))
  have w3 := hs_newc hl (e := .inl (1, 16, .inl (fun _ => 0)))
  have w4 := lo_push hf hl (e := .inl (1, 16, .inl (fun _ => 0))) (by omega)
  have w5 := ln_push hl (e := .inl (1, 16, .inl (fun _ => 0))) (show 20 + 1 = 21 from rfl)
  refine am_put dJ5_init_d00df_14 kFJ5_15 w2 (Nat.le_of_ble_eq_true rfl) rfl rfl ?_
  have w7 := ln_set w5 (a := 19) (c := .inr (0, [.ref (gz G + 20), .int 0, .int 0, .int 0]))
  have w8 := lo_set w4 (a := 19) (c := .inr (0, [.ref (gz G + 20), .int 0, .int 0, .int 0])) (by omega)
  have w9 := hs_ne (a := 19) (c1 := .inr (0, [.ref (gz G + 20), .int 0, .int 0, .int 0])) w3 (by omega)
  have w6 := hs_self (c1 := .inr (0, [.ref (gz G + 20), .int 0, .int 0, .int 0])) w2
  refine am_aload_n dJ5_init_d00df_17 0 rfl ?_
  refine am_iconst (v := 0) dJ5_init_d00df_18 (by decide) ?_
  refine am_put dJ5_init_d00df_19 kFJ5_22 w6 (Nat.le_of_ble_eq_true rfl) rfl rfl ?_
  have w11 := ln_set w7 (a := 19) (c := .inr (0, [.ref (gz G + 20), .int 0, .int 0, .int 0]))
  have w12 := lo_set w8 (a := 19) (c := .inr (0, [.ref (gz G + 20), .int 0, .int 0, .int 0])) (by omega)
  have w13 := hs_ne (a := 19) (c1 := .inr (0, [.ref (gz G + 20), .int 0, .int 0, .int 0])) w9 (by omega)
  have w10 := hs_self (c1 := .inr (0, [.ref (gz G + 20), .int 0, .int 0, .int 0])) w6
  refine am_goto dJ5_init_d00df_22 (by decide : ((22 : Nat) : Int) + (16) = ((38 : Nat) : Int)) ?_
  exact am_return dJ5_init_d00df_38 rfl ⟨rfl, w11, w12, w10, w13⟩

theorem dJ4_init_da8c8_0 : decode cJ4_init_da8c8 0 = .ok (.aload_n 0, 1) := by decide +kernel
theorem dJ4_init_da8c8_1 : decode cJ4_init_da8c8 1 = .ok (.bipush 16, 2) := by decide +kernel
theorem dJ4_init_da8c8_3 : decode cJ4_init_da8c8 3 = .ok (.invokespecial 1, 3) := by decide +kernel
theorem dJ4_init_da8c8_6 : decode cJ4_init_da8c8 6 = .ok (.return_, 1) := by decide +kernel
set_option maxRecDepth 20000 in
theorem ctJ4_init_da8c8 {l : Launch} {G : GM} {h : List va_E} (hl : h.length = 20) (hc : h[19]? = some (.inr (0, [.null, .int 0, .int 0, .int 0]))) : Ct l G mJ4_init_da8c8 2 1 16 [.ref (gz G + 19)] h (fun v h1 => v = none ∧ h1.length = 21 ∧ (∀ a, a < 19 → h1[a]? = h[a]?) ∧ h1[19]? = some (.inr (0, [.ref (gz G + 20), .int 0, .int 0, .int 0])) ∧ h1[20]? = some (.inl (1, 16, .inl (fun _ => 0)))) := by
  show Tr l G mJ4_init_da8c8 2 1 16 0 [(0, .ref (gz G + 19))] [] h _
  have hf : ∀ a, a < 19 → h[a]? = h[a]? := fun _ _ => rfl
  refine am_aload_n dJ4_init_da8c8_0 0 rfl ?_
  refine am_bipush (v := 16) dJ4_init_da8c8_1 (by decide) ?_
  refine am_callI (As := [.int 16]) (rest := []) dJ4_init_da8c8_3 kMJ4_1 rfl  rfl (Nat.le_of_ble_eq_true rfl) (d2 := 1) (by decide) (k2 := 1) (by omega) (u2 := 16) (by omega) (Nat.le_of_ble_eq_true rfl) (ctJ5_init_d00df hl hc ) (fun v1 h2 q3 => ?_)
  obtain ⟨rfl, w6, w7, w4, w5⟩ := q3
  have w8 := lo_tr hf w7 (by omega)
  exact am_return dJ4_init_da8c8_6 rfl ⟨rfl, w6, w8, w4, w5⟩

theorem dX6_init_0 : decode cX6_init 0 = .ok (.aload_n 0, 1) := by decide +kernel
theorem dX6_init_1 : decode cX6_init 1 = .ok (.invokespecial 1, 3) := by decide +kernel
theorem dX6_init_4 : decode cX6_init 4 = .ok (.aload_n 0, 1) := by decide +kernel
theorem dX6_init_5 : decode cX6_init 5 = .ok (.new 7, 3) := by decide +kernel
theorem dX6_init_8 : decode cX6_init 8 = .ok (.dup, 1) := by decide +kernel
theorem dX6_init_9 : decode cX6_init 9 = .ok (.invokespecial 9, 3) := by decide +kernel
theorem dX6_init_12 : decode cX6_init 12 = .ok (.putfield 10, 3) := by decide +kernel
theorem dX6_init_15 : decode cX6_init 15 = .ok (.aload_n 0, 1) := by decide +kernel
theorem dX6_init_16 : decode cX6_init 16 = .ok (.aload_n 0, 1) := by decide +kernel
theorem dX6_init_17 : decode cX6_init 17 = .ok (.getfield 10, 3) := by decide +kernel
theorem dX6_init_20 : decode cX6_init 20 = .ok (.getfield 16, 3) := by decide +kernel
theorem dX6_init_23 : decode cX6_init 23 = .ok (.putfield 20, 3) := by decide +kernel
theorem dX6_init_26 : decode cX6_init 26 = .ok (.aload_n 0, 1) := by decide +kernel
theorem dX6_init_27 : decode cX6_init 27 = .ok (.new 23, 3) := by decide +kernel
theorem dX6_init_30 : decode cX6_init 30 = .ok (.dup, 1) := by decide +kernel
theorem dX6_init_31 : decode cX6_init 31 = .ok (.invokespecial 25, 3) := by decide +kernel
theorem dX6_init_34 : decode cX6_init 34 = .ok (.putfield 26, 3) := by decide +kernel
theorem dX6_init_37 : decode cX6_init 37 = .ok (.aload_n 0, 1) := by decide +kernel
theorem dX6_init_38 : decode cX6_init 38 = .ok (.new 30, 3) := by decide +kernel
theorem dX6_init_41 : decode cX6_init 41 = .ok (.dup, 1) := by decide +kernel
theorem dX6_init_42 : decode cX6_init 42 = .ok (.invokespecial 32, 3) := by decide +kernel
theorem dX6_init_45 : decode cX6_init 45 = .ok (.putfield 33, 3) := by decide +kernel
theorem dX6_init_48 : decode cX6_init 48 = .ok (.aload_n 0, 1) := by decide +kernel
theorem dX6_init_49 : decode cX6_init 49 = .ok (.new 30, 3) := by decide +kernel
theorem dX6_init_52 : decode cX6_init 52 = .ok (.dup, 1) := by decide +kernel
theorem dX6_init_53 : decode cX6_init 53 = .ok (.invokespecial 32, 3) := by decide +kernel
theorem dX6_init_56 : decode cX6_init 56 = .ok (.putfield 37, 3) := by decide +kernel
theorem dX6_init_59 : decode cX6_init 59 = .ok (.aload_n 0, 1) := by decide +kernel
theorem dX6_init_60 : decode cX6_init 60 = .ok (.new 40, 3) := by decide +kernel
theorem dX6_init_63 : decode cX6_init 63 = .ok (.dup, 1) := by decide +kernel
theorem dX6_init_64 : decode cX6_init 64 = .ok (.invokespecial 42, 3) := by decide +kernel
theorem dX6_init_67 : decode cX6_init 67 = .ok (.putfield 43, 3) := by decide +kernel
theorem dX6_init_70 : decode cX6_init 70 = .ok (.aload_n 0, 1) := by decide +kernel
theorem dX6_init_71 : decode cX6_init 71 = .ok (.new 47, 3) := by decide +kernel
theorem dX6_init_74 : decode cX6_init 74 = .ok (.dup, 1) := by decide +kernel
theorem dX6_init_75 : decode cX6_init 75 = .ok (.invokespecial 49, 3) := by decide +kernel
theorem dX6_init_78 : decode cX6_init 78 = .ok (.putfield 50, 3) := by decide +kernel
theorem dX6_init_81 : decode cX6_init 81 = .ok (.aload_n 0, 1) := by decide +kernel
theorem dX6_init_82 : decode cX6_init 82 = .ok (.new 54, 3) := by decide +kernel
theorem dX6_init_85 : decode cX6_init 85 = .ok (.dup, 1) := by decide +kernel
theorem dX6_init_86 : decode cX6_init 86 = .ok (.invokespecial 56, 3) := by decide +kernel
theorem dX6_init_89 : decode cX6_init 89 = .ok (.putfield 57, 3) := by decide +kernel
theorem dX6_init_92 : decode cX6_init 92 = .ok (.return_, 1) := by decide +kernel
set_option maxRecDepth 20000 in
theorem ctX6_init {l : Launch} {G : GM} {h : List va_E} (hl : h.length = 1) (hc : h[0]? = some (.inr (7, [.null, .int 0, .null, .null, .null, .null, .null, .null, .null]))) : Ct l G mX6_init 4 220 11749 [.ref (gz G + 0)] h (fun v h1 => v = none ∧ h1.length = 221 ∧ (∀ a, a < 0 → h1[a]? = h[a]?) ∧ h1[0]? = some (.inr (7, [.ref (gz G + 2), .int 0, .ref (gz G + 19), .ref (gz G + 1), .ref (gz G + 21), .ref (gz G + 37), .ref (gz G + 53), .ref (gz G + 215), .ref (gz G + 219)])) ∧ h1[2]? = some (.inl (0, 1200, .inl (fun _ => 0))) ∧ h1[19]? = some (.inr (0, [.ref (gz G + 20), .int 0, .int 0, .int 0])) ∧ h1[20]? = some (.inl (1, 16, .inl (fun _ => 0))) ∧ h1[1]? = some (.inr (5, [.ref (gz G + 3), .int 0, .int (-1), .ref (gz G + 2), .int 0, .int 0, .int 0, .int 0, .int 0, .int 0, .int 0, .int 0])) ∧ PlantAt G h1 3 plE ∧ PlantAt G h1 21 plE ∧ PlantAt G h1 37 plE ∧ h1[53]? = some (.inr (2, [.int 0, .int 0, .ref (gz G + 54)])) ∧ h1[54]? = some (.inl (3, 10, .inr (.inr (.inr (.inr (va_up (va_up (va_up (va_up (va_up (va_up (va_up (va_up (va_up (va_up (fun _ => none) (0 : Int32).toNatClampNeg (some (gz G + 55))) (1 : Int32).toNatClampNeg (some (gz G + 71))) (2 : Int32).toNatClampNeg (some (gz G + 87))) (3 : Int32).toNatClampNeg (some (gz G + 103))) (4 : Int32).toNatClampNeg (some (gz G + 119))) (5 : Int32).toNatClampNeg (some (gz G + 135))) (6 : Int32).toNatClampNeg (some (gz G + 151))) (7 : Int32).toNatClampNeg (some (gz G + 167))) (8 : Int32).toNatClampNeg (some (gz G + 183))) (9 : Int32).toNatClampNeg (some (gz G + 199)))))))) ∧ PlantAt G h1 55 plE ∧ PlantAt G h1 71 plE ∧ PlantAt G h1 87 plE ∧ PlantAt G h1 103 plE ∧ PlantAt G h1 119 plE ∧ PlantAt G h1 135 plE ∧ PlantAt G h1 151 plE ∧ PlantAt G h1 167 plE ∧ PlantAt G h1 183 plE ∧ PlantAt G h1 199 plE ∧ h1[215]? = some (.inr (3, [.ref (gz G + 216), .ref (gz G + 217), .ref (gz G + 218), .long 0])) ∧ h1[216]? = some (.inl (0, 14, .inl (fun _ => 0))) ∧ h1[217]? = some (.inl (0, 196, .inl (fun _ => 0))) ∧ h1[218]? = some (.inl (2, 8192, .inr (.inl (fun _ => 0)))) ∧ h1[219]? = some (.inr (4, [.int 0, .int 0, .int 0, .ref (gz G + 220)])) ∧ h1[220]? = some (.inl (0, 14, .inl (fun _ => 0)))) := by
  show Tr l G mX6_init 4 220 11749 0 [(0, .ref (gz G + 0))] [] h _
  have hf : ∀ a, a < 0 → h[a]? = h[a]? := fun _ _ => rfl
  refine am_aload_n dX6_init_0 0 rfl ?_
  refine am_objInit dX6_init_1 kXX6_1 kOi.1 kOi.2 (Nat.le_of_ble_eq_true rfl) (by decide) ?_
  refine am_aload_n dX6_init_4 0 rfl ?_
  refine am_newL hl (k1 := 219) (u1 := 11737) dX6_init_5 kNX6_7 (by decide) (by decide) ?_
  have w1 := hs_push hc (e := .inr (5, [.null, .int 0, .int 0, .null, .int 0, .int 0, .int 0, .int 0, .int 0, .int 0, .int 0, .int 0]))
  have w2 := hs_newc hl (e := .inr (5, [.null, .int 0, .int 0, .null, .int 0, .int 0, .int 0, .int 0, .int 0, .int 0, .int 0, .int 0]))
  have w3 := lo_push hf hl (e := .inr (5, [.null, .int 0, .int 0, .null, .int 0, .int 0, .int 0, .int 0, .int 0, .int 0, .int 0, .int 0])) (by omega)
  have w4 := ln_push hl (e := .inr (5, [.null, .int 0, .int 0, .null, .int 0, .int 0, .int 0, .int 0, .int 0, .int 0, .int 0, .int 0])) (show 1 + 1 = 2 from rfl)
  refine am_dup dX6_init_8 rfl ?_
  refine am_callI (As := []) (rest := [.ref (gz G + 1), .ref (gz G + 0)]) dX6_init_9 kMX6_9 rfl  rfl (Nat.le_of_ble_eq_true rfl) (d2 := 3) (by decide) (k2 := 17) (by omega) (u2 := 1360) (by omega) (Nat.le_of_ble_eq_true rfl) (ctX4_init w4 w2 ) (fun v5 h6 q7 => ?_)
  obtain ⟨rfl, w11, w12, w8, w9, w10⟩ := q7
  have w13 := (w12 _ (by omega)).trans w1
  have w14 := lo_tr w3 w12 (by omega)
  refine am_putF dX6_init_12 kFX6_10 rfl w13 (Nat.le_of_ble_eq_true rfl) rfl rfl ?_
  have w16 := ln_set w11 (a := 0) (c := .inr (7, [.null, .int 0, .null, .ref (gz G + 1), .null, .null, .null, .null, .null]))
  have w17 := lo_set w14 (a := 0) (c := .inr (7, [.null, .int 0, .null, .ref (gz G + 1), .null, .null, .null, .null, .null])) (by omega)
  have w18 := hs_ne (a := 0) (c1 := .inr (7, [.null, .int 0, .null, .ref (gz G + 1), .null, .null, .null, .null, .null])) w8 (by omega)
  have w19 := hs_ne (a := 0) (c1 := .inr (7, [.null, .int 0, .null, .ref (gz G + 1), .null, .null, .null, .null, .null])) w9 (by omega)
  have w20 := PlantAt.keep w10 (a := 0) (c := .inr (7, [.null, .int 0, .null, .ref (gz G + 1), .null, .null, .null, .null, .null])) (by omega)
  have w15 := hs_self (c1 := .inr (7, [.null, .int 0, .null, .ref (gz G + 1), .null, .null, .null, .null, .null])) w13
  refine am_aload_n dX6_init_15 0 rfl ?_
  refine am_aload_n dX6_init_16 0 rfl ?_
  refine am_get (v := .ref (gz G + 1)) dX6_init_17 kGX6_10 w15 rfl ?_
  refine am_get (v := .ref (gz G + 2)) dX6_init_20 kGX6_16 w18 rfl ?_
  refine am_putF dX6_init_23 kFX6_20 rfl w15 (Nat.le_of_ble_eq_true rfl) rfl rfl ?_
  have w22 := ln_set w16 (a := 0) (c := .inr (7, [.ref (gz G + 2), .int 0, .null, .ref (gz G + 1), .null, .null, .null, .null, .null]))
  have w23 := lo_set w17 (a := 0) (c := .inr (7, [.ref (gz G + 2), .int 0, .null, .ref (gz G + 1), .null, .null, .null, .null, .null])) (by omega)
  have w24 := hs_ne (a := 0) (c1 := .inr (7, [.ref (gz G + 2), .int 0, .null, .ref (gz G + 1), .null, .null, .null, .null, .null])) w18 (by omega)
  have w25 := hs_ne (a := 0) (c1 := .inr (7, [.ref (gz G + 2), .int 0, .null, .ref (gz G + 1), .null, .null, .null, .null, .null])) w19 (by omega)
  have w26 := PlantAt.keep w20 (a := 0) (c := .inr (7, [.ref (gz G + 2), .int 0, .null, .ref (gz G + 1), .null, .null, .null, .null, .null])) (by omega)
  have w21 := hs_self (c1 := .inr (7, [.ref (gz G + 2), .int 0, .null, .ref (gz G + 1), .null, .null, .null, .null, .null])) w15
  refine am_aload_n dX6_init_26 0 rfl ?_
  refine am_newL w22 (k1 := 201) (u1 := 10373) dX6_init_27 kNX6_23 (by decide) (by decide) ?_
  have w27 := hs_push w21 (e := .inr (0, [.null, .int 0, .int 0, .int 0]))
  have w28 := hs_push w24 (e := .inr (0, [.null, .int 0, .int 0, .int 0]))
  have w29 := hs_push w25 (e := .inr (0, [.null, .int 0, .int 0, .int 0]))
  have w30 := PlantAt.push w26 (e := .inr (0, [.null, .int 0, .int 0, .int 0]))
  have w31 := hs_newc w22 (e := .inr (0, [.null, .int 0, .int 0, .int 0]))
  have w32 := lo_push w23 w22 (e := .inr (0, [.null, .int 0, .int 0, .int 0])) (by omega)
  have w33 := ln_push w22 (e := .inr (0, [.null, .int 0, .int 0, .int 0])) (show 19 + 1 = 20 from rfl)
  refine am_dup dX6_init_30 rfl ?_
  refine am_callI (As := []) (rest := [.ref (gz G + 19), .ref (gz G + 0)]) dX6_init_31 kMX6_25 rfl  rfl (Nat.le_of_ble_eq_true rfl) (d2 := 2) (by decide) (k2 := 1) (by omega) (u2 := 16) (by omega) (Nat.le_of_ble_eq_true rfl) (ctJ4_init_da8c8 w33 w31 ) (fun v34 h35 q36 => ?_)
  obtain ⟨rfl, w39, w40, w37, w38⟩ := q36
  have w41 := (w40 _ (by omega)).trans w27
  have w42 := (w40 _ (by omega)).trans w28
  have w43 := (w40 _ (by omega)).trans w29
  have w44 := w30.low w40 (by omega)
  have w45 := lo_tr w32 w40 (by omega)
  refine am_putF dX6_init_34 kFX6_26 rfl w41 (Nat.le_of_ble_eq_true rfl) rfl rfl ?_
  have w47 := ln_set w39 (a := 0) (c := .inr (7, [.ref (gz G + 2), .int 0, .ref (gz G + 19), .ref (gz G + 1), .null, .null, .null, .null, .null]))
  have w48 := lo_set w45 (a := 0) (c := .inr (7, [.ref (gz G + 2), .int 0, .ref (gz G + 19), .ref (gz G + 1), .null, .null, .null, .null, .null])) (by omega)
  have w49 := hs_ne (a := 0) (c1 := .inr (7, [.ref (gz G + 2), .int 0, .ref (gz G + 19), .ref (gz G + 1), .null, .null, .null, .null, .null])) w42 (by omega)
  have w50 := hs_ne (a := 0) (c1 := .inr (7, [.ref (gz G + 2), .int 0, .ref (gz G + 19), .ref (gz G + 1), .null, .null, .null, .null, .null])) w43 (by omega)
  have w51 := PlantAt.keep w44 (a := 0) (c := .inr (7, [.ref (gz G + 2), .int 0, .ref (gz G + 19), .ref (gz G + 1), .null, .null, .null, .null, .null])) (by omega)
  have w52 := hs_ne (a := 0) (c1 := .inr (7, [.ref (gz G + 2), .int 0, .ref (gz G + 19), .ref (gz G + 1), .null, .null, .null, .null, .null])) w37 (by omega)
  have w53 := hs_ne (a := 0) (c1 := .inr (7, [.ref (gz G + 2), .int 0, .ref (gz G + 19), .ref (gz G + 1), .null, .null, .null, .null, .null])) w38 (by omega)
  have w46 := hs_self (c1 := .inr (7, [.ref (gz G + 2), .int 0, .ref (gz G + 19), .ref (gz G + 1), .null, .null, .null, .null, .null])) w41
  refine am_aload_n dX6_init_37 0 rfl ?_
  refine am_newL w47 (k1 := 199) (u1 := 10344) dX6_init_38 kNX6_30 (by decide) (by decide) ?_
  have w54 := hs_push w46 (e := .inr (6, [.null, .int 0, .int 0, .int 0, .int 0, .int 0, .int 0, .null, .null, .null, .null, .null, .null]))
  have w55 := hs_push w49 (e := .inr (6, [.null, .int 0, .int 0, .int 0, .int 0, .int 0, .int 0, .null, .null, .null, .null, .null, .null]))
  have w56 := hs_push w50 (e := .inr (6, [.null, .int 0, .int 0, .int 0, .int 0, .int 0, .int 0, .null, .null, .null, .null, .null, .null]))
  have w57 := PlantAt.push w51 (e := .inr (6, [.null, .int 0, .int 0, .int 0, .int 0, .int 0, .int 0, .null, .null, .null, .null, .null, .null]))
  have w58 := hs_push w52 (e := .inr (6, [.null, .int 0, .int 0, .int 0, .int 0, .int 0, .int 0, .null, .null, .null, .null, .null, .null]))
  have w59 := hs_push w53 (e := .inr (6, [.null, .int 0, .int 0, .int 0, .int 0, .int 0, .int 0, .null, .null, .null, .null, .null, .null]))
  have w60 := hs_newc w47 (e := .inr (6, [.null, .int 0, .int 0, .int 0, .int 0, .int 0, .int 0, .null, .null, .null, .null, .null, .null]))
  have w61 := lo_push w48 w47 (e := .inr (6, [.null, .int 0, .int 0, .int 0, .int 0, .int 0, .int 0, .null, .null, .null, .null, .null, .null])) (by omega)
  have w62 := ln_push w47 (e := .inr (6, [.null, .int 0, .int 0, .int 0, .int 0, .int 0, .int 0, .null, .null, .null, .null, .null, .null])) (show 21 + 1 = 22 from rfl)
  refine am_dup dX6_init_41 rfl ?_
  refine am_callI (As := []) (rest := [.ref (gz G + 21), .ref (gz G + 0)]) dX6_init_42 kMX6_32 rfl  rfl (Nat.le_of_ble_eq_true rfl) (d2 := 2) (by decide) (k2 := 15) (by omega) (u2 := 147) (by omega) (Nat.le_of_ble_eq_true rfl) (ctX5_init w62 w60 ) (fun v63 h64 q65 => ?_)
  obtain ⟨rfl, w67, w68, w66⟩ := q65
  have w69 := (w68 _ (by omega)).trans w54
  have w70 := (w68 _ (by omega)).trans w55
  have w71 := (w68 _ (by omega)).trans w56
  have w72 := w57.low w68 (by omega)
  have w73 := (w68 _ (by omega)).trans w58
  have w74 := (w68 _ (by omega)).trans w59
  have w75 := lo_tr w61 w68 (by omega)
  refine am_putF dX6_init_45 kFX6_33 rfl w69 (Nat.le_of_ble_eq_true rfl) rfl rfl ?_
  have w77 := ln_set w67 (a := 0) (c := .inr (7, [.ref (gz G + 2), .int 0, .ref (gz G + 19), .ref (gz G + 1), .ref (gz G + 21), .null, .null, .null, .null]))
  have w78 := lo_set w75 (a := 0) (c := .inr (7, [.ref (gz G + 2), .int 0, .ref (gz G + 19), .ref (gz G + 1), .ref (gz G + 21), .null, .null, .null, .null])) (by omega)
  have w79 := hs_ne (a := 0) (c1 := .inr (7, [.ref (gz G + 2), .int 0, .ref (gz G + 19), .ref (gz G + 1), .ref (gz G + 21), .null, .null, .null, .null])) w70 (by omega)
  have w80 := hs_ne (a := 0) (c1 := .inr (7, [.ref (gz G + 2), .int 0, .ref (gz G + 19), .ref (gz G + 1), .ref (gz G + 21), .null, .null, .null, .null])) w71 (by omega)
  have w81 := PlantAt.keep w72 (a := 0) (c := .inr (7, [.ref (gz G + 2), .int 0, .ref (gz G + 19), .ref (gz G + 1), .ref (gz G + 21), .null, .null, .null, .null])) (by omega)
  have w82 := hs_ne (a := 0) (c1 := .inr (7, [.ref (gz G + 2), .int 0, .ref (gz G + 19), .ref (gz G + 1), .ref (gz G + 21), .null, .null, .null, .null])) w73 (by omega)
  have w83 := hs_ne (a := 0) (c1 := .inr (7, [.ref (gz G + 2), .int 0, .ref (gz G + 19), .ref (gz G + 1), .ref (gz G + 21), .null, .null, .null, .null])) w74 (by omega)
  have w84 := PlantAt.keep w66 (a := 0) (c := .inr (7, [.ref (gz G + 2), .int 0, .ref (gz G + 19), .ref (gz G + 1), .ref (gz G + 21), .null, .null, .null, .null])) (by omega)
  have w76 := hs_self (c1 := .inr (7, [.ref (gz G + 2), .int 0, .ref (gz G + 19), .ref (gz G + 1), .ref (gz G + 21), .null, .null, .null, .null])) w69
  refine am_aload_n dX6_init_48 0 rfl ?_
  refine am_newL w77 (k1 := 183) (u1 := 10184) dX6_init_49 kNX6_30 (by decide) (by decide) ?_
  have w85 := hs_push w76 (e := .inr (6, [.null, .int 0, .int 0, .int 0, .int 0, .int 0, .int 0, .null, .null, .null, .null, .null, .null]))
  have w86 := hs_push w79 (e := .inr (6, [.null, .int 0, .int 0, .int 0, .int 0, .int 0, .int 0, .null, .null, .null, .null, .null, .null]))
  have w87 := hs_push w80 (e := .inr (6, [.null, .int 0, .int 0, .int 0, .int 0, .int 0, .int 0, .null, .null, .null, .null, .null, .null]))
  have w88 := PlantAt.push w81 (e := .inr (6, [.null, .int 0, .int 0, .int 0, .int 0, .int 0, .int 0, .null, .null, .null, .null, .null, .null]))
  have w89 := hs_push w82 (e := .inr (6, [.null, .int 0, .int 0, .int 0, .int 0, .int 0, .int 0, .null, .null, .null, .null, .null, .null]))
  have w90 := hs_push w83 (e := .inr (6, [.null, .int 0, .int 0, .int 0, .int 0, .int 0, .int 0, .null, .null, .null, .null, .null, .null]))
  have w91 := PlantAt.push w84 (e := .inr (6, [.null, .int 0, .int 0, .int 0, .int 0, .int 0, .int 0, .null, .null, .null, .null, .null, .null]))
  have w92 := hs_newc w77 (e := .inr (6, [.null, .int 0, .int 0, .int 0, .int 0, .int 0, .int 0, .null, .null, .null, .null, .null, .null]))
  have w93 := lo_push w78 w77 (e := .inr (6, [.null, .int 0, .int 0, .int 0, .int 0, .int 0, .int 0, .null, .null, .null, .null, .null, .null])) (by omega)
  have w94 := ln_push w77 (e := .inr (6, [.null, .int 0, .int 0, .int 0, .int 0, .int 0, .int 0, .null, .null, .null, .null, .null, .null])) (show 37 + 1 = 38 from rfl)
  refine am_dup dX6_init_52 rfl ?_
  refine am_callI (As := []) (rest := [.ref (gz G + 37), .ref (gz G + 0)]) dX6_init_53 kMX6_32 rfl  rfl (Nat.le_of_ble_eq_true rfl) (d2 := 2) (by decide) (k2 := 15) (by omega) (u2 := 147) (by omega) (Nat.le_of_ble_eq_true rfl) (ctX5_init w94 w92 ) (fun v95 h96 q97 => ?_)
  obtain ⟨rfl, w99, w100, w98⟩ := q97
  have w101 := (w100 _ (by omega)).trans w85
  have w102 := (w100 _ (by omega)).trans w86
  have w103 := (w100 _ (by omega)).trans w87
  have w104 := w88.low w100 (by omega)
  have w105 := (w100 _ (by omega)).trans w89
  have w106 := (w100 _ (by omega)).trans w90
  have w107 := w91.low w100 (by omega)
  have w108 := lo_tr w93 w100 (by omega)
  refine am_putF dX6_init_56 kFX6_37 rfl w101 (Nat.le_of_ble_eq_true rfl) rfl rfl ?_
  have w110 := ln_set w99 (a := 0) (c := .inr (7, [.ref (gz G + 2), .int 0, .ref (gz G + 19), .ref (gz G + 1), .ref (gz G + 21), .ref (gz G + 37), .null, .null, .null]))
  have w111 := lo_set w108 (a := 0) (c := .inr (7, [.ref (gz G + 2), .int 0, .ref (gz G + 19), .ref (gz G + 1), .ref (gz G + 21), .ref (gz G + 37), .null, .null, .null])) (by omega)
  have w112 := hs_ne (a := 0) (c1 := .inr (7, [.ref (gz G + 2), .int 0, .ref (gz G + 19), .ref (gz G + 1), .ref (gz G + 21), .ref (gz G + 37), .null, .null, .null])) w102 (by omega)
  have w113 := hs_ne (a := 0) (c1 := .inr (7, [.ref (gz G + 2), .int 0, .ref (gz G + 19), .ref (gz G + 1), .ref (gz G + 21), .ref (gz G + 37), .null, .null, .null])) w103 (by omega)
  have w114 := PlantAt.keep w104 (a := 0) (c := .inr (7, [.ref (gz G + 2), .int 0, .ref (gz G + 19), .ref (gz G + 1), .ref (gz G + 21), .ref (gz G + 37), .null, .null, .null])) (by omega)
  have w115 := hs_ne (a := 0) (c1 := .inr (7, [.ref (gz G + 2), .int 0, .ref (gz G + 19), .ref (gz G + 1), .ref (gz G + 21), .ref (gz G + 37), .null, .null, .null])) w105 (by omega)
  have w116 := hs_ne (a := 0) (c1 := .inr (7, [.ref (gz G + 2), .int 0, .ref (gz G + 19), .ref (gz G + 1), .ref (gz G + 21), .ref (gz G + 37), .null, .null, .null])) w106 (by omega)
  have w117 := PlantAt.keep w107 (a := 0) (c := .inr (7, [.ref (gz G + 2), .int 0, .ref (gz G + 19), .ref (gz G + 1), .ref (gz G + 21), .ref (gz G + 37), .null, .null, .null])) (by omega)
  have w118 := PlantAt.keep w98 (a := 0) (c := .inr (7, [.ref (gz G + 2), .int 0, .ref (gz G + 19), .ref (gz G + 1), .ref (gz G + 21), .ref (gz G + 37), .null, .null, .null])) (by omega)
  have w109 := hs_self (c1 := .inr (7, [.ref (gz G + 2), .int 0, .ref (gz G + 19), .ref (gz G + 1), .ref (gz G + 21), .ref (gz G + 37), .null, .null, .null])) w101
  refine am_aload_n dX6_init_59 0 rfl ?_
  refine am_newL w110 (k1 := 167) (u1 := 10034) dX6_init_60 kNX6_40 (by decide) (by decide) ?_
  have w119 := hs_push w109 (e := .inr (2, [.int 0, .int 0, .null]))
  have w120 := hs_push w112 (e := .inr (2, [.int 0, .int 0, .null]))
  have w121 := hs_push w113 (e := .inr (2, [.int 0, .int 0, .null]))
  have w122 := PlantAt.push w114 (e := .inr (2, [.int 0, .int 0, .null]))
  have w123 := hs_push w115 (e := .inr (2, [.int 0, .int 0, .null]))
  have w124 := hs_push w116 (e := .inr (2, [.int 0, .int 0, .null]))
  have w125 := PlantAt.push w117 (e := .inr (2, [.int 0, .int 0, .null]))
  have w126 := PlantAt.push w118 (e := .inr (2, [.int 0, .int 0, .null]))
  have w127 := hs_newc w110 (e := .inr (2, [.int 0, .int 0, .null]))
  have w128 := lo_push w111 w110 (e := .inr (2, [.int 0, .int 0, .null])) (by omega)
  have w129 := ln_push w110 (e := .inr (2, [.int 0, .int 0, .null])) (show 53 + 1 = 54 from rfl)
  refine am_dup dX6_init_63 rfl ?_
  refine am_callI (As := []) (rest := [.ref (gz G + 53), .ref (gz G + 0)]) dX6_init_64 kMX6_42 rfl  rfl (Nat.le_of_ble_eq_true rfl) (d2 := 3) (by decide) (k2 := 161) (by omega) (u2 := 1610) (by omega) (Nat.le_of_ble_eq_true rfl) (ctX1_init w129 w127 ) (fun v130 h131 q132 => ?_)
  obtain ⟨rfl, w145, w146, w133, w134, w135, w136, w137, w138, w139, w140, w141, w142, w143, w144⟩ := q132
  have w147 := (w146 _ (by omega)).trans w119
  have w148 := (w146 _ (by omega)).trans w120
  have w149 := (w146 _ (by omega)).trans w121
  have w150 := w122.low w146 (by omega)
  have w151 := (w146 _ (by omega)).trans w123
  have w152 := (w146 _ (by omega)).trans w124
  have w153 := w125.low w146 (by omega)
  have w154 := w126.low w146 (by omega)
  have w155 := lo_tr w128 w146 (by omega)
  refine am_putF dX6_init_67 kFX6_43 rfl w147 (Nat.le_of_ble_eq_true rfl) rfl rfl ?_
  have w157 := ln_set w145 (a := 0) (c := .inr (7, [.ref (gz G + 2), .int 0, .ref (gz G + 19), .ref (gz G + 1), .ref (gz G + 21), .ref (gz G + 37), .ref (gz G + 53), .null, .null]))
  have w158 := lo_set w155 (a := 0) (c := .inr (7, [.ref (gz G + 2), .int 0, .ref (gz G + 19), .ref (gz G + 1), .ref (gz G + 21), .ref (gz G + 37), .ref (gz G + 53), .null, .null])) (by omega)
  have w159 := hs_ne (a := 0) (c1 := .inr (7, [.ref (gz G + 2), .int 0, .ref (gz G + 19), .ref (gz G + 1), .ref (gz G + 21), .ref (gz G + 37), .ref (gz G + 53), .null, .null])) w148 (by omega)
  have w160 := hs_ne (a := 0) (c1 := .inr (7, [.ref (gz G + 2), .int 0, .ref (gz G + 19), .ref (gz G + 1), .ref (gz G + 21), .ref (gz G + 37), .ref (gz G + 53), .null, .null])) w149 (by omega)
  have w161 := PlantAt.keep w150 (a := 0) (c := .inr (7, [.ref (gz G + 2), .int 0, .ref (gz G + 19), .ref (gz G + 1), .ref (gz G + 21), .ref (gz G + 37), .ref (gz G + 53), .null, .null])) (by omega)
  have w162 := hs_ne (a := 0) (c1 := .inr (7, [.ref (gz G + 2), .int 0, .ref (gz G + 19), .ref (gz G + 1), .ref (gz G + 21), .ref (gz G + 37), .ref (gz G + 53), .null, .null])) w151 (by omega)
  have w163 := hs_ne (a := 0) (c1 := .inr (7, [.ref (gz G + 2), .int 0, .ref (gz G + 19), .ref (gz G + 1), .ref (gz G + 21), .ref (gz G + 37), .ref (gz G + 53), .null, .null])) w152 (by omega)
  have w164 := PlantAt.keep w153 (a := 0) (c := .inr (7, [.ref (gz G + 2), .int 0, .ref (gz G + 19), .ref (gz G + 1), .ref (gz G + 21), .ref (gz G + 37), .ref (gz G + 53), .null, .null])) (by omega)
  have w165 := PlantAt.keep w154 (a := 0) (c := .inr (7, [.ref (gz G + 2), .int 0, .ref (gz G + 19), .ref (gz G + 1), .ref (gz G + 21), .ref (gz G + 37), .ref (gz G + 53), .null, .null])) (by omega)
  have w166 := hs_ne (a := 0) (c1 := .inr (7, [.ref (gz G + 2), .int 0, .ref (gz G + 19), .ref (gz G + 1), .ref (gz G + 21), .ref (gz G + 37), .ref (gz G + 53), .null, .null])) w133 (by omega)
  have w167 := hs_ne (a := 0) (c1 := .inr (7, [.ref (gz G + 2), .int 0, .ref (gz G + 19), .ref (gz G + 1), .ref (gz G + 21), .ref (gz G + 37), .ref (gz G + 53), .null, .null])) w134 (by omega)
  have w168 := PlantAt.keep w135 (a := 0) (c := .inr (7, [.ref (gz G + 2), .int 0, .ref (gz G + 19), .ref (gz G + 1), .ref (gz G + 21), .ref (gz G + 37), .ref (gz G + 53), .null, .null])) (by omega)
  have w169 := PlantAt.keep w136 (a := 0) (c := .inr (7, [.ref (gz G + 2), .int 0, .ref (gz G + 19), .ref (gz G + 1), .ref (gz G + 21), .ref (gz G + 37), .ref (gz G + 53), .null, .null])) (by omega)
  have w170 := PlantAt.keep w137 (a := 0) (c := .inr (7, [.ref (gz G + 2), .int 0, .ref (gz G + 19), .ref (gz G + 1), .ref (gz G + 21), .ref (gz G + 37), .ref (gz G + 53), .null, .null])) (by omega)
  have w171 := PlantAt.keep w138 (a := 0) (c := .inr (7, [.ref (gz G + 2), .int 0, .ref (gz G + 19), .ref (gz G + 1), .ref (gz G + 21), .ref (gz G + 37), .ref (gz G + 53), .null, .null])) (by omega)
  have w172 := PlantAt.keep w139 (a := 0) (c := .inr (7, [.ref (gz G + 2), .int 0, .ref (gz G + 19), .ref (gz G + 1), .ref (gz G + 21), .ref (gz G + 37), .ref (gz G + 53), .null, .null])) (by omega)
  have w173 := PlantAt.keep w140 (a := 0) (c := .inr (7, [.ref (gz G + 2), .int 0, .ref (gz G + 19), .ref (gz G + 1), .ref (gz G + 21), .ref (gz G + 37), .ref (gz G + 53), .null, .null])) (by omega)
  have w174 := PlantAt.keep w141 (a := 0) (c := .inr (7, [.ref (gz G + 2), .int 0, .ref (gz G + 19), .ref (gz G + 1), .ref (gz G + 21), .ref (gz G + 37), .ref (gz G + 53), .null, .null])) (by omega)
  have w175 := PlantAt.keep w142 (a := 0) (c := .inr (7, [.ref (gz G + 2), .int 0, .ref (gz G + 19), .ref (gz G + 1), .ref (gz G + 21), .ref (gz G + 37), .ref (gz G + 53), .null, .null])) (by omega)
  have w176 := PlantAt.keep w143 (a := 0) (c := .inr (7, [.ref (gz G + 2), .int 0, .ref (gz G + 19), .ref (gz G + 1), .ref (gz G + 21), .ref (gz G + 37), .ref (gz G + 53), .null, .null])) (by omega)
  have w177 := PlantAt.keep w144 (a := 0) (c := .inr (7, [.ref (gz G + 2), .int 0, .ref (gz G + 19), .ref (gz G + 1), .ref (gz G + 21), .ref (gz G + 37), .ref (gz G + 53), .null, .null])) (by omega)
  have w156 := hs_self (c1 := .inr (7, [.ref (gz G + 2), .int 0, .ref (gz G + 19), .ref (gz G + 1), .ref (gz G + 21), .ref (gz G + 37), .ref (gz G + 53), .null, .null])) w147
  refine am_aload_n dX6_init_70 0 rfl ?_
  refine am_newL w157 (k1 := 5) (u1 := 8420) dX6_init_71 kNX6_47 (by decide) (by decide) ?_
  have w178 := hs_push w156 (e := .inr (3, [.null, .null, .null, .long 0]))
  have w179 := hs_push w159 (e := .inr (3, [.null, .null, .null, .long 0]))
  have w180 := hs_push w160 (e := .inr (3, [.null, .null, .null, .long 0]))
  have w181 := PlantAt.push w161 (e := .inr (3, [.null, .null, .null, .long 0]))
  have w182 := hs_push w162 (e := .inr (3, [.null, .null, .null, .long 0]))
  have w183 := hs_push w163 (e := .inr (3, [.null, .null, .null, .long 0]))
  have w184 := PlantAt.push w164 (e := .inr (3, [.null, .null, .null, .long 0]))
  have w185 := PlantAt.push w165 (e := .inr (3, [.null, .null, .null, .long 0]))
  have w186 := hs_push w166 (e := .inr (3, [.null, .null, .null, .long 0]))
  have w187 := hs_push w167 (e := .inr (3, [.null, .null, .null, .long 0]))
  have w188 := PlantAt.push w168 (e := .inr (3, [.null, .null, .null, .long 0]))
  have w189 := PlantAt.push w169 (e := .inr (3, [.null, .null, .null, .long 0]))
  have w190 := PlantAt.push w170 (e := .inr (3, [.null, .null, .null, .long 0]))
  have w191 := PlantAt.push w171 (e := .inr (3, [.null, .null, .null, .long 0]))
  have w192 := PlantAt.push w172 (e := .inr (3, [.null, .null, .null, .long 0]))
  have w193 := PlantAt.push w173 (e := .inr (3, [.null, .null, .null, .long 0]))
  have w194 := PlantAt.push w174 (e := .inr (3, [.null, .null, .null, .long 0]))
  have w195 := PlantAt.push w175 (e := .inr (3, [.null, .null, .null, .long 0]))
  have w196 := PlantAt.push w176 (e := .inr (3, [.null, .null, .null, .long 0]))
  have w197 := PlantAt.push w177 (e := .inr (3, [.null, .null, .null, .long 0]))
  have w198 := hs_newc w157 (e := .inr (3, [.null, .null, .null, .long 0]))
  have w199 := lo_push w158 w157 (e := .inr (3, [.null, .null, .null, .long 0])) (by omega)
  have w200 := ln_push w157 (e := .inr (3, [.null, .null, .null, .long 0])) (show 215 + 1 = 216 from rfl)
  refine am_dup dX6_init_74 rfl ?_
  refine am_callI (As := []) (rest := [.ref (gz G + 215), .ref (gz G + 0)]) dX6_init_75 kMX6_49 rfl  rfl (Nat.le_of_ble_eq_true rfl) (d2 := 1) (by decide) (k2 := 3) (by omega) (u2 := 8402) (by omega) (Nat.le_of_ble_eq_true rfl) (ctX2_init w200 w198 ) (fun v201 h202 q203 => ?_)
  obtain ⟨rfl, w208, w209, w204, w205, w206, w207⟩ := q203
  have w210 := (w209 _ (by omega)).trans w178
  have w211 := (w209 _ (by omega)).trans w179
  have w212 := (w209 _ (by omega)).trans w180
  have w213 := w181.low w209 (by omega)
  have w214 := (w209 _ (by omega)).trans w182
  have w215 := (w209 _ (by omega)).trans w183
  have w216 := w184.low w209 (by omega)
  have w217 := w185.low w209 (by omega)
  have w218 := (w209 _ (by omega)).trans w186
  have w219 := (w209 _ (by omega)).trans w187
  have w220 := w188.low w209 (by omega)
  have w221 := w189.low w209 (by omega)
  have w222 := w190.low w209 (by omega)
  have w223 := w191.low w209 (by omega)
  have w224 := w192.low w209 (by omega)
  have w225 := w193.low w209 (by omega)
  have w226 := w194.low w209 (by omega)
  have w227 := w195.low w209 (by omega)
  have w228 := w196.low w209 (by omega)
  have w229 := w197.low w209 (by omega)
  have w230 := lo_tr w199 w209 (by omega)
  refine am_putF dX6_init_78 kFX6_50 rfl w210 (Nat.le_of_ble_eq_true rfl) rfl rfl ?_
  have w232 := ln_set w208 (a := 0) (c := .inr (7, [.ref (gz G + 2), .int 0, .ref (gz G + 19), .ref (gz G + 1), .ref (gz G + 21), .ref (gz G + 37), .ref (gz G + 53), .ref (gz G + 215), .null]))
  have w233 := lo_set w230 (a := 0) (c := .inr (7, [.ref (gz G + 2), .int 0, .ref (gz G + 19), .ref (gz G + 1), .ref (gz G + 21), .ref (gz G + 37), .ref (gz G + 53), .ref (gz G + 215), .null])) (by omega)
  have w234 := hs_ne (a := 0) (c1 := .inr (7, [.ref (gz G + 2), .int 0, .ref (gz G + 19), .ref (gz G + 1), .ref (gz G + 21), .ref (gz G + 37), .ref (gz G + 53), .ref (gz G + 215), .null])) w211 (by omega)
  have w235 := hs_ne (a := 0) (c1 := .inr (7, [.ref (gz G + 2), .int 0, .ref (gz G + 19), .ref (gz G + 1), .ref (gz G + 21), .ref (gz G + 37), .ref (gz G + 53), .ref (gz G + 215), .null])) w212 (by omega)
  have w236 := PlantAt.keep w213 (a := 0) (c := .inr (7, [.ref (gz G + 2), .int 0, .ref (gz G + 19), .ref (gz G + 1), .ref (gz G + 21), .ref (gz G + 37), .ref (gz G + 53), .ref (gz G + 215), .null])) (by omega)
  have w237 := hs_ne (a := 0) (c1 := .inr (7, [.ref (gz G + 2), .int 0, .ref (gz G + 19), .ref (gz G + 1), .ref (gz G + 21), .ref (gz G + 37), .ref (gz G + 53), .ref (gz G + 215), .null])) w214 (by omega)
  have w238 := hs_ne (a := 0) (c1 := .inr (7, [.ref (gz G + 2), .int 0, .ref (gz G + 19), .ref (gz G + 1), .ref (gz G + 21), .ref (gz G + 37), .ref (gz G + 53), .ref (gz G + 215), .null])) w215 (by omega)
  have w239 := PlantAt.keep w216 (a := 0) (c := .inr (7, [.ref (gz G + 2), .int 0, .ref (gz G + 19), .ref (gz G + 1), .ref (gz G + 21), .ref (gz G + 37), .ref (gz G + 53), .ref (gz G + 215), .null])) (by omega)
  have w240 := PlantAt.keep w217 (a := 0) (c := .inr (7, [.ref (gz G + 2), .int 0, .ref (gz G + 19), .ref (gz G + 1), .ref (gz G + 21), .ref (gz G + 37), .ref (gz G + 53), .ref (gz G + 215), .null])) (by omega)
  have w241 := hs_ne (a := 0) (c1 := .inr (7, [.ref (gz G + 2), .int 0, .ref (gz G + 19), .ref (gz G + 1), .ref (gz G + 21), .ref (gz G + 37), .ref (gz G + 53), .ref (gz G + 215), .null])) w218 (by omega)
  have w242 := hs_ne (a := 0) (c1 := .inr (7, [.ref (gz G + 2), .int 0, .ref (gz G + 19), .ref (gz G + 1), .ref (gz G + 21), .ref (gz G + 37), .ref (gz G + 53), .ref (gz G + 215), .null])) w219 (by omega)
  have w243 := PlantAt.keep w220 (a := 0) (c := .inr (7, [.ref (gz G + 2), .int 0, .ref (gz G + 19), .ref (gz G + 1), .ref (gz G + 21), .ref (gz G + 37), .ref (gz G + 53), .ref (gz G + 215), .null])) (by omega)
  have w244 := PlantAt.keep w221 (a := 0) (c := .inr (7, [.ref (gz G + 2), .int 0, .ref (gz G + 19), .ref (gz G + 1), .ref (gz G + 21), .ref (gz G + 37), .ref (gz G + 53), .ref (gz G + 215), .null])) (by omega)
  have w245 := PlantAt.keep w222 (a := 0) (c := .inr (7, [.ref (gz G + 2), .int 0, .ref (gz G + 19), .ref (gz G + 1), .ref (gz G + 21), .ref (gz G + 37), .ref (gz G + 53), .ref (gz G + 215), .null])) (by omega)
  have w246 := PlantAt.keep w223 (a := 0) (c := .inr (7, [.ref (gz G + 2), .int 0, .ref (gz G + 19), .ref (gz G + 1), .ref (gz G + 21), .ref (gz G + 37), .ref (gz G + 53), .ref (gz G + 215), .null])) (by omega)
  have w247 := PlantAt.keep w224 (a := 0) (c := .inr (7, [.ref (gz G + 2), .int 0, .ref (gz G + 19), .ref (gz G + 1), .ref (gz G + 21), .ref (gz G + 37), .ref (gz G + 53), .ref (gz G + 215), .null])) (by omega)
  have w248 := PlantAt.keep w225 (a := 0) (c := .inr (7, [.ref (gz G + 2), .int 0, .ref (gz G + 19), .ref (gz G + 1), .ref (gz G + 21), .ref (gz G + 37), .ref (gz G + 53), .ref (gz G + 215), .null])) (by omega)
  have w249 := PlantAt.keep w226 (a := 0) (c := .inr (7, [.ref (gz G + 2), .int 0, .ref (gz G + 19), .ref (gz G + 1), .ref (gz G + 21), .ref (gz G + 37), .ref (gz G + 53), .ref (gz G + 215), .null])) (by omega)
  have w250 := PlantAt.keep w227 (a := 0) (c := .inr (7, [.ref (gz G + 2), .int 0, .ref (gz G + 19), .ref (gz G + 1), .ref (gz G + 21), .ref (gz G + 37), .ref (gz G + 53), .ref (gz G + 215), .null])) (by omega)
  have w251 := PlantAt.keep w228 (a := 0) (c := .inr (7, [.ref (gz G + 2), .int 0, .ref (gz G + 19), .ref (gz G + 1), .ref (gz G + 21), .ref (gz G + 37), .ref (gz G + 53), .ref (gz G + 215), .null])) (by omega)
  have w252 := PlantAt.keep w229 (a := 0) (c := .inr (7, [.ref (gz G + 2), .int 0, .ref (gz G + 19), .ref (gz G + 1), .ref (gz G + 21), .ref (gz G + 37), .ref (gz G + 53), .ref (gz G + 215), .null])) (by omega)
  have w253 := hs_ne (a := 0) (c1 := .inr (7, [.ref (gz G + 2), .int 0, .ref (gz G + 19), .ref (gz G + 1), .ref (gz G + 21), .ref (gz G + 37), .ref (gz G + 53), .ref (gz G + 215), .null])) w204 (by omega)
  have w254 := hs_ne (a := 0) (c1 := .inr (7, [.ref (gz G + 2), .int 0, .ref (gz G + 19), .ref (gz G + 1), .ref (gz G + 21), .ref (gz G + 37), .ref (gz G + 53), .ref (gz G + 215), .null])) w205 (by omega)
  have w255 := hs_ne (a := 0) (c1 := .inr (7, [.ref (gz G + 2), .int 0, .ref (gz G + 19), .ref (gz G + 1), .ref (gz G + 21), .ref (gz G + 37), .ref (gz G + 53), .ref (gz G + 215), .null])) w206 (by omega)
  have w256 := hs_ne (a := 0) (c1 := .inr (7, [.ref (gz G + 2), .int 0, .ref (gz G + 19), .ref (gz G + 1), .ref (gz G + 21), .ref (gz G + 37), .ref (gz G + 53), .ref (gz G + 215), .null])) w207 (by omega)
  have w231 := hs_self (c1 := .inr (7, [.ref (gz G + 2), .int 0, .ref (gz G + 19), .ref (gz G + 1), .ref (gz G + 21), .ref (gz G + 37), .ref (gz G + 53), .ref (gz G + 215), .null])) w210
  refine am_aload_n dX6_init_81 0 rfl ?_
  refine am_newL w232 (k1 := 1) (u1 := 14) dX6_init_82 kNX6_54 (by decide) (by decide) ?_
  have w257 := hs_push w231 (e := .inr (4, [.int 0, .int 0, .int 0, .null]))
  have w258 := hs_push w234 (e := .inr (4, [.int 0, .int 0, .int 0, .null]))
  have w259 := hs_push w235 (e := .inr (4, [.int 0, .int 0, .int 0, .null]))
  have w260 := PlantAt.push w236 (e := .inr (4, [.int 0, .int 0, .int 0, .null]))
  have w261 := hs_push w237 (e := .inr (4, [.int 0, .int 0, .int 0, .null]))
  have w262 := hs_push w238 (e := .inr (4, [.int 0, .int 0, .int 0, .null]))
  have w263 := PlantAt.push w239 (e := .inr (4, [.int 0, .int 0, .int 0, .null]))
  have w264 := PlantAt.push w240 (e := .inr (4, [.int 0, .int 0, .int 0, .null]))
  have w265 := hs_push w241 (e := .inr (4, [.int 0, .int 0, .int 0, .null]))
  have w266 := hs_push w242 (e := .inr (4, [.int 0, .int 0, .int 0, .null]))
  have w267 := PlantAt.push w243 (e := .inr (4, [.int 0, .int 0, .int 0, .null]))
  have w268 := PlantAt.push w244 (e := .inr (4, [.int 0, .int 0, .int 0, .null]))
  have w269 := PlantAt.push w245 (e := .inr (4, [.int 0, .int 0, .int 0, .null]))
  have w270 := PlantAt.push w246 (e := .inr (4, [.int 0, .int 0, .int 0, .null]))
  have w271 := PlantAt.push w247 (e := .inr (4, [.int 0, .int 0, .int 0, .null]))
  have w272 := PlantAt.push w248 (e := .inr (4, [.int 0, .int 0, .int 0, .null]))
  have w273 := PlantAt.push w249 (e := .inr (4, [.int 0, .int 0, .int 0, .null]))
  have w274 := PlantAt.push w250 (e := .inr (4, [.int 0, .int 0, .int 0, .null]))
  have w275 := PlantAt.push w251 (e := .inr (4, [.int 0, .int 0, .int 0, .null]))
  have w276 := PlantAt.push w252 (e := .inr (4, [.int 0, .int 0, .int 0, .null]))
  have w277 := hs_push w253 (e := .inr (4, [.int 0, .int 0, .int 0, .null]))
  have w278 := hs_push w254 (e := .inr (4, [.int 0, .int 0, .int 0, .null]))
  have w279 := hs_push w255 (e := .inr (4, [.int 0, .int 0, .int 0, .null]))
  have w280 := hs_push w256 (e := .inr (4, [.int 0, .int 0, .int 0, .null]))
  have w281 := hs_newc w232 (e := .inr (4, [.int 0, .int 0, .int 0, .null]))
  have w282 := lo_push w233 w232 (e := .inr (4, [.int 0, .int 0, .int 0, .null])) (by omega)
  have w283 := ln_push w232 (e := .inr (4, [.int 0, .int 0, .int 0, .null])) (show 219 + 1 = 220 from rfl)
  refine am_dup dX6_init_85 rfl ?_
  refine am_callI (As := []) (rest := [.ref (gz G + 219), .ref (gz G + 0)]) dX6_init_86 kMX6_56 rfl  rfl (Nat.le_of_ble_eq_true rfl) (d2 := 1) (by decide) (k2 := 1) (by omega) (u2 := 14) (by omega) (Nat.le_of_ble_eq_true rfl) (ctX3_init w283 w281 ) (fun v284 h285 q286 => ?_)
  obtain ⟨rfl, w289, w290, w287, w288⟩ := q286
  have w291 := (w290 _ (by omega)).trans w257
  have w292 := (w290 _ (by omega)).trans w258
  have w293 := (w290 _ (by omega)).trans w259
  have w294 := w260.low w290 (by omega)
  have w295 := (w290 _ (by omega)).trans w261
  have w296 := (w290 _ (by omega)).trans w262
  have w297 := w263.low w290 (by omega)
  have w298 := w264.low w290 (by omega)
  have w299 := (w290 _ (by omega)).trans w265
  have w300 := (w290 _ (by omega)).trans w266
  have w301 := w267.low w290 (by omega)
  have w302 := w268.low w290 (by omega)
  have w303 := w269.low w290 (by omega)
  have w304 := w270.low w290 (by omega)
  have w305 := w271.low w290 (by omega)
  have w306 := w272.low w290 (by omega)
  have w307 := w273.low w290 (by omega)
  have w308 := w274.low w290 (by omega)
  have w309 := w275.low w290 (by omega)
  have w310 := w276.low w290 (by omega)
  have w311 := (w290 _ (by omega)).trans w277
  have w312 := (w290 _ (by omega)).trans w278
  have w313 := (w290 _ (by omega)).trans w279
  have w314 := (w290 _ (by omega)).trans w280
  have w315 := lo_tr w282 w290 (by omega)
  refine am_putF dX6_init_89 kFX6_57 rfl w291 (Nat.le_of_ble_eq_true rfl) rfl rfl ?_
  have w317 := ln_set w289 (a := 0) (c := .inr (7, [.ref (gz G + 2), .int 0, .ref (gz G + 19), .ref (gz G + 1), .ref (gz G + 21), .ref (gz G + 37), .ref (gz G + 53), .ref (gz G + 215), .ref (gz G + 219)]))
  have w318 := lo_set w315 (a := 0) (c := .inr (7, [.ref (gz G + 2), .int 0, .ref (gz G + 19), .ref (gz G + 1), .ref (gz G + 21), .ref (gz G + 37), .ref (gz G + 53), .ref (gz G + 215), .ref (gz G + 219)])) (by omega)
  have w319 := hs_ne (a := 0) (c1 := .inr (7, [.ref (gz G + 2), .int 0, .ref (gz G + 19), .ref (gz G + 1), .ref (gz G + 21), .ref (gz G + 37), .ref (gz G + 53), .ref (gz G + 215), .ref (gz G + 219)])) w292 (by omega)
  have w320 := hs_ne (a := 0) (c1 := .inr (7, [.ref (gz G + 2), .int 0, .ref (gz G + 19), .ref (gz G + 1), .ref (gz G + 21), .ref (gz G + 37), .ref (gz G + 53), .ref (gz G + 215), .ref (gz G + 219)])) w293 (by omega)
  have w321 := PlantAt.keep w294 (a := 0) (c := .inr (7, [.ref (gz G + 2), .int 0, .ref (gz G + 19), .ref (gz G + 1), .ref (gz G + 21), .ref (gz G + 37), .ref (gz G + 53), .ref (gz G + 215), .ref (gz G + 219)])) (by omega)
  have w322 := hs_ne (a := 0) (c1 := .inr (7, [.ref (gz G + 2), .int 0, .ref (gz G + 19), .ref (gz G + 1), .ref (gz G + 21), .ref (gz G + 37), .ref (gz G + 53), .ref (gz G + 215), .ref (gz G + 219)])) w295 (by omega)
  have w323 := hs_ne (a := 0) (c1 := .inr (7, [.ref (gz G + 2), .int 0, .ref (gz G + 19), .ref (gz G + 1), .ref (gz G + 21), .ref (gz G + 37), .ref (gz G + 53), .ref (gz G + 215), .ref (gz G + 219)])) w296 (by omega)
  have w324 := PlantAt.keep w297 (a := 0) (c := .inr (7, [.ref (gz G + 2), .int 0, .ref (gz G + 19), .ref (gz G + 1), .ref (gz G + 21), .ref (gz G + 37), .ref (gz G + 53), .ref (gz G + 215), .ref (gz G + 219)])) (by omega)
  have w325 := PlantAt.keep w298 (a := 0) (c := .inr (7, [.ref (gz G + 2), .int 0, .ref (gz G + 19), .ref (gz G + 1), .ref (gz G + 21), .ref (gz G + 37), .ref (gz G + 53), .ref (gz G + 215), .ref (gz G + 219)])) (by omega)
  have w326 := hs_ne (a := 0) (c1 := .inr (7, [.ref (gz G + 2), .int 0, .ref (gz G + 19), .ref (gz G + 1), .ref (gz G + 21), .ref (gz G + 37), .ref (gz G + 53), .ref (gz G + 215), .ref (gz G + 219)])) w299 (by omega)
  have w327 := hs_ne (a := 0) (c1 := .inr (7, [.ref (gz G + 2), .int 0, .ref (gz G + 19), .ref (gz G + 1), .ref (gz G + 21), .ref (gz G + 37), .ref (gz G + 53), .ref (gz G + 215), .ref (gz G + 219)])) w300 (by omega)
  have w328 := PlantAt.keep w301 (a := 0) (c := .inr (7, [.ref (gz G + 2), .int 0, .ref (gz G + 19), .ref (gz G + 1), .ref (gz G + 21), .ref (gz G + 37), .ref (gz G + 53), .ref (gz G + 215), .ref (gz G + 219)])) (by omega)
  have w329 := PlantAt.keep w302 (a := 0) (c := .inr (7, [.ref (gz G + 2), .int 0, .ref (gz G + 19), .ref (gz G + 1), .ref (gz G + 21), .ref (gz G + 37), .ref (gz G + 53), .ref (gz G + 215), .ref (gz G + 219)])) (by omega)
  have w330 := PlantAt.keep w303 (a := 0) (c := .inr (7, [.ref (gz G + 2), .int 0, .ref (gz G + 19), .ref (gz G + 1), .ref (gz G + 21), .ref (gz G + 37), .ref (gz G + 53), .ref (gz G + 215), .ref (gz G + 219)])) (by omega)
  have w331 := PlantAt.keep w304 (a := 0) (c := .inr (7, [.ref (gz G + 2), .int 0, .ref (gz G + 19), .ref (gz G + 1), .ref (gz G + 21), .ref (gz G + 37), .ref (gz G + 53), .ref (gz G + 215), .ref (gz G + 219)])) (by omega)
  have w332 := PlantAt.keep w305 (a := 0) (c := .inr (7, [.ref (gz G + 2), .int 0, .ref (gz G + 19), .ref (gz G + 1), .ref (gz G + 21), .ref (gz G + 37), .ref (gz G + 53), .ref (gz G + 215), .ref (gz G + 219)])) (by omega)
  have w333 := PlantAt.keep w306 (a := 0) (c := .inr (7, [.ref (gz G + 2), .int 0, .ref (gz G + 19), .ref (gz G + 1), .ref (gz G + 21), .ref (gz G + 37), .ref (gz G + 53), .ref (gz G + 215), .ref (gz G + 219)])) (by omega)
  have w334 := PlantAt.keep w307 (a := 0) (c := .inr (7, [.ref (gz G + 2), .int 0, .ref (gz G + 19), .ref (gz G + 1), .ref (gz G + 21), .ref (gz G + 37), .ref (gz G + 53), .ref (gz G + 215), .ref (gz G + 219)])) (by omega)
  have w335 := PlantAt.keep w308 (a := 0) (c := .inr (7, [.ref (gz G + 2), .int 0, .ref (gz G + 19), .ref (gz G + 1), .ref (gz G + 21), .ref (gz G + 37), .ref (gz G + 53), .ref (gz G + 215), .ref (gz G + 219)])) (by omega)
  have w336 := PlantAt.keep w309 (a := 0) (c := .inr (7, [.ref (gz G + 2), .int 0, .ref (gz G + 19), .ref (gz G + 1), .ref (gz G + 21), .ref (gz G + 37), .ref (gz G + 53), .ref (gz G + 215), .ref (gz G + 219)])) (by omega)
  have w337 := PlantAt.keep w310 (a := 0) (c := .inr (7, [.ref (gz G + 2), .int 0, .ref (gz G + 19), .ref (gz G + 1), .ref (gz G + 21), .ref (gz G + 37), .ref (gz G + 53), .ref (gz G + 215), .ref (gz G + 219)])) (by omega)
  have w338 := hs_ne (a := 0) (c1 := .inr (7, [.ref (gz G + 2), .int 0, .ref (gz G + 19), .ref (gz G + 1), .ref (gz G + 21), .ref (gz G + 37), .ref (gz G + 53), .ref (gz G + 215), .ref (gz G + 219)])) w311 (by omega)
  have w339 := hs_ne (a := 0) (c1 := .inr (7, [.ref (gz G + 2), .int 0, .ref (gz G + 19), .ref (gz G + 1), .ref (gz G + 21), .ref (gz G + 37), .ref (gz G + 53), .ref (gz G + 215), .ref (gz G + 219)])) w312 (by omega)
  have w340 := hs_ne (a := 0) (c1 := .inr (7, [.ref (gz G + 2), .int 0, .ref (gz G + 19), .ref (gz G + 1), .ref (gz G + 21), .ref (gz G + 37), .ref (gz G + 53), .ref (gz G + 215), .ref (gz G + 219)])) w313 (by omega)
  have w341 := hs_ne (a := 0) (c1 := .inr (7, [.ref (gz G + 2), .int 0, .ref (gz G + 19), .ref (gz G + 1), .ref (gz G + 21), .ref (gz G + 37), .ref (gz G + 53), .ref (gz G + 215), .ref (gz G + 219)])) w314 (by omega)
  have w342 := hs_ne (a := 0) (c1 := .inr (7, [.ref (gz G + 2), .int 0, .ref (gz G + 19), .ref (gz G + 1), .ref (gz G + 21), .ref (gz G + 37), .ref (gz G + 53), .ref (gz G + 215), .ref (gz G + 219)])) w287 (by omega)
  have w343 := hs_ne (a := 0) (c1 := .inr (7, [.ref (gz G + 2), .int 0, .ref (gz G + 19), .ref (gz G + 1), .ref (gz G + 21), .ref (gz G + 37), .ref (gz G + 53), .ref (gz G + 215), .ref (gz G + 219)])) w288 (by omega)
  have w316 := hs_self (c1 := .inr (7, [.ref (gz G + 2), .int 0, .ref (gz G + 19), .ref (gz G + 1), .ref (gz G + 21), .ref (gz G + 37), .ref (gz G + 53), .ref (gz G + 215), .ref (gz G + 219)])) w291
  exact am_return dX6_init_92 rfl ⟨rfl, w317, w318, w316, w320, w322, w323, w319, w321, w324, w325, w326, w327, w328, w329, w330, w331, w332, w333, w334, w335, w336, w337, w338, w339, w340, w341, w342, w343⟩
