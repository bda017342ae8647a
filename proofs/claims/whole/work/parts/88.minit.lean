/-! The model is made. -/
def fX7_clear_222_2   : Nat → Int32 → Md → Int32 × Md
  | 0, x1, y => (x1, y)
  | fu + 1, x1, y => (if 146 ≤ x1 then (x1, y) else (bnd (mA y 0 (upd (y.2.1 0) x1.toNatClampNeg 0)) (fun r4 => (fX7_clear_222_2    fu (x1 + 1) r4))))
def sX7_clear_222_2   : Nat → Int32 → Md → Prop
  | 0, _, _ => True
  | fu + 1, x1, y => ((146 ≤ x1 → True) ∧ (¬ 146 ≤ x1 → (vp_in x1 146 ∧ (bnd (mA y 0 (upd (y.2.1 0) x1.toNatClampNeg 0)) (fun r4 => (sX7_clear_222_2    fu (x1 + 1) r4))))))
set_option maxRecDepth 20000 in
theorem wX7_clear_222_2 {l : Launch} {G : GM} {K : Nat → Option va_E}    {Q : Option Value → List va_E → Prop} : ∀ (fu : Nat) (x1 : Int32) (y : Md) (iv : ivU 146 x1 fu) (hs : sX7_clear_222_2    fu x1 y) {h : List va_E} (gy : HM G K h y) (kx : ∀ (h1 : List va_E) (r : Int32 × Md), (fX7_clear_222_2    fu x1 y) = r → HM G K h1 r.2 → Tr l G mX7_clear 0 0 0 19 [(1, .int r.1), (0, .ref (gz G + 222))] [] h1 Q), Tr l G mX7_clear 0 0 0 2 [(1, .int x1), (0, .ref (gz G + 222))] [] h Q := by
  intro fu
  induction fu with
  | zero => intro x1 y iv; intros; exact absurd iv ivU_0
  | succ fu ih =>
    intro x1 y iv hs  h gy  kx
    rw [sX7_clear_222_2] at hs
    refine am_iload_n dX7_clear_2 0 rfl ?_
    refine am_sipush (v := 146) dX7_clear_3 (by decide) ?_
    refine am_icmp_ge dX7_clear_6 (by decide : ((6 : Nat) : Int) + (13) = ((19 : Nat) : Int)) (fun c1 => ?_) (fun c1 => ?_)
    · have hs := hs.1 c1
      exact kx _ _ (ifp c1 (rfl)) gy 
    · have hs := hs.2 c1
      refine am_aload_n dX7_clear_9 1 rfl ?_
      refine am_iload_n dX7_clear_10 0 rfl ?_
      refine am_iconst (v := 0) dX7_clear_11 (by decide) ?_
      obtain ⟨i2, hs⟩ := hs
      refine am_iast (f := (y.2.1 0)) dX7_clear_12 (hmc222 (m := y) gy) i2 ?_
      have w3 := hmA0 gy (upd (y.2.1 0) x1.toNatClampNeg 0)
      obtain ⟨r4, e5⟩ : ∃ x, (mA y 0 (upd (y.2.1 0) x1.toNatClampNeg 0)) = x := ⟨_, rfl⟩
      have w6 := hm_eq e5 w3
      have hs := bnd_p e5 hs
      refine am_iinc (v := (x1 + 1)) dX7_clear_13 0 rfl rfl (by decide) (lv' := [(1, .int (x1 + 1)), (0, .ref (gz G + 222))]) rfl ?_
      refine am_goto dX7_clear_16 (by decide : ((16 : Nat) : Int) + (-14) = ((2 : Nat) : Int)) ?_
      exact ih (x1 + 1) r4 (ivU_s c1 iv) hs w6  (fun h1 r e => kx h1 r (Eq.trans (ifn c1 (bnd_eq e5 (rfl))) e))
def fX7_clear_222 (m : Md)  : Md := (bnd (fX7_clear_222_2    (fuU 146 0) 0 m) (fun r8 => (bnd (mA r8.2 0 (upd (r8.2.2.1 0) 0 30)) (fun r13 => (bnd (mA r13 0 (upd (r13.2.1 0) 1 6)) (fun r17 => (bnd (mA r17 0 (upd (r17.2.1 0) 2 60)) (fun r21 => (bnd (mA r21 0 (upd (r21.2.1 0) 3 2)) (fun r25 => r25))))))))))
def sX7_clear_222 (m : Md)  : Prop := ((sX7_clear_222_2    (fuU 146 0) 0 m) ∧ bnd (fX7_clear_222_2    (fuU 146 0) 0 m) (fun r8 => (bnd (mA r8.2 0 (upd (r8.2.2.1 0) 0 30)) (fun r13 => (bnd (mA r13 0 (upd (r13.2.1 0) 1 6)) (fun r17 => (bnd (mA r17 0 (upd (r17.2.1 0) 2 60)) (fun r21 => (bnd (mA r21 0 (upd (r21.2.1 0) 3 2)) (fun r25 => True))))))))))
set_option maxRecDepth 20000 in
theorem ctX7_clear_222 {l : Launch} {G : GM} {K : Nat → Option va_E} {h : List va_E} {m : Md} (hm : HM G K h m)  (hs : sX7_clear_222 m ) : Ct l G mX7_clear 0 0 0 [.ref (gz G + 222)] h (fun v h1 => ∃ r, (fX7_clear_222 m ) = r ∧ v = none ∧ HM G K h1 r) := by
  show Tr l G mX7_clear 0 0 0 0 [(0, .ref (gz G + 222))] [] h _
  unfold sX7_clear_222 at hs
  refine am_iconst (v := 0) dX7_clear_0 (by decide) ?_
  refine am_istore_n dX7_clear_1 (by decide) (lv' := [(1, .int 0), (0, .ref (gz G + 222))]) rfl ?_
  obtain ⟨i7, hs⟩ := hs
  refine wX7_clear_222_2    (fuU 146 0) 0 m ivU_i i7 hm  (fun h10 r8 e9 w11  => ?_)
  have hs := bnd_p e9 hs
  refine am_aload_n dX7_clear_19 1 rfl ?_
  refine am_iconst (v := 0) dX7_clear_20 (by decide) ?_
  refine am_bipush (v := 30) dX7_clear_21 (by decide) ?_
  refine am_iast (f := (r8.2.2.1 0)) dX7_clear_23 (hmc222 (m := r8.2) w11) (vp_lit (by decide)) ?_
  rw [tl0]
  have w12 := hmA0 w11 (upd (r8.2.2.1 0) 0 30)
  obtain ⟨r13, e14⟩ : ∃ x, (mA r8.2 0 (upd (r8.2.2.1 0) 0 30)) = x := ⟨_, rfl⟩
  have w15 := hm_eq e14 w12
  have hs := bnd_p e14 hs
  refine am_aload_n dX7_clear_24 1 rfl ?_
  refine am_iconst (v := 1) dX7_clear_25 (by decide) ?_
  refine am_bipush (v := 6) dX7_clear_26 (by decide) ?_
  refine am_iast (f := (r13.2.1 0)) dX7_clear_28 (hmc222 (m := r13) w15) (vp_lit (by decide)) ?_
  rw [tl1]
  have w16 := hmA0 w15 (upd (r13.2.1 0) 1 6)
  obtain ⟨r17, e18⟩ : ∃ x, (mA r13 0 (upd (r13.2.1 0) 1 6)) = x := ⟨_, rfl⟩
  have w19 := hm_eq e18 w16
  have hs := bnd_p e18 hs
  refine am_aload_n dX7_clear_29 1 rfl ?_
  refine am_iconst (v := 2) dX7_clear_30 (by decide) ?_
  refine am_bipush (v := 60) dX7_clear_31 (by decide) ?_
  refine am_iast (f := (r17.2.1 0)) dX7_clear_33 (hmc222 (m := r17) w19) (vp_lit (by decide)) ?_
  rw [tl2]
  have w20 := hmA0 w19 (upd (r17.2.1 0) 2 60)
  obtain ⟨r21, e22⟩ : ∃ x, (mA r17 0 (upd (r17.2.1 0) 2 60)) = x := ⟨_, rfl⟩
  have w23 := hm_eq e22 w20
  have hs := bnd_p e22 hs
  refine am_aload_n dX7_clear_34 1 rfl ?_
  refine am_iconst (v := 3) dX7_clear_35 (by decide) ?_
  refine am_iconst (v := 2) dX7_clear_36 (by decide) ?_
  refine am_iast (f := (r21.2.1 0)) dX7_clear_37 (hmc222 (m := r21) w23) (vp_lit (by decide)) ?_
  rw [tl3]
  have w24 := hmA0 w23 (upd (r21.2.1 0) 3 2)
  obtain ⟨r25, e26⟩ : ∃ x, (mA r21 0 (upd (r21.2.1 0) 3 2)) = x := ⟨_, rfl⟩
  have w27 := hm_eq e26 w24
  have hs := bnd_p e26 hs
  exact am_return dX7_clear_38 rfl ⟨_, bnd_eq e9 (bnd_eq e14 (bnd_eq e18 (bnd_eq e22 (bnd_eq e26 (rfl))))), rfl, w27⟩
def hz_q0 (m m1 : Md) : Prop := m1.1 = m.1 ∧ (∀ k, ¬ k = 0 → m1.2.1 k = m.2.1 k) ∧ m1.2.2 = m.2.2
theorem hz_q0T {a b c : Md} (h : hz_q0 a b) (g : hz_q0 b c) : hz_q0 a c := ⟨g.1.trans h.1, fun k hk => (g.2.1 k hk).trans (h.2.1 k hk), g.2.2.trans h.2.2⟩
theorem hz_q0A (m : Md) (f : Nat → Int32) : hz_q0 m (mA m 0 f) := ⟨rfl, fun _ hk => if_neg hk, rfl⟩
theorem hz_cl2z : ∀ (fu i : Nat) (y : Md), i ≤ 146 → 146 < fu + i → sX7_clear_222_2 fu (nI i) y ∧ hz_q0 y (fX7_clear_222_2 fu (nI i) y).2 ∧ (∀ j, i ≤ j → j < 146 → (fX7_clear_222_2 fu (nI i) y).2.2.1 0 j = 0) ∧ ∀ j, j < i → (fX7_clear_222_2 fu (nI i) y).2.2.1 0 j = y.2.1 0 j := by
  intro fu
  induction fu with
  | zero => intro i y h1 h2; omega
  | succ fu ih =>
    intro i y hi hf
    have e1 : fX7_clear_222_2 (fu + 1) (nI i) y = (if 146 ≤ nI i then (nI i, y) else fX7_clear_222_2 fu (nI i + 1) (mA y 0 (upd (y.2.1 0) (nI i).toNatClampNeg 0))) := rfl
    have e2 : sX7_clear_222_2 (fu + 1) (nI i) y = ((146 ≤ nI i → True) ∧ (¬ 146 ≤ nI i → (vp_in (nI i) 146 ∧ sX7_clear_222_2 fu (nI i + 1) (mA y 0 (upd (y.2.1 0) (nI i).toNatClampNeg 0))))) := rfl
    by_cases h : (146 : Int32) ≤ nI i
    · have h9 : nI 146 ≤ nI i := h
      rw [nI_leI (by omega) (by omega)] at h9
      rw [e1, e2, if_pos h]
      exact ⟨⟨fun _ => trivial, fun h2 => absurd h h2⟩, ⟨rfl, fun _ _ => rfl, rfl⟩, fun j h1 h2 => by omega, fun _ _ => rfl⟩
    · have hi : i < 146 := hz_c (n := 146) hi (by omega) h
      rw [e1, e2, if_neg h, ← nI_succ, nI_clamp (by omega)]
      obtain ⟨a, b, d, e⟩ := ih (i + 1) (mA y 0 (upd (y.2.1 0) i 0)) hi (by omega)
      refine ⟨⟨fun h2 => absurd h2 h, fun _ => ⟨vp_in_nI hi (by omega), a⟩⟩, hz_q0T (hz_q0A y _) b, fun j h1 h2 => ?_, fun j hj => ?_⟩
      · by_cases hj : j = i
        · rw [hj, e i (by omega), hz_mAs, pk_us]
        · exact d j (by omega) h2
      · rw [e j (by omega), hz_mAs, pk_un (by omega)]
theorem hz_clEz (m : Md) (F : Nat) (hF : fuU 146 0 = F) : fX7_clear_222 m = mA (mA (mA (mA (fX7_clear_222_2 F 0 m).2 0 (upd ((fX7_clear_222_2 F 0 m).2.2.1 0) 0 30)) 0 (upd (upd ((fX7_clear_222_2 F 0 m).2.2.1 0) 0 30) 1 6)) 0 (upd (upd (upd ((fX7_clear_222_2 F 0 m).2.2.1 0) 0 30) 1 6) 2 60)) 0 (upd (upd (upd (upd ((fX7_clear_222_2 F 0 m).2.2.1 0) 0 30) 1 6) 2 60) 3 2) := by
  subst hF
  unfold fX7_clear_222
  simp only [hz_bid]
  simp only [hz_bnd]
  simp only [hz_mAs]
theorem hz_clSz (m : Md) (F : Nat) (hF : fuU 146 0 = F) (h : sX7_clear_222_2 F 0 m) : sX7_clear_222 m := by
  subst hF
  unfold sX7_clear_222
  simp only [hz_bnd]
  exact ⟨h, trivial⟩
theorem hz_clear0 (m : Md) : ∃ R, fX7_clear_222 m = R ∧ sX7_clear_222 m ∧ hz_q0 m R ∧ ∀ p, hz_PR (fX5_makeEmpty p) (R.2.1 0) 0 0 0 0 := by
  have hf := hz_f146 0 rfl
  rw [nI_0] at hf
  obtain ⟨F, hF⟩ : ∃ F, fuU 146 0 = F := ⟨_, rfl⟩
  rw [hF] at hf
  obtain ⟨a, b, d, -⟩ := hz_cl2z F 0 m (by omega) hf
  have e := hz_clEz m F hF
  have e2 := hz_clSz m F hF
  rw [nI_0] at a b d
  generalize fX7_clear_222_2 F 0 m = X at *
  refine ⟨_, e, e2 a, hz_q0T b (hz_q0T (hz_q0A _ _) (hz_q0T (hz_q0A _ _) (hz_q0T (hz_q0A _ _) (hz_q0A _ _)))), fun p => ?_⟩
  rw [hz_mAs]
  refine hz_clP p ?_ ?_ ?_ ?_ (fun j h4 hj => ?_)
  · rw [pk_un (by omega), pk_un (by omega), pk_un (by omega), pk_us]
  · rw [pk_un (by omega), pk_un (by omega), pk_us]
  · rw [pk_un (by omega), pk_us]
  · rw [pk_us]
  · rw [pk_un (by omega), pk_un (by omega), pk_un (by omega), pk_un (by omega)]
    exact d j (by omega) hj
/-- the model as it is made, before its plant is cleared -/
def mz0 : Md := (fun q => if q = 10 then -1 else 0, fun _ _ => 0, 0)
def kz0 (h0 : List va_E) : Nat → Option va_E := fun a => if a < 221 then h0[a]? else none
theorem mz_of {G : GM} {h h0 : List va_E} (c221 : h[221]? = some (.inr (8, [.int 0, .ref (gz G + 222), .ref (gz G + 223), .ref (gz G + 224), .ref (gz G + 222), .ref (gz G + 225), .ref (gz G + 226), .ref (gz G + 227), .int 0, .ref (gz G + 228), .int 0, .ref (gz G + 229), .int 0, .int 0, .int 0, .int 0, .int 0, .int 0, .int 0, .int (-1), .int 0, .ref (gz G + 230), .int 0]))) (c222 : h[222]? = some (.inl (0, 146, .inl (fun _ => 0)))) (c223 : h[223]? = some (.inl (0, 146, .inl (fun _ => 0)))) (c224 : h[224]? = some (.inl (0, 146, .inl (fun _ => 0)))) (c225 : h[225]? = some (.inl (0, 16384, .inl (fun _ => 0)))) (c226 : h[226]? = some (.inl (0, 14, .inl (fun _ => 0)))) (c227 : h[227]? = some (.inl (0, 14, .inl (fun _ => 0)))) (c228 : h[228]? = some (.inl (0, 1460, .inl (fun _ => 0)))) (c229 : h[229]? = some (.inl (1, 1200, .inl (fun _ => 0)))) (c230 : h[230]? = some (.inl (1, 2000, .inl (fun _ => 0)))) (hf : ∀ a, a < 221 → h[a]? = h0[a]?) (hl : h.length = 231) : HM G (kz0 h0) h mz0 := by
  refine ⟨⟨c221, c222, c223, c224, c225, c226, c227, c228, c229, c230⟩, Nat.zero_le _, fun a ha => ?_⟩
  unfold kz0
  by_cases c : a < 221
  · rw [if_pos c]; exact hf a c
  · rw [if_neg c]; exact List.getElem?_eq_none (by omega)
theorem dX7_init_0 : decode cX7_init 0 = .ok (.aload_n 0, 1) := by decide +kernel
theorem dX7_init_1 : decode cX7_init 1 = .ok (.invokespecial 7, 3) := by decide +kernel
theorem dX7_init_4 : decode cX7_init 4 = .ok (.aload_n 0, 1) := by decide +kernel
theorem dX7_init_5 : decode cX7_init 5 = .ok (.sipush 146, 3) := by decide +kernel
theorem dX7_init_8 : decode cX7_init 8 = .ok (.newarray .int, 2) := by decide +kernel
theorem dX7_init_10 : decode cX7_init 10 = .ok (.putfield 13, 3) := by decide +kernel
theorem dX7_init_13 : decode cX7_init 13 = .ok (.aload_n 0, 1) := by decide +kernel
theorem dX7_init_14 : decode cX7_init 14 = .ok (.sipush 146, 3) := by decide +kernel
theorem dX7_init_17 : decode cX7_init 17 = .ok (.newarray .int, 2) := by decide +kernel
theorem dX7_init_19 : decode cX7_init 19 = .ok (.putfield 17, 3) := by decide +kernel
theorem dX7_init_22 : decode cX7_init 22 = .ok (.aload_n 0, 1) := by decide +kernel
theorem dX7_init_23 : decode cX7_init 23 = .ok (.sipush 146, 3) := by decide +kernel
theorem dX7_init_26 : decode cX7_init 26 = .ok (.newarray .int, 2) := by decide +kernel
theorem dX7_init_28 : decode cX7_init 28 = .ok (.putfield 20, 3) := by decide +kernel
theorem dX7_init_31 : decode cX7_init 31 = .ok (.aload_n 0, 1) := by decide +kernel
theorem dX7_init_32 : decode cX7_init 32 = .ok (.aload_n 0, 1) := by decide +kernel
theorem dX7_init_33 : decode cX7_init 33 = .ok (.getfield 13, 3) := by decide +kernel
theorem dX7_init_36 : decode cX7_init 36 = .ok (.putfield 23, 3) := by decide +kernel
theorem dX7_init_39 : decode cX7_init 39 = .ok (.aload_n 0, 1) := by decide +kernel
theorem dX7_init_40 : decode cX7_init 40 = .ok (.sipush 16384, 3) := by decide +kernel
theorem dX7_init_43 : decode cX7_init 43 = .ok (.newarray .int, 2) := by decide +kernel
theorem dX7_init_45 : decode cX7_init 45 = .ok (.putfield 26, 3) := by decide +kernel
theorem dX7_init_48 : decode cX7_init 48 = .ok (.aload_n 0, 1) := by decide +kernel
theorem dX7_init_49 : decode cX7_init 49 = .ok (.bipush 14, 2) := by decide +kernel
theorem dX7_init_51 : decode cX7_init 51 = .ok (.newarray .int, 2) := by decide +kernel
theorem dX7_init_53 : decode cX7_init 53 = .ok (.putfield 29, 3) := by decide +kernel
theorem dX7_init_56 : decode cX7_init 56 = .ok (.aload_n 0, 1) := by decide +kernel
theorem dX7_init_57 : decode cX7_init 57 = .ok (.bipush 14, 2) := by decide +kernel
theorem dX7_init_59 : decode cX7_init 59 = .ok (.newarray .int, 2) := by decide +kernel
theorem dX7_init_61 : decode cX7_init 61 = .ok (.putfield 32, 3) := by decide +kernel
theorem dX7_init_64 : decode cX7_init 64 = .ok (.aload_n 0, 1) := by decide +kernel
theorem dX7_init_65 : decode cX7_init 65 = .ok (.sipush 1460, 3) := by decide +kernel
theorem dX7_init_68 : decode cX7_init 68 = .ok (.newarray .int, 2) := by decide +kernel
theorem dX7_init_70 : decode cX7_init 70 = .ok (.putfield 35, 3) := by decide +kernel
theorem dX7_init_73 : decode cX7_init 73 = .ok (.aload_n 0, 1) := by decide +kernel
theorem dX7_init_74 : decode cX7_init 74 = .ok (.sipush 1200, 3) := by decide +kernel
theorem dX7_init_77 : decode cX7_init 77 = .ok (.newarray .byte, 2) := by decide +kernel
theorem dX7_init_79 : decode cX7_init 79 = .ok (.putfield 38, 3) := by decide +kernel
theorem dX7_init_82 : decode cX7_init 82 = .ok (.aload_n 0, 1) := by decide +kernel
theorem dX7_init_83 : decode cX7_init 83 = .ok (.iconst (-1), 1) := by decide +kernel
theorem dX7_init_84 : decode cX7_init 84 = .ok (.putfield 42, 3) := by decide +kernel
theorem dX7_init_87 : decode cX7_init 87 = .ok (.aload_n 0, 1) := by decide +kernel
theorem dX7_init_88 : decode cX7_init 88 = .ok (.sipush 2000, 3) := by decide +kernel
theorem dX7_init_91 : decode cX7_init 91 = .ok (.newarray .byte, 2) := by decide +kernel
theorem dX7_init_93 : decode cX7_init 93 = .ok (.putfield 45, 3) := by decide +kernel
theorem dX7_init_96 : decode cX7_init 96 = .ok (.aload_n 0, 1) := by decide +kernel
theorem dX7_init_97 : decode cX7_init 97 = .ok (.getfield 13, 3) := by decide +kernel
theorem dX7_init_100 : decode cX7_init 100 = .ok (.invokestatic 48, 3) := by decide +kernel
theorem dX7_init_103 : decode cX7_init 103 = .ok (.return_, 1) := by decide +kernel
set_option maxRecDepth 20000 in
theorem ctX7_init {l : Launch} {G : GM} {h : List va_E} (hl : h.length = 222) (hc : h[221]? = some (.inr (8, [.int 0, .null, .null, .null, .null, .null, .null, .null, .int 0, .null, .int 0, .null, .int 0, .int 0, .int 0, .int 0, .int 0, .int 0, .int 0, .int 0, .int 0, .null, .int 0]))) : Ct l G mX7_init 1 9 21510 [.ref (gz G + 221)] h (fun v h1 => v = none ∧ ∃ r, HM G (kz0 h) h1 r ∧ hz_q0 mz0 r ∧ ∀ p, hz_PR (fX5_makeEmpty p) (r.2.1 0) 0 0 0 0) := by
  show Tr l G mX7_init 1 9 21510 0 [(0, .ref (gz G + 221))] [] h _
  have hf : ∀ a, a < 221 → h[a]? = h[a]? := fun _ _ => rfl
  refine am_aload_n dX7_init_0 0 rfl ?_
  refine am_objInit dX7_init_1 kXX7_7 kOi.1 kOi.2 (Nat.le_of_ble_eq_true rfl) (by decide) ?_
  refine am_aload_n dX7_init_4 0 rfl ?_
  refine am_sipush (v := 146) dX7_init_5 (by decide) ?_
  refine am_newiL hl (k1 := 8) (u1 := 21364) (N := 146) dX7_init_8 kAI (by decide) rfl (by decide) (by decide) (by decide) ?_
  have w1 := hs_push hc (e := .inl (0, 146, .inl (fun _ => 0)))
  have w2 := hs_newc hl (e := .inl (0, 146, .inl (fun _ => 0)))
  have w3 := lo_push hf hl (e := .inl (0, 146, .inl (fun _ => 0))) (by omega)
  have w4 := ln_push hl (e := .inl (0, 146, .inl (fun _ => 0))) (show 222 + 1 = 223 from rfl)
  refine am_putF dX7_init_10 kFX7_13 rfl w1 (Nat.le_of_ble_eq_true rfl) rfl rfl ?_
  have w5 := ln_set w4 (a := 221) (c := .inr (8, [.int 0, .ref (gz G + 222), .null, .null, .null, .null, .null, .null, .int 0, .null, .int 0, .null, .int 0, .int 0, .int 0, .int 0, .int 0, .int 0, .int 0, .int 0, .int 0, .null, .int 0]))
  have w6 := lo_set w3 (a := 221) (c := .inr (8, [.int 0, .ref (gz G + 222), .null, .null, .null, .null, .null, .null, .int 0, .null, .int 0, .null, .int 0, .int 0, .int 0, .int 0, .int 0, .int 0, .int 0, .int 0, .int 0, .null, .int 0])) (by omega)
  have w7 := hs_ne (a := 221) (c1 := .inr (8, [.int 0, .ref (gz G + 222), .null, .null, .null, .null, .null, .null, .int 0, .null, .int 0, .null, .int 0, .int 0, .int 0, .int 0, .int 0, .int 0, .int 0, .int 0, .int 0, .null, .int 0])) w2 (by omega)
  have w8 := hs_self (c1 := .inr (8, [.int 0, .ref (gz G + 222), .null, .null, .null, .null, .null, .null, .int 0, .null, .int 0, .null, .int 0, .int 0, .int 0, .int 0, .int 0, .int 0, .int 0, .int 0, .int 0, .null, .int 0])) w1
  refine am_aload_n dX7_init_13 0 rfl ?_
  refine am_sipush (v := 146) dX7_init_14 (by decide) ?_
  refine am_newiL w5 (k1 := 7) (u1 := 21218) (N := 146) dX7_init_17 kAI (by decide) rfl (by decide) (by decide) (by decide) ?_
  have w9 := hs_push w8 (e := .inl (0, 146, .inl (fun _ => 0)))
  have w10 := hs_push w7 (e := .inl (0, 146, .inl (fun _ => 0)))
  have w11 := hs_newc w5 (e := .inl (0, 146, .inl (fun _ => 0)))
  have w12 := lo_push w6 w5 (e := .inl (0, 146, .inl (fun _ => 0))) (by omega)
  have w13 := ln_push w5 (e := .inl (0, 146, .inl (fun _ => 0))) (show 223 + 1 = 224 from rfl)
  refine am_putF dX7_init_19 kFX7_17 rfl w9 (Nat.le_of_ble_eq_true rfl) rfl rfl ?_
  have w14 := ln_set w13 (a := 221) (c := .inr (8, [.int 0, .ref (gz G + 222), .ref (gz G + 223), .null, .null, .null, .null, .null, .int 0, .null, .int 0, .null, .int 0, .int 0, .int 0, .int 0, .int 0, .int 0, .int 0, .int 0, .int 0, .null, .int 0]))
  have w15 := lo_set w12 (a := 221) (c := .inr (8, [.int 0, .ref (gz G + 222), .ref (gz G + 223), .null, .null, .null, .null, .null, .int 0, .null, .int 0, .null, .int 0, .int 0, .int 0, .int 0, .int 0, .int 0, .int 0, .int 0, .int 0, .null, .int 0])) (by omega)
  have w16 := hs_ne (a := 221) (c1 := .inr (8, [.int 0, .ref (gz G + 222), .ref (gz G + 223), .null, .null, .null, .null, .null, .int 0, .null, .int 0, .null, .int 0, .int 0, .int 0, .int 0, .int 0, .int 0, .int 0, .int 0, .int 0, .null, .int 0])) w10 (by omega)
  have w17 := hs_ne (a := 221) (c1 := .inr (8, [.int 0, .ref (gz G + 222), .ref (gz G + 223), .null, .null, .null, .null, .null, .int 0, .null, .int 0, .null, .int 0, .int 0, .int 0, .int 0, .int 0, .int 0, .int 0, .int 0, .int 0, .null, .int 0])) w11 (by omega)
  have w18 := hs_self (c1 := .inr (8, [.int 0, .ref (gz G + 222), .ref (gz G + 223), .null, .null, .null, .null, .null, .int 0, .null, .int 0, .null, .int 0, .int 0, .int 0, .int 0, .int 0, .int 0, .int 0, .int 0, .int 0, .null, .int 0])) w9
  refine am_aload_n dX7_init_22 0 rfl ?_
  refine am_sipush (v := 146) dX7_init_23 (by decide) ?_
  refine am_newiL w14 (k1 := 6) (u1 := 21072) (N := 146) dX7_init_26 kAI (by decide) rfl (by decide) (by decide) (by decide) ?_
  have w19 := hs_push w18 (e := .inl (0, 146, .inl (fun _ => 0)))
  have w20 := hs_push w16 (e := .inl (0, 146, .inl (fun _ => 0)))
  have w21 := hs_push w17 (e := .inl (0, 146, .inl (fun _ => 0)))
  have w22 := hs_newc w14 (e := .inl (0, 146, .inl (fun _ => 0)))
  have w23 := lo_push w15 w14 (e := .inl (0, 146, .inl (fun _ => 0))) (by omega)
  have w24 := ln_push w14 (e := .inl (0, 146, .inl (fun _ => 0))) (show 224 + 1 = 225 from rfl)
  refine am_putF dX7_init_28 kFX7_20 rfl w19 (Nat.le_of_ble_eq_true rfl) rfl rfl ?_
  have w25 := ln_set w24 (a := 221) (c := .inr (8, [.int 0, .ref (gz G + 222), .ref (gz G + 223), .ref (gz G + 224), .null, .null, .null, .null, .int 0, .null, .int 0, .null, .int 0, .int 0, .int 0, .int 0, .int 0, .int 0, .int 0, .int 0, .int 0, .null, .int 0]))
  have w26 := lo_set w23 (a := 221) (c := .inr (8, [.int 0, .ref (gz G + 222), .ref (gz G + 223), .ref (gz G + 224), .null, .null, .null, .null, .int 0, .null, .int 0, .null, .int 0, .int 0, .int 0, .int 0, .int 0, .int 0, .int 0, .int 0, .int 0, .null, .int 0])) (by omega)
  have w27 := hs_ne (a := 221) (c1 := .inr (8, [.int 0, .ref (gz G + 222), .ref (gz G + 223), .ref (gz G + 224), .null, .null, .null, .null, .int 0, .null, .int 0, .null, .int 0, .int 0, .int 0, .int 0, .int 0, .int 0, .int 0, .int 0, .int 0, .null, .int 0])) w20 (by omega)
  have w28 := hs_ne (a := 221) (c1 := .inr (8, [.int 0, .ref (gz G + 222), .ref (gz G + 223), .ref (gz G + 224), .null, .null, .null, .null, .int 0, .null, .int 0, .null, .int 0, .int 0, .int 0, .int 0, .int 0, .int 0, .int 0, .int 0, .int 0, .null, .int 0])) w21 (by omega)
  have w29 := hs_ne (a := 221) (c1 := .inr (8, [.int 0, .ref (gz G + 222), .ref (gz G + 223), .ref (gz G + 224), .null, .null, .null, .null, .int 0, .null, .int 0, .null, .int 0, .int 0, .int 0, .int 0, .int 0, .int 0, .int 0, .int 0, .int 0, .null, .int 0])) w22 (by omega)
  have w30 := hs_self (c1 := .inr (8, [.int 0, .ref (gz G + 222), .ref (gz G + 223), .ref (gz G + 224), .null, .null, .null, .null, .int 0, .null, .int 0, .null, .int 0, .int 0, .int 0, .int 0, .int 0, .int 0, .int 0, .int 0, .int 0, .null, .int 0])) w19
  refine am_aload_n dX7_init_31 0 rfl ?_
  refine am_aload_n dX7_init_32 0 rfl ?_
  refine am_get dX7_init_33 kGX7_13 w30 rfl ?_
  refine am_put dX7_init_36 kFX7_23 w30 (Nat.le_of_ble_eq_true rfl) rfl rfl ?_
  have w31 := ln_set w25 (a := 221) (c := .inr (8, [.int 0, .ref (gz G + 222), .ref (gz G + 223), .ref (gz G + 224), .ref (gz G + 222), .null, .null, .null, .int 0, .null, .int 0, .null, .int 0, .int 0, .int 0, .int 0, .int 0, .int 0, .int 0, .int 0, .int 0, .null, .int 0]))
  have w32 := lo_set w26 (a := 221) (c := .inr (8, [.int 0, .ref (gz G + 222), .ref (gz G + 223), .ref (gz G + 224), .ref (gz G + 222), .null, .null, .null, .int 0, .null, .int 0, .null, .int 0, .int 0, .int 0, .int 0, .int 0, .int 0, .int 0, .int 0, .int 0, .null, .int 0])) (by omega)
  have w33 := hs_ne (a := 221) (c1 := .inr (8, [.int 0, .ref (gz G + 222), .ref (gz G + 223), .ref (gz G + 224), .ref (gz G + 222), .null, .null, .null, .int 0, .null, .int 0, .null, .int 0, .int 0, .int 0, .int 0, .int 0, .int 0, .int 0, .int 0, .int 0, .null, .int 0])) w27 (by omega)
  have w34 := hs_ne (a := 221) (c1 := .inr (8, [.int 0, .ref (gz G + 222), .ref (gz G + 223), .ref (gz G + 224), .ref (gz G + 222), .null, .null, .null, .int 0, .null, .int 0, .null, .int 0, .int 0, .int 0, .int 0, .int 0, .int 0, .int 0, .int 0, .int 0, .null, .int 0])) w28 (by omega)
  have w35 := hs_ne (a := 221) (c1 := .inr (8, [.int 0, .ref (gz G + 222), .ref (gz G + 223), .ref (gz G + 224), .ref (gz G + 222), .null, .null, .null, .int 0, .null, .int 0, .null, .int 0, .int 0, .int 0, .int 0, .int 0, .int 0, .int 0, .int 0, .int 0, .null, .int 0])) w29 (by omega)
  have w36 := hs_self (c1 := .inr (8, [.int 0, .ref (gz G + 222), .ref (gz G + 223), .ref (gz G + 224), .ref (gz G + 222), .null, .null, .null, .int 0, .null, .int 0, .null, .int 0, .int 0, .int 0, .int 0, .int 0, .int 0, .int 0, .int 0, .int 0, .null, .int 0])) w30
  refine am_aload_n dX7_init_39 0 rfl ?_
  refine am_sipush (v := 16384) dX7_init_40 (by decide) ?_
  refine am_newiL w31 (k1 := 5) (u1 := 4688) (N := 16384) dX7_init_43 kAI (by decide) rfl (by decide) (by decide) (by decide) ?_
  have w37 := hs_push w36 (e := .inl (0, 16384, .inl (fun _ => 0)))
  have w38 := hs_push w33 (e := .inl (0, 16384, .inl (fun _ => 0)))
  have w39 := hs_push w34 (e := .inl (0, 16384, .inl (fun _ => 0)))
  have w40 := hs_push w35 (e := .inl (0, 16384, .inl (fun _ => 0)))
  have w41 := hs_newc w31 (e := .inl (0, 16384, .inl (fun _ => 0)))
  have w42 := lo_push w32 w31 (e := .inl (0, 16384, .inl (fun _ => 0))) (by omega)
  have w43 := ln_push w31 (e := .inl (0, 16384, .inl (fun _ => 0))) (show 225 + 1 = 226 from rfl)
  refine am_putF dX7_init_45 kFX7_26 rfl w37 (Nat.le_of_ble_eq_true rfl) rfl rfl ?_
  have w44 := ln_set w43 (a := 221) (c := .inr (8, [.int 0, .ref (gz G + 222), .ref (gz G + 223), .ref (gz G + 224), .ref (gz G + 222), .ref (gz G + 225), .null, .null, .int 0, .null, .int 0, .null, .int 0, .int 0, .int 0, .int 0, .int 0, .int 0, .int 0, .int 0, .int 0, .null, .int 0]))
  have w45 := lo_set w42 (a := 221) (c := .inr (8, [.int 0, .ref (gz G + 222), .ref (gz G + 223), .ref (gz G + 224), .ref (gz G + 222), .ref (gz G + 225), .null, .null, .int 0, .null, .int 0, .null, .int 0, .int 0, .int 0, .int 0, .int 0, .int 0, .int 0, .int 0, .int 0, .null, .int 0])) (by omega)
  have w46 := hs_ne (a := 221) (c1 := .inr (8, [.int 0, .ref (gz G + 222), .ref (gz G + 223), .ref (gz G + 224), .ref (gz G + 222), .ref (gz G + 225), .null, .null, .int 0, .null, .int 0, .null, .int 0, .int 0, .int 0, .int 0, .int 0, .int 0, .int 0, .int 0, .int 0, .null, .int 0])) w38 (by omega)
  have w47 := hs_ne (a := 221) (c1 := .inr (8, [.int 0, .ref (gz G + 222), .ref (gz G + 223), .ref (gz G + 224), .ref (gz G + 222), .ref (gz G + 225), .null, .null, .int 0, .null, .int 0, .null, .int 0, .int 0, .int 0, .int 0, .int 0, .int 0, .int 0, .int 0, .int 0, .null, .int 0])) w39 (by omega)
  have w48 := hs_ne (a := 221) (c1 := .inr (8, [.int 0, .ref (gz G + 222), .ref (gz G + 223), .ref (gz G + 224), .ref (gz G + 222), .ref (gz G + 225), .null, .null, .int 0, .null, .int 0, .null, .int 0, .int 0, .int 0, .int 0, .int 0, .int 0, .int 0, .int 0, .int 0, .null, .int 0])) w40 (by omega)
  have w49 := hs_ne (a := 221) (c1 := .inr (8, [.int 0, .ref (gz G + 222), .ref (gz G + 223), .ref (gz G + 224), .ref (gz G + 222), .ref (gz G + 225), .null, .null, .int 0, .null, .int 0, .null, .int 0, .int 0, .int 0, .int 0, .int 0, .int 0, .int 0, .int 0, .int 0, .null, .int 0])) w41 (by omega)
  have w50 := hs_self (c1 := .inr (8, [.int 0, .ref (gz G + 222), .ref (gz G + 223), .ref (gz G + 224), .ref (gz G + 222), .ref (gz G + 225), .null, .null, .int 0, .null, .int 0, .null, .int 0, .int 0, .int 0, .int 0, .int 0, .int 0, .int 0, .int 0, .int 0, .null, .int 0])) w37
  refine am_aload_n dX7_init_48 0 rfl ?_
  refine am_bipush (v := 14) dX7_init_49 (by decide) ?_
  refine am_newiL w44 (k1 := 4) (u1 := 4674) (N := 14) dX7_init_51 kAI (by decide) rfl (by decide) (by decide) (by decide) ?_
  have w51 := hs_push w50 (e := .inl (0, 14, .inl (fun _ => 0)))
  have w52 := hs_push w46 (e := .inl (0, 14, .inl (fun _ => 0)))
  have w53 := hs_push w47 (e := .inl (0, 14, .inl (fun _ => 0)))
  have w54 := hs_push w48 (e := .inl (0, 14, .inl (fun _ => 0)))
  have w55 := hs_push w49 (e := .inl (0, 14, .inl (fun _ => 0)))
  have w56 := hs_newc w44 (e := .inl (0, 14, .inl (fun _ => 0)))
  have w57 := lo_push w45 w44 (e := .inl (0, 14, .inl (fun _ => 0))) (by omega)
  have w58 := ln_push w44 (e := .inl (0, 14, .inl (fun _ => 0))) (show 226 + 1 = 227 from rfl)
  refine am_putF dX7_init_53 kFX7_29 rfl w51 (Nat.le_of_ble_eq_true rfl) rfl rfl ?_
  have w59 := ln_set w58 (a := 221) (c := .inr (8, [.int 0, .ref (gz G + 222), .ref (gz G + 223), .ref (gz G + 224), .ref (gz G + 222), .ref (gz G + 225), .ref (gz G + 226), .null, .int 0, .null, .int 0, .null, .int 0, .int 0, .int 0, .int 0, .int 0, .int 0, .int 0, .int 0, .int 0, .null, .int 0]))
  have w60 := lo_set w57 (a := 221) (c := .inr (8, [.int 0, .ref (gz G + 222), .ref (gz G + 223), .ref (gz G + 224), .ref (gz G + 222), .ref (gz G + 225), .ref (gz G + 226), .null, .int 0, .null, .int 0, .null, .int 0, .int 0, .int 0, .int 0, .int 0, .int 0, .int 0, .int 0, .int 0, .null, .int 0])) (by omega)
  have w61 := hs_ne (a := 221) (c1 := .inr (8, [.int 0, .ref (gz G + 222), .ref (gz G + 223), .ref (gz G + 224), .ref (gz G + 222), .ref (gz G + 225), .ref (gz G + 226), .null, .int 0, .null, .int 0, .null, .int 0, .int 0, .int 0, .int 0, .int 0, .int 0, .int 0, .int 0, .int 0, .null, .int 0])) w52 (by omega)
  have w62 := hs_ne (a := 221) (c1 := .inr (8, [.int 0, .ref (gz G + 222), .ref (gz G + 223), .ref (gz G + 224), .ref (gz G + 222), .ref (gz G + 225), .ref (gz G + 226), .null, .int 0, .null, .int 0, .null, .int 0, .int 0, .int 0, .int 0, .int 0, .int 0, .int 0, .int 0, .int 0, .null, .int 0])) w53 (by omega)
  have w63 := hs_ne (a := 221) (c1 := .inr (8, [.int 0, .ref (gz G + 222), .ref (gz G + 223), .ref (gz G + 224), .ref (gz G + 222), .ref (gz G + 225), .ref (gz G + 226), .null, .int 0, .null, .int 0, .null, .int 0, .int 0, .int 0, .int 0, .int 0, .int 0, .int 0, .int 0, .int 0, .null, .int 0])) w54 (by omega)
  have w64 := hs_ne (a := 221) (c1 := .inr (8, [.int 0, .ref (gz G + 222), .ref (gz G + 223), .ref (gz G + 224), .ref (gz G + 222), .ref (gz G + 225), .ref (gz G + 226), .null, .int 0, .null, .int 0, .null, .int 0, .int 0, .int 0, .int 0, .int 0, .int 0, .int 0, .int 0, .int 0, .null, .int 0])) w55 (by omega)
  have w65 := hs_ne (a := 221) (c1 := .inr (8, [.int 0, .ref (gz G + 222), .ref (gz G + 223), .ref (gz G + 224), .ref (gz G + 222), .ref (gz G + 225), .ref (gz G + 226), .null, .int 0, .null, .int 0, .null, .int 0, .int 0, .int 0, .int 0, .int 0, .int 0, .int 0, .int 0, .int 0, .null, .int 0])) w56 (by omega)
  have w66 := hs_self (c1 := .inr (8, [.int 0, .ref (gz G + 222), .ref (gz G + 223), .ref (gz G + 224), .ref (gz G + 222), .ref (gz G + 225), .ref (gz G + 226), .null, .int 0, .null, .int 0, .null, .int 0, .int 0, .int 0, .int 0, .int 0, .int 0, .int 0, .int 0, .int 0, .null, .int 0])) w51
  refine am_aload_n dX7_init_56 0 rfl ?_
  refine am_bipush (v := 14) dX7_init_57 (by decide) ?_
  refine am_newiL w59 (k1 := 3) (u1 := 4660) (N := 14) dX7_init_59 kAI (by decide) rfl (by decide) (by decide) (by decide) ?_
  have w67 := hs_push w66 (e := .inl (0, 14, .inl (fun _ => 0)))
  have w68 := hs_push w61 (e := .inl (0, 14, .inl (fun _ => 0)))
  have w69 := hs_push w62 (e := .inl (0, 14, .inl (fun _ => 0)))
  have w70 := hs_push w63 (e := .inl (0, 14, .inl (fun _ => 0)))
  have w71 := hs_push w64 (e := .inl (0, 14, .inl (fun _ => 0)))
  have w72 := hs_push w65 (e := .inl (0, 14, .inl (fun _ => 0)))
  have w73 := hs_newc w59 (e := .inl (0, 14, .inl (fun _ => 0)))
  have w74 := lo_push w60 w59 (e := .inl (0, 14, .inl (fun _ => 0))) (by omega)
  have w75 := ln_push w59 (e := .inl (0, 14, .inl (fun _ => 0))) (show 227 + 1 = 228 from rfl)
  refine am_putF dX7_init_61 kFX7_32 rfl w67 (Nat.le_of_ble_eq_true rfl) rfl rfl ?_
  have w76 := ln_set w75 (a := 221) (c := .inr (8, [.int 0, .ref (gz G + 222), .ref (gz G + 223), .ref (gz G + 224), .ref (gz G + 222), .ref (gz G + 225), .ref (gz G + 226), .ref (gz G + 227), .int 0, .null, .int 0, .null, .int 0, .int 0, .int 0, .int 0, .int 0, .int 0, .int 0, .int 0, .int 0, .null, .int 0]))
  have w77 := lo_set w74 (a := 221) (c := .inr (8, [.int 0, .ref (gz G + 222), .ref (gz G + 223), .ref (gz G + 224), .ref (gz G + 222), .ref (gz G + 225), .ref (gz G + 226), .ref (gz G + 227), .int 0, .null, .int 0, .null, .int 0, .int 0, .int 0, .int 0, .int 0, .int 0, .int 0, .int 0, .int 0, .null, .int 0])) (by omega)
  have w78 := hs_ne (a := 221) (c1 := .inr (8, [.int 0, .ref (gz G + 222), .ref (gz G + 223), .ref (gz G + 224), .ref (gz G + 222), .ref (gz G + 225), .ref (gz G + 226), .ref (gz G + 227), .int 0, .null, .int 0, .null, .int 0, .int 0, .int 0, .int 0, .int 0, .int 0, .int 0, .int 0, .int 0, .null, .int 0])) w68 (by omega)
  have w79 := hs_ne (a := 221) (c1 := .inr (8, [.int 0, .ref (gz G + 222), .ref (gz G + 223), .ref (gz G + 224), .ref (gz G + 222), .ref (gz G + 225), .ref (gz G + 226), .ref (gz G + 227), .int 0, .null, .int 0, .null, .int 0, .int 0, .int 0, .int 0, .int 0, .int 0, .int 0, .int 0, .int 0, .null, .int 0])) w69 (by omega)
  have w80 := hs_ne (a := 221) (c1 := .inr (8, [.int 0, .ref (gz G + 222), .ref (gz G + 223), .ref (gz G + 224), .ref (gz G + 222), .ref (gz G + 225), .ref (gz G + 226), .ref (gz G + 227), .int 0, .null, .int 0, .null, .int 0, .int 0, .int 0, .int 0, .int 0, .int 0, .int 0, .int 0, .int 0, .null, .int 0])) w70 (by omega)
  have w81 := hs_ne (a := 221) (c1 := .inr (8, [.int 0, .ref (gz G + 222), .ref (gz G + 223), .ref (gz G + 224), .ref (gz G + 222), .ref (gz G + 225), .ref (gz G + 226), .ref (gz G + 227), .int 0, .null, .int 0, .null, .int 0, .int 0, .int 0, .int 0, .int 0, .int 0, .int 0, .int 0, .int 0, .null, .int 0])) w71 (by omega)
  have w82 := hs_ne (a := 221) (c1 := .inr (8, [.int 0, .ref (gz G + 222), .ref (gz G + 223), .ref (gz G + 224), .ref (gz G + 222), .ref (gz G + 225), .ref (gz G + 226), .ref (gz G + 227), .int 0, .null, .int 0, .null, .int 0, .int 0, .int 0, .int 0, .int 0, .int 0, .int 0, .int 0, .int 0, .null, .int 0])) w72 (by omega)
  have w83 := hs_ne (a := 221) (c1 := .inr (8, [.int 0, .ref (gz G + 222), .ref (gz G + 223), .ref (gz G + 224), .ref (gz G + 222), .ref (gz G + 225), .ref (gz G + 226), .ref (gz G + 227), .int 0, .null, .int 0, .null, .int 0, .int 0, .int 0, .int 0, .int 0, .int 0, .int 0, .int 0, .int 0, .null, .int 0])) w73 (by omega)
  have w84 := hs_self (c1 := .inr (8, [.int 0, .ref (gz G + 222), .ref (gz G + 223), .ref (gz G + 224), .ref (gz G + 222), .ref (gz G + 225), .ref (gz G + 226), .ref (gz G + 227), .int 0, .null, .int 0, .null, .int 0, .int 0, .int 0, .int 0, .int 0, .int 0, .int 0, .int 0, .int 0, .null, .int 0])) w67
  refine am_aload_n dX7_init_64 0 rfl ?_
  refine am_sipush (v := 1460) dX7_init_65 (by decide) ?_
  refine am_newiL w76 (k1 := 2) (u1 := 3200) (N := 1460) dX7_init_68 kAI (by decide) rfl (by decide) (by decide) (by decide) ?_
  have w85 := hs_push w84 (e := .inl (0, 1460, .inl (fun _ => 0)))
  have w86 := hs_push w78 (e := .inl (0, 1460, .inl (fun _ => 0)))
  have w87 := hs_push w79 (e := .inl (0, 1460, .inl (fun _ => 0)))
  have w88 := hs_push w80 (e := .inl (0, 1460, .inl (fun _ => 0)))
  have w89 := hs_push w81 (e := .inl (0, 1460, .inl (fun _ => 0)))
  have w90 := hs_push w82 (e := .inl (0, 1460, .inl (fun _ => 0)))
  have w91 := hs_push w83 (e := .inl (0, 1460, .inl (fun _ => 0)))
  have w92 := hs_newc w76 (e := .inl (0, 1460, .inl (fun _ => 0)))
  have w93 := lo_push w77 w76 (e := .inl (0, 1460, .inl (fun _ => 0))) (by omega)
  have w94 := ln_push w76 (e := .inl (0, 1460, .inl (fun _ => 0))) (show 228 + 1 = 229 from rfl)
  refine am_putF dX7_init_70 kFX7_35 rfl w85 (Nat.le_of_ble_eq_true rfl) rfl rfl ?_
  have w95 := ln_set w94 (a := 221) (c := .inr (8, [.int 0, .ref (gz G + 222), .ref (gz G + 223), .ref (gz G + 224), .ref (gz G + 222), .ref (gz G + 225), .ref (gz G + 226), .ref (gz G + 227), .int 0, .ref (gz G + 228), .int 0, .null, .int 0, .int 0, .int 0, .int 0, .int 0, .int 0, .int 0, .int 0, .int 0, .null, .int 0]))
  have w96 := lo_set w93 (a := 221) (c := .inr (8, [.int 0, .ref (gz G + 222), .ref (gz G + 223), .ref (gz G + 224), .ref (gz G + 222), .ref (gz G + 225), .ref (gz G + 226), .ref (gz G + 227), .int 0, .ref (gz G + 228), .int 0, .null, .int 0, .int 0, .int 0, .int 0, .int 0, .int 0, .int 0, .int 0, .int 0, .null, .int 0])) (by omega)
  have w97 := hs_ne (a := 221) (c1 := .inr (8, [.int 0, .ref (gz G + 222), .ref (gz G + 223), .ref (gz G + 224), .ref (gz G + 222), .ref (gz G + 225), .ref (gz G + 226), .ref (gz G + 227), .int 0, .ref (gz G + 228), .int 0, .null, .int 0, .int 0, .int 0, .int 0, .int 0, .int 0, .int 0, .int 0, .int 0, .null, .int 0])) w86 (by omega)
  have w98 := hs_ne (a := 221) (c1 := .inr (8, [.int 0, .ref (gz G + 222), .ref (gz G + 223), .ref (gz G + 224), .ref (gz G + 222), .ref (gz G + 225), .ref (gz G + 226), .ref (gz G + 227), .int 0, .ref (gz G + 228), .int 0, .null, .int 0, .int 0, .int 0, .int 0, .int 0, .int 0, .int 0, .int 0, .int 0, .null, .int 0])) w87 (by omega)
  have w99 := hs_ne (a := 221) (c1 := .inr (8, [.int 0, .ref (gz G + 222), .ref (gz G + 223), .ref (gz G + 224), .ref (gz G + 222), .ref (gz G + 225), .ref (gz G + 226), .ref (gz G + 227), .int 0, .ref (gz G + 228), .int 0, .null, .int 0, .int 0, .int 0, .int 0, .int 0, .int 0, .int 0, .int 0, .int 0, .null, .int 0])) w88 (by omega)
  have w100 := hs_ne (a := 221) (c1 := .inr (8, [.int 0, .ref (gz G + 222), .ref (gz G + 223), .ref (gz G + 224), .ref (gz G + 222), .ref (gz G + 225), .ref (gz G + 226), .ref (gz G + 227), .int 0, .ref (gz G + 228), .int 0, .null, .int 0, .int 0, .int 0, .int 0, .int 0, .int 0, .int 0, .int 0, .int 0, .null, .int 0])) w89 (by omega)
  have w101 := hs_ne (a := 221) (c1 := .inr (8, [.int 0, .ref (gz G + 222), .ref (gz G + 223), .ref (gz G + 224), .ref (gz G + 222), .ref (gz G + 225), .ref (gz G + 226), .ref (gz G + 227), .int 0, .ref (gz G + 228), .int 0, .null, .int 0, .int 0, .int 0, .int 0, .int 0, .int 0, .int 0, .int 0, .int 0, .null, .int 0])) w90 (by omega)
  have w102 := hs_ne (a := 221) (c1 := .inr (8, [.int 0, .ref (gz G + 222), .ref (gz G + 223), .ref (gz G + 224), .ref (gz G + 222), .ref (gz G + 225), .ref (gz G + 226), .ref (gz G + 227), .int 0, .ref (gz G + 228), .int 0, .null, .int 0, .int 0, .int 0, .int 0, .int 0, .int 0, .int 0, .int 0, .int 0, .null, .int 0])) w91 (by omega)
  have w103 := hs_ne (a := 221) (c1 := .inr (8, [.int 0, .ref (gz G + 222), .ref (gz G + 223), .ref (gz G + 224), .ref (gz G + 222), .ref (gz G + 225), .ref (gz G + 226), .ref (gz G + 227), .int 0, .ref (gz G + 228), .int 0, .null, .int 0, .int 0, .int 0, .int 0, .int 0, .int 0, .int 0, .int 0, .int 0, .null, .int 0])) w92 (by omega)
  have w104 := hs_self (c1 := .inr (8, [.int 0, .ref (gz G + 222), .ref (gz G + 223), .ref (gz G + 224), .ref (gz G + 222), .ref (gz G + 225), .ref (gz G + 226), .ref (gz G + 227), .int 0, .ref (gz G + 228), .int 0, .null, .int 0, .int 0, .int 0, .int 0, .int 0, .int 0, .int 0, .int 0, .int 0, .null, .int 0])) w85
  refine am_aload_n dX7_init_73 0 rfl ?_
  refine am_sipush (v := 1200) dX7_init_74 (by decide) ?_
  refine am_newbL w95 (k1 := 1) (u1 := 2000) (N := 1200) dX7_init_77 kAB (by decide) rfl (by decide) (by decide) (by decide) ?_
  have w105 := hs_push w104 (e := .inl (1, 1200, .inl (fun _ => 0)))
  have w106 := hs_push w97 (e := .inl (1, 1200, .inl (fun _ => 0)))
  have w107 := hs_push w98 (e := .inl (1, 1200, .inl (fun _ => 0)))
  have w108 := hs_push w99 (e := .inl (1, 1200, .inl (fun _ => 0)))
  have w109 := hs_push w100 (e := .inl (1, 1200, .inl (fun _ => 0)))
  have w110 := hs_push w101 (e := .inl (1, 1200, .inl (fun _ => 0)))
  have w111 := hs_push w102 (e := .inl (1, 1200, .inl (fun _ => 0)))
  have w112 := hs_push w103 (e := .inl (1, 1200, .inl (fun _ => 0)))
  have w113 := hs_newc w95 (e := .inl (1, 1200, .inl (fun _ => 0)))
  have w114 := lo_push w96 w95 (e := .inl (1, 1200, .inl (fun _ => 0))) (by omega)
  have w115 := ln_push w95 (e := .inl (1, 1200, .inl (fun _ => 0))) (show 229 + 1 = 230 from rfl)
  refine am_putF dX7_init_79 kFX7_38 rfl w105 (Nat.le_of_ble_eq_true rfl) rfl rfl ?_
  have w116 := ln_set w115 (a := 221) (c := .inr (8, [.int 0, .ref (gz G + 222), .ref (gz G + 223), .ref (gz G + 224), .ref (gz G + 222), .ref (gz G + 225), .ref (gz G + 226), .ref (gz G + 227), .int 0, .ref (gz G + 228), .int 0, .ref (gz G + 229), .int 0, .int 0, .int 0, .int 0, .int 0, .int 0, .int 0, .int 0, .int 0, .null, .int 0]))
  have w117 := lo_set w114 (a := 221) (c := .inr (8, [.int 0, .ref (gz G + 222), .ref (gz G + 223), .ref (gz G + 224), .ref (gz G + 222), .ref (gz G + 225), .ref (gz G + 226), .ref (gz G + 227), .int 0, .ref (gz G + 228), .int 0, .ref (gz G + 229), .int 0, .int 0, .int 0, .int 0, .int 0, .int 0, .int 0, .int 0, .int 0, .null, .int 0])) (by omega)
  have w118 := hs_ne (a := 221) (c1 := .inr (8, [.int 0, .ref (gz G + 222), .ref (gz G + 223), .ref (gz G + 224), .ref (gz G + 222), .ref (gz G + 225), .ref (gz G + 226), .ref (gz G + 227), .int 0, .ref (gz G + 228), .int 0, .ref (gz G + 229), .int 0, .int 0, .int 0, .int 0, .int 0, .int 0, .int 0, .int 0, .int 0, .null, .int 0])) w106 (by omega)
  have w119 := hs_ne (a := 221) (c1 := .inr (8, [.int 0, .ref (gz G + 222), .ref (gz G + 223), .ref (gz G + 224), .ref (gz G + 222), .ref (gz G + 225), .ref (gz G + 226), .ref (gz G + 227), .int 0, .ref (gz G + 228), .int 0, .ref (gz G + 229), .int 0, .int 0, .int 0, .int 0, .int 0, .int 0, .int 0, .int 0, .int 0, .null, .int 0])) w107 (by omega)
  have w120 := hs_ne (a := 221) (c1 := .inr (8, [.int 0, .ref (gz G + 222), .ref (gz G + 223), .ref (gz G + 224), .ref (gz G + 222), .ref (gz G + 225), .ref (gz G + 226), .ref (gz G + 227), .int 0, .ref (gz G + 228), .int 0, .ref (gz G + 229), .int 0, .int 0, .int 0, .int 0, .int 0, .int 0, .int 0, .int 0, .int 0, .null, .int 0])) w108 (by omega)
  have w121 := hs_ne (a := 221) (c1 := .inr (8, [.int 0, .ref (gz G + 222), .ref (gz G + 223), .ref (gz G + 224), .ref (gz G + 222), .ref (gz G + 225), .ref (gz G + 226), .ref (gz G + 227), .int 0, .ref (gz G + 228), .int 0, .ref (gz G + 229), .int 0, .int 0, .int 0, .int 0, .int 0, .int 0, .int 0, .int 0, .int 0, .null, .int 0])) w109 (by omega)
  have w122 := hs_ne (a := 221) (c1 := .inr (8, [.int 0, .ref (gz G + 222), .ref (gz G + 223), .ref (gz G + 224), .ref (gz G + 222), .ref (gz G + 225), .ref (gz G + 226), .ref (gz G + 227), .int 0, .ref (gz G + 228), .int 0, .ref (gz G + 229), .int 0, .int 0, .int 0, .int 0, .int 0, .int 0, .int 0, .int 0, .int 0, .null, .int 0])) w110 (by omega)
  have w123 := hs_ne (a := 221) (c1 := .inr (8, [.int 0, .ref (gz G + 222), .ref (gz G + 223), .ref (gz G + 224), .ref (gz G + 222), .ref (gz G + 225), .ref (gz G + 226), .ref (gz G + 227), .int 0, .ref (gz G + 228), .int 0, .ref (gz G + 229), .int 0, .int 0, .int 0, .int 0, .int 0, .int 0, .int 0, .int 0, .int 0, .null, .int 0])) w111 (by omega)
  have w124 := hs_ne (a := 221) (c1 := .inr (8, [.int 0, .ref (gz G + 222), .ref (gz G + 223), .ref (gz G + 224), .ref (gz G + 222), .ref (gz G + 225), .ref (gz G + 226), .ref (gz G + 227), .int 0, .ref (gz G + 228), .int 0, .ref (gz G + 229), .int 0, .int 0, .int 0, .int 0, .int 0, .int 0, .int 0, .int 0, .int 0, .null, .int 0])) w112 (by omega)
  have w125 := hs_ne (a := 221) (c1 := .inr (8, [.int 0, .ref (gz G + 222), .ref (gz G + 223), .ref (gz G + 224), .ref (gz G + 222), .ref (gz G + 225), .ref (gz G + 226), .ref (gz G + 227), .int 0, .ref (gz G + 228), .int 0, .ref (gz G + 229), .int 0, .int 0, .int 0, .int 0, .int 0, .int 0, .int 0, .int 0, .int 0, .null, .int 0])) w113 (by omega)
  have w126 := hs_self (c1 := .inr (8, [.int 0, .ref (gz G + 222), .ref (gz G + 223), .ref (gz G + 224), .ref (gz G + 222), .ref (gz G + 225), .ref (gz G + 226), .ref (gz G + 227), .int 0, .ref (gz G + 228), .int 0, .ref (gz G + 229), .int 0, .int 0, .int 0, .int 0, .int 0, .int 0, .int 0, .int 0, .int 0, .null, .int 0])) w105
  refine am_aload_n dX7_init_82 0 rfl ?_
  refine am_iconst (v := (-1)) dX7_init_83 (by decide) ?_
  refine am_put dX7_init_84 kFX7_42 w126 (Nat.le_of_ble_eq_true rfl) rfl rfl ?_
  have w127 := ln_set w116 (a := 221) (c := .inr (8, [.int 0, .ref (gz G + 222), .ref (gz G + 223), .ref (gz G + 224), .ref (gz G + 222), .ref (gz G + 225), .ref (gz G + 226), .ref (gz G + 227), .int 0, .ref (gz G + 228), .int 0, .ref (gz G + 229), .int 0, .int 0, .int 0, .int 0, .int 0, .int 0, .int 0, .int (-1), .int 0, .null, .int 0]))
  have w128 := lo_set w117 (a := 221) (c := .inr (8, [.int 0, .ref (gz G + 222), .ref (gz G + 223), .ref (gz G + 224), .ref (gz G + 222), .ref (gz G + 225), .ref (gz G + 226), .ref (gz G + 227), .int 0, .ref (gz G + 228), .int 0, .ref (gz G + 229), .int 0, .int 0, .int 0, .int 0, .int 0, .int 0, .int 0, .int (-1), .int 0, .null, .int 0])) (by omega)
  have w129 := hs_ne (a := 221) (c1 := .inr (8, [.int 0, .ref (gz G + 222), .ref (gz G + 223), .ref (gz G + 224), .ref (gz G + 222), .ref (gz G + 225), .ref (gz G + 226), .ref (gz G + 227), .int 0, .ref (gz G + 228), .int 0, .ref (gz G + 229), .int 0, .int 0, .int 0, .int 0, .int 0, .int 0, .int 0, .int (-1), .int 0, .null, .int 0])) w118 (by omega)
  have w130 := hs_ne (a := 221) (c1 := .inr (8, [.int 0, .ref (gz G + 222), .ref (gz G + 223), .ref (gz G + 224), .ref (gz G + 222), .ref (gz G + 225), .ref (gz G + 226), .ref (gz G + 227), .int 0, .ref (gz G + 228), .int 0, .ref (gz G + 229), .int 0, .int 0, .int 0, .int 0, .int 0, .int 0, .int 0, .int (-1), .int 0, .null, .int 0])) w119 (by omega)
  have w131 := hs_ne (a := 221) (c1 := .inr (8, [.int 0, .ref (gz G + 222), .ref (gz G + 223), .ref (gz G + 224), .ref (gz G + 222), .ref (gz G + 225), .ref (gz G + 226), .ref (gz G + 227), .int 0, .ref (gz G + 228), .int 0, .ref (gz G + 229), .int 0, .int 0, .int 0, .int 0, .int 0, .int 0, .int 0, .int (-1), .int 0, .null, .int 0])) w120 (by omega)
  have w132 := hs_ne (a := 221) (c1 := .inr (8, [.int 0, .ref (gz G + 222), .ref (gz G + 223), .ref (gz G + 224), .ref (gz G + 222), .ref (gz G + 225), .ref (gz G + 226), .ref (gz G + 227), .int 0, .ref (gz G + 228), .int 0, .ref (gz G + 229), .int 0, .int 0, .int 0, .int 0, .int 0, .int 0, .int 0, .int (-1), .int 0, .null, .int 0])) w121 (by omega)
  have w133 := hs_ne (a := 221) (c1 := .inr (8, [.int 0, .ref (gz G + 222), .ref (gz G + 223), .ref (gz G + 224), .ref (gz G + 222), .ref (gz G + 225), .ref (gz G + 226), .ref (gz G + 227), .int 0, .ref (gz G + 228), .int 0, .ref (gz G + 229), .int 0, .int 0, .int 0, .int 0, .int 0, .int 0, .int 0, .int (-1), .int 0, .null, .int 0])) w122 (by omega)
  have w134 := hs_ne (a := 221) (c1 := .inr (8, [.int 0, .ref (gz G + 222), .ref (gz G + 223), .ref (gz G + 224), .ref (gz G + 222), .ref (gz G + 225), .ref (gz G + 226), .ref (gz G + 227), .int 0, .ref (gz G + 228), .int 0, .ref (gz G + 229), .int 0, .int 0, .int 0, .int 0, .int 0, .int 0, .int 0, .int (-1), .int 0, .null, .int 0])) w123 (by omega)
  have w135 := hs_ne (a := 221) (c1 := .inr (8, [.int 0, .ref (gz G + 222), .ref (gz G + 223), .ref (gz G + 224), .ref (gz G + 222), .ref (gz G + 225), .ref (gz G + 226), .ref (gz G + 227), .int 0, .ref (gz G + 228), .int 0, .ref (gz G + 229), .int 0, .int 0, .int 0, .int 0, .int 0, .int 0, .int 0, .int (-1), .int 0, .null, .int 0])) w124 (by omega)
  have w136 := hs_ne (a := 221) (c1 := .inr (8, [.int 0, .ref (gz G + 222), .ref (gz G + 223), .ref (gz G + 224), .ref (gz G + 222), .ref (gz G + 225), .ref (gz G + 226), .ref (gz G + 227), .int 0, .ref (gz G + 228), .int 0, .ref (gz G + 229), .int 0, .int 0, .int 0, .int 0, .int 0, .int 0, .int 0, .int (-1), .int 0, .null, .int 0])) w125 (by omega)
  have w137 := hs_self (c1 := .inr (8, [.int 0, .ref (gz G + 222), .ref (gz G + 223), .ref (gz G + 224), .ref (gz G + 222), .ref (gz G + 225), .ref (gz G + 226), .ref (gz G + 227), .int 0, .ref (gz G + 228), .int 0, .ref (gz G + 229), .int 0, .int 0, .int 0, .int 0, .int 0, .int 0, .int 0, .int (-1), .int 0, .null, .int 0])) w126
  refine am_aload_n dX7_init_87 0 rfl ?_
  refine am_sipush (v := 2000) dX7_init_88 (by decide) ?_
  refine am_newbL w127 (k1 := 0) (u1 := 0) (N := 2000) dX7_init_91 kAB (by decide) rfl (by decide) (by decide) (by decide) ?_
  have w138 := hs_push w137 (e := .inl (1, 2000, .inl (fun _ => 0)))
  have w139 := hs_push w129 (e := .inl (1, 2000, .inl (fun _ => 0)))
  have w140 := hs_push w130 (e := .inl (1, 2000, .inl (fun _ => 0)))
  have w141 := hs_push w131 (e := .inl (1, 2000, .inl (fun _ => 0)))
  have w142 := hs_push w132 (e := .inl (1, 2000, .inl (fun _ => 0)))
  have w143 := hs_push w133 (e := .inl (1, 2000, .inl (fun _ => 0)))
  have w144 := hs_push w134 (e := .inl (1, 2000, .inl (fun _ => 0)))
  have w145 := hs_push w135 (e := .inl (1, 2000, .inl (fun _ => 0)))
  have w146 := hs_push w136 (e := .inl (1, 2000, .inl (fun _ => 0)))
  have w147 := hs_newc w127 (e := .inl (1, 2000, .inl (fun _ => 0)))
  have w148 := lo_push w128 w127 (e := .inl (1, 2000, .inl (fun _ => 0))) (by omega)
  have w149 := ln_push w127 (e := .inl (1, 2000, .inl (fun _ => 0))) (show 230 + 1 = 231 from rfl)
  refine am_putF dX7_init_93 kFX7_45 rfl w138 (Nat.le_of_ble_eq_true rfl) rfl rfl ?_
  have w150 := ln_set w149 (a := 221) (c := .inr (8, [.int 0, .ref (gz G + 222), .ref (gz G + 223), .ref (gz G + 224), .ref (gz G + 222), .ref (gz G + 225), .ref (gz G + 226), .ref (gz G + 227), .int 0, .ref (gz G + 228), .int 0, .ref (gz G + 229), .int 0, .int 0, .int 0, .int 0, .int 0, .int 0, .int 0, .int (-1), .int 0, .ref (gz G + 230), .int 0]))
  have w151 := lo_set w148 (a := 221) (c := .inr (8, [.int 0, .ref (gz G + 222), .ref (gz G + 223), .ref (gz G + 224), .ref (gz G + 222), .ref (gz G + 225), .ref (gz G + 226), .ref (gz G + 227), .int 0, .ref (gz G + 228), .int 0, .ref (gz G + 229), .int 0, .int 0, .int 0, .int 0, .int 0, .int 0, .int 0, .int (-1), .int 0, .ref (gz G + 230), .int 0])) (by omega)
  have w152 := hs_ne (a := 221) (c1 := .inr (8, [.int 0, .ref (gz G + 222), .ref (gz G + 223), .ref (gz G + 224), .ref (gz G + 222), .ref (gz G + 225), .ref (gz G + 226), .ref (gz G + 227), .int 0, .ref (gz G + 228), .int 0, .ref (gz G + 229), .int 0, .int 0, .int 0, .int 0, .int 0, .int 0, .int 0, .int (-1), .int 0, .ref (gz G + 230), .int 0])) w139 (by omega)
  have w153 := hs_ne (a := 221) (c1 := .inr (8, [.int 0, .ref (gz G + 222), .ref (gz G + 223), .ref (gz G + 224), .ref (gz G + 222), .ref (gz G + 225), .ref (gz G + 226), .ref (gz G + 227), .int 0, .ref (gz G + 228), .int 0, .ref (gz G + 229), .int 0, .int 0, .int 0, .int 0, .int 0, .int 0, .int 0, .int (-1), .int 0, .ref (gz G + 230), .int 0])) w140 (by omega)
  have w154 := hs_ne (a := 221) (c1 := .inr (8, [.int 0, .ref (gz G + 222), .ref (gz G + 223), .ref (gz G + 224), .ref (gz G + 222), .ref (gz G + 225), .ref (gz G + 226), .ref (gz G + 227), .int 0, .ref (gz G + 228), .int 0, .ref (gz G + 229), .int 0, .int 0, .int 0, .int 0, .int 0, .int 0, .int 0, .int (-1), .int 0, .ref (gz G + 230), .int 0])) w141 (by omega)
  have w155 := hs_ne (a := 221) (c1 := .inr (8, [.int 0, .ref (gz G + 222), .ref (gz G + 223), .ref (gz G + 224), .ref (gz G + 222), .ref (gz G + 225), .ref (gz G + 226), .ref (gz G + 227), .int 0, .ref (gz G + 228), .int 0, .ref (gz G + 229), .int 0, .int 0, .int 0, .int 0, .int 0, .int 0, .int 0, .int (-1), .int 0, .ref (gz G + 230), .int 0])) w142 (by omega)
  have w156 := hs_ne (a := 221) (c1 := .inr (8, [.int 0, .ref (gz G + 222), .ref (gz G + 223), .ref (gz G + 224), .ref (gz G + 222), .ref (gz G + 225), .ref (gz G + 226), .ref (gz G + 227), .int 0, .ref (gz G + 228), .int 0, .ref (gz G + 229), .int 0, .int 0, .int 0, .int 0, .int 0, .int 0, .int 0, .int (-1), .int 0, .ref (gz G + 230), .int 0])) w143 (by omega)
  have w157 := hs_ne (a := 221) (c1 := .inr (8, [.int 0, .ref (gz G + 222), .ref (gz G + 223), .ref (gz G + 224), .ref (gz G + 222), .ref (gz G + 225), .ref (gz G + 226), .ref (gz G + 227), .int 0, .ref (gz G + 228), .int 0, .ref (gz G + 229), .int 0, .int 0, .int 0, .int 0, .int 0, .int 0, .int 0, .int (-1), .int 0, .ref (gz G + 230), .int 0])) w144 (by omega)
  have w158 := hs_ne (a := 221) (c1 := .inr (8, [.int 0, .ref (gz G + 222), .ref (gz G + 223), .ref (gz G + 224), .ref (gz G + 222), .ref (gz G + 225), .ref (gz G + 226), .ref (gz G + 227), .int 0, .ref (gz G + 228), .int 0, .ref (gz G + 229), .int 0, .int 0, .int 0, .int 0, .int 0, .int 0, .int 0, .int (-1), .int 0, .ref (gz G + 230), .int 0])) w145 (by omega)
  have w159 := hs_ne (a := 221) (c1 := .inr (8, [.int 0, .ref (gz G + 222), .ref (gz G + 223), .ref (gz G + 224), .ref (gz G + 222), .ref (gz G + 225), .ref (gz G + 226), .ref (gz G + 227), .int 0, .ref (gz G + 228), .int 0, .ref (gz G + 229), .int 0, .int 0, .int 0, .int 0, .int 0, .int 0, .int 0, .int (-1), .int 0, .ref (gz G + 230), .int 0])) w146 (by omega)
  have w160 := hs_ne (a := 221) (c1 := .inr (8, [.int 0, .ref (gz G + 222), .ref (gz G + 223), .ref (gz G + 224), .ref (gz G + 222), .ref (gz G + 225), .ref (gz G + 226), .ref (gz G + 227), .int 0, .ref (gz G + 228), .int 0, .ref (gz G + 229), .int 0, .int 0, .int 0, .int 0, .int 0, .int 0, .int 0, .int (-1), .int 0, .ref (gz G + 230), .int 0])) w147 (by omega)
  have w161 := hs_self (c1 := .inr (8, [.int 0, .ref (gz G + 222), .ref (gz G + 223), .ref (gz G + 224), .ref (gz G + 222), .ref (gz G + 225), .ref (gz G + 226), .ref (gz G + 227), .int 0, .ref (gz G + 228), .int 0, .ref (gz G + 229), .int 0, .int 0, .int 0, .int 0, .int 0, .int 0, .int 0, .int (-1), .int 0, .ref (gz G + 230), .int 0])) w138
  refine am_aload_n dX7_init_96 0 rfl ?_
  refine am_get dX7_init_97 kGX7_13 w161 rfl ?_
  have hm := mz_of (w161) w152 w153 w154 w155 w156 w157 w158 w159 w160 w151 w150
  obtain ⟨R, e1, e2, e3, e4⟩ := hz_clear0 mz0
  refine am_callS (As := [.ref (gz G + 222)]) (rest := []) dX7_init_100 kMX7_48 rfl rfl (Nat.le_of_ble_eq_true rfl) (d2 := 0) (by decide) (k2 := 0) (Nat.zero_le _) (u2 := 0) (Nat.zero_le _) (Nat.le_of_ble_eq_true rfl) (ctX7_clear_222 hm e2) (fun v9 h9 q9 => ?_)
  obtain ⟨r9, f9, rfl, g9⟩ := q9
  exact am_return dX7_init_103 rfl ⟨rfl, r9, g9, by rw [← f9, e1]; exact e3, by rw [← f9, e1]; exact fun p => e4 p⟩
