/-! The model as one world. -/
theorem bnd_p {α : Type} {x r : α} {k : α → Prop} (h : x = r) (h2 : bnd x k) : k r := by subst h; exact h2
theorem ifp {α : Type} {c : Prop} [Decidable c] {a b y : α} (h : c) (t : a = y) : (if c then a else b) = y := (if_pos h).trans t
theorem ifn {α : Type} {c : Prop} [Decidable c] {a b y : α} (h : ¬ c) (t : b = y) : (if c then a else b) = y := (if_neg h).trans t
/-- numbers, rows (0 plant, 1 draft, 2 copy, 3 worth, 4 match, 5 partners, 6 history, 7 input, 8 output), which of the first three is now -/
abbrev Md : Type := (Nat → Int32) × (Nat → Nat → Int32) × Nat
def mS (m : Md) (k : Nat) (v : Int32) : Md := (fun q => if q = k then v else m.1 q, m.2)
def mA (m : Md) (k : Nat) (f : Nat → Int32) : Md := (m.1, fun q => if q = k then f else m.2.1 q, m.2.2)
def mN (m : Md) (k : Nat) : Md := (m.1, m.2.1, k)
def HM (G : GM) (K : Nat → Option va_E) (h : List va_E) (m : Md) : Prop :=
  (h[221]? = some (.inr (8, [.int (m.1 0), .ref (gz G + 222), .ref (gz G + 223), .ref (gz G + 224), .ref (gz G + (222 + m.2.2)), .ref (gz G + 225), .ref (gz G + 226), .ref (gz G + 227), .int (m.1 1), .ref (gz G + 228), .int (m.1 2), .ref (gz G + 229), .int (m.1 3), .int (m.1 4), .int (m.1 5), .int (m.1 6), .int (m.1 7), .int (m.1 8), .int (m.1 9), .int (m.1 10), .int (m.1 11), .ref (gz G + 230), .int (m.1 12)])) ∧
   h[222]? = some (.inl (0, 146, .inl (m.2.1 0))) ∧
   h[223]? = some (.inl (0, 146, .inl (m.2.1 1))) ∧
   h[224]? = some (.inl (0, 146, .inl (m.2.1 2))) ∧
   h[225]? = some (.inl (0, 16384, .inl (m.2.1 3))) ∧
   h[226]? = some (.inl (0, 14, .inl (m.2.1 4))) ∧
   h[227]? = some (.inl (0, 14, .inl (m.2.1 5))) ∧
   h[228]? = some (.inl (0, 1460, .inl (m.2.1 6))) ∧
   h[229]? = some (.inl (1, 1200, .inl (m.2.1 7))) ∧
   h[230]? = some (.inl (1, 2000, .inl (m.2.1 8)))) ∧
  m.2.2 ≤ 2 ∧ (∀ a, (a < 221 ∨ 231 ≤ a) → h[a]? = K a)
section HMS
variable {G : GM} {K : Nat → Option va_E} {h : List va_E} {m : Md}
theorem hmc221 (hm : HM G K h m) : h[221]? = some (.inr (8, [.int (m.1 0), .ref (gz G + 222), .ref (gz G + 223), .ref (gz G + 224), .ref (gz G + (222 + m.2.2)), .ref (gz G + 225), .ref (gz G + 226), .ref (gz G + 227), .int (m.1 1), .ref (gz G + 228), .int (m.1 2), .ref (gz G + 229), .int (m.1 3), .int (m.1 4), .int (m.1 5), .int (m.1 6), .int (m.1 7), .int (m.1 8), .int (m.1 9), .int (m.1 10), .int (m.1 11), .ref (gz G + 230), .int (m.1 12)])) := hm.1.1
theorem hmc222 (hm : HM G K h m) : h[222]? = some (.inl (0, 146, .inl (m.2.1 0))) := hm.1.2.1
theorem hmc223 (hm : HM G K h m) : h[223]? = some (.inl (0, 146, .inl (m.2.1 1))) := hm.1.2.2.1
theorem hmc224 (hm : HM G K h m) : h[224]? = some (.inl (0, 146, .inl (m.2.1 2))) := hm.1.2.2.2.1
theorem hmc225 (hm : HM G K h m) : h[225]? = some (.inl (0, 16384, .inl (m.2.1 3))) := hm.1.2.2.2.2.1
theorem hmc226 (hm : HM G K h m) : h[226]? = some (.inl (0, 14, .inl (m.2.1 4))) := hm.1.2.2.2.2.2.1
theorem hmc227 (hm : HM G K h m) : h[227]? = some (.inl (0, 14, .inl (m.2.1 5))) := hm.1.2.2.2.2.2.2.1
theorem hmc228 (hm : HM G K h m) : h[228]? = some (.inl (0, 1460, .inl (m.2.1 6))) := hm.1.2.2.2.2.2.2.2.1
theorem hmc229 (hm : HM G K h m) : h[229]? = some (.inl (1, 1200, .inl (m.2.1 7))) := hm.1.2.2.2.2.2.2.2.2.1
theorem hmc230 (hm : HM G K h m) : h[230]? = some (.inl (1, 2000, .inl (m.2.1 8))) := hm.1.2.2.2.2.2.2.2.2.2
theorem hm_eq {m2 : Md} (e : m = m2) (hm : HM G K h m) : HM G K h m2 := e ▸ hm
theorem hm_nw {m : Md} (hn : m.2.2 ≤ 2) : m.2.2 = 0 ∨ m.2.2 = 1 ∨ m.2.2 = 2 := by omega
theorem hmN (hm : HM G K h m) : h[222 + m.2.2]? = some (.inl (0, 146, .inl (m.2.1 m.2.2))) := by
  rcases hm_nw hm.2.1 with e | e | e
  · rw [e]; exact hmc222 hm
  · rw [e]; exact hmc223 hm
  · rw [e]; exact hmc224 hm
theorem hmS0 (hm : HM G K h m) (v : Int32) : HM G K (h.set 221 (.inr (8, [.int v, .ref (gz G + 222), .ref (gz G + 223), .ref (gz G + 224), .ref (gz G + (222 + m.2.2)), .ref (gz G + 225), .ref (gz G + 226), .ref (gz G + 227), .int (m.1 1), .ref (gz G + 228), .int (m.1 2), .ref (gz G + 229), .int (m.1 3), .int (m.1 4), .int (m.1 5), .int (m.1 6), .int (m.1 7), .int (m.1 8), .int (m.1 9), .int (m.1 10), .int (m.1 11), .ref (gz G + 230), .int (m.1 12)]))) (mS m 0 v) := by
  obtain ⟨⟨c221, c222, c223, c224, c225, c226, c227, c228, c229, c230⟩, hn, kk⟩ := hm
  refine ⟨⟨hs_self c221, hs_ne c222 (by decide), hs_ne c223 (by decide), hs_ne c224 (by decide), hs_ne c225 (by decide), hs_ne c226 (by decide), hs_ne c227 (by decide), hs_ne c228 (by decide), hs_ne c229 (by decide), hs_ne c230 (by decide)⟩, hn, fun a ha => hs_ne (kk a ha) (by omega)⟩
theorem hmNs (hm : HM G K h m) (k : Nat) (hk : k ≤ 2) : HM G K (h.set 221 (.inr (8, [.int (m.1 0), .ref (gz G + 222), .ref (gz G + 223), .ref (gz G + 224), .ref (gz G + (222 + k)), .ref (gz G + 225), .ref (gz G + 226), .ref (gz G + 227), .int (m.1 1), .ref (gz G + 228), .int (m.1 2), .ref (gz G + 229), .int (m.1 3), .int (m.1 4), .int (m.1 5), .int (m.1 6), .int (m.1 7), .int (m.1 8), .int (m.1 9), .int (m.1 10), .int (m.1 11), .ref (gz G + 230), .int (m.1 12)]))) (mN m k) := by
  obtain ⟨⟨c221, c222, c223, c224, c225, c226, c227, c228, c229, c230⟩, hn, kk⟩ := hm
  refine ⟨⟨hs_self c221, hs_ne c222 (by decide), hs_ne c223 (by decide), hs_ne c224 (by decide), hs_ne c225 (by decide), hs_ne c226 (by decide), hs_ne c227 (by decide), hs_ne c228 (by decide), hs_ne c229 (by decide), hs_ne c230 (by decide)⟩, hk, fun a ha => hs_ne (kk a ha) (by omega)⟩
theorem hmS1 (hm : HM G K h m) (v : Int32) : HM G K (h.set 221 (.inr (8, [.int (m.1 0), .ref (gz G + 222), .ref (gz G + 223), .ref (gz G + 224), .ref (gz G + (222 + m.2.2)), .ref (gz G + 225), .ref (gz G + 226), .ref (gz G + 227), .int v, .ref (gz G + 228), .int (m.1 2), .ref (gz G + 229), .int (m.1 3), .int (m.1 4), .int (m.1 5), .int (m.1 6), .int (m.1 7), .int (m.1 8), .int (m.1 9), .int (m.1 10), .int (m.1 11), .ref (gz G + 230), .int (m.1 12)]))) (mS m 1 v) := by
  obtain ⟨⟨c221, c222, c223, c224, c225, c226, c227, c228, c229, c230⟩, hn, kk⟩ := hm
  refine ⟨⟨hs_self c221, hs_ne c222 (by decide), hs_ne c223 (by decide), hs_ne c224 (by decide), hs_ne c225 (by decide), hs_ne c226 (by decide), hs_ne c227 (by decide), hs_ne c228 (by decide), hs_ne c229 (by decide), hs_ne c230 (by decide)⟩, hn, fun a ha => hs_ne (kk a ha) (by omega)⟩
theorem hmS2 (hm : HM G K h m) (v : Int32) : HM G K (h.set 221 (.inr (8, [.int (m.1 0), .ref (gz G + 222), .ref (gz G + 223), .ref (gz G + 224), .ref (gz G + (222 + m.2.2)), .ref (gz G + 225), .ref (gz G + 226), .ref (gz G + 227), .int (m.1 1), .ref (gz G + 228), .int v, .ref (gz G + 229), .int (m.1 3), .int (m.1 4), .int (m.1 5), .int (m.1 6), .int (m.1 7), .int (m.1 8), .int (m.1 9), .int (m.1 10), .int (m.1 11), .ref (gz G + 230), .int (m.1 12)]))) (mS m 2 v) := by
  obtain ⟨⟨c221, c222, c223, c224, c225, c226, c227, c228, c229, c230⟩, hn, kk⟩ := hm
  refine ⟨⟨hs_self c221, hs_ne c222 (by decide), hs_ne c223 (by decide), hs_ne c224 (by decide), hs_ne c225 (by decide), hs_ne c226 (by decide), hs_ne c227 (by decide), hs_ne c228 (by decide), hs_ne c229 (by decide), hs_ne c230 (by decide)⟩, hn, fun a ha => hs_ne (kk a ha) (by omega)⟩
theorem hmS3 (hm : HM G K h m) (v : Int32) : HM G K (h.set 221 (.inr (8, [.int (m.1 0), .ref (gz G + 222), .ref (gz G + 223), .ref (gz G + 224), .ref (gz G + (222 + m.2.2)), .ref (gz G + 225), .ref (gz G + 226), .ref (gz G + 227), .int (m.1 1), .ref (gz G + 228), .int (m.1 2), .ref (gz G + 229), .int v, .int (m.1 4), .int (m.1 5), .int (m.1 6), .int (m.1 7), .int (m.1 8), .int (m.1 9), .int (m.1 10), .int (m.1 11), .ref (gz G + 230), .int (m.1 12)]))) (mS m 3 v) := by
  obtain ⟨⟨c221, c222, c223, c224, c225, c226, c227, c228, c229, c230⟩, hn, kk⟩ := hm
  refine ⟨⟨hs_self c221, hs_ne c222 (by decide), hs_ne c223 (by decide), hs_ne c224 (by decide), hs_ne c225 (by decide), hs_ne c226 (by decide), hs_ne c227 (by decide), hs_ne c228 (by decide), hs_ne c229 (by decide), hs_ne c230 (by decide)⟩, hn, fun a ha => hs_ne (kk a ha) (by omega)⟩
theorem hmS4 (hm : HM G K h m) (v : Int32) : HM G K (h.set 221 (.inr (8, [.int (m.1 0), .ref (gz G + 222), .ref (gz G + 223), .ref (gz G + 224), .ref (gz G + (222 + m.2.2)), .ref (gz G + 225), .ref (gz G + 226), .ref (gz G + 227), .int (m.1 1), .ref (gz G + 228), .int (m.1 2), .ref (gz G + 229), .int (m.1 3), .int v, .int (m.1 5), .int (m.1 6), .int (m.1 7), .int (m.1 8), .int (m.1 9), .int (m.1 10), .int (m.1 11), .ref (gz G + 230), .int (m.1 12)]))) (mS m 4 v) := by
  obtain ⟨⟨c221, c222, c223, c224, c225, c226, c227, c228, c229, c230⟩, hn, kk⟩ := hm
  refine ⟨⟨hs_self c221, hs_ne c222 (by decide), hs_ne c223 (by decide), hs_ne c224 (by decide), hs_ne c225 (by decide), hs_ne c226 (by decide), hs_ne c227 (by decide), hs_ne c228 (by decide), hs_ne c229 (by decide), hs_ne c230 (by decide)⟩, hn, fun a ha => hs_ne (kk a ha) (by omega)⟩
theorem hmS5 (hm : HM G K h m) (v : Int32) : HM G K (h.set 221 (.inr (8, [.int (m.1 0), .ref (gz G + 222), .ref (gz G + 223), .ref (gz G + 224), .ref (gz G + (222 + m.2.2)), .ref (gz G + 225), .ref (gz G + 226), .ref (gz G + 227), .int (m.1 1), .ref (gz G + 228), .int (m.1 2), .ref (gz G + 229), .int (m.1 3), .int (m.1 4), .int v, .int (m.1 6), .int (m.1 7), .int (m.1 8), .int (m.1 9), .int (m.1 10), .int (m.1 11), .ref (gz G + 230), .int (m.1 12)]))) (mS m 5 v) := by
  obtain ⟨⟨c221, c222, c223, c224, c225, c226, c227, c228, c229, c230⟩, hn, kk⟩ := hm
  refine ⟨⟨hs_self c221, hs_ne c222 (by decide), hs_ne c223 (by decide), hs_ne c224 (by decide), hs_ne c225 (by decide), hs_ne c226 (by decide), hs_ne c227 (by decide), hs_ne c228 (by decide), hs_ne c229 (by decide), hs_ne c230 (by decide)⟩, hn, fun a ha => hs_ne (kk a ha) (by omega)⟩
theorem hmS6 (hm : HM G K h m) (v : Int32) : HM G K (h.set 221 (.inr (8, [.int (m.1 0), .ref (gz G + 222), .ref (gz G + 223), .ref (gz G + 224), .ref (gz G + (222 + m.2.2)), .ref (gz G + 225), .ref (gz G + 226), .ref (gz G + 227), .int (m.1 1), .ref (gz G + 228), .int (m.1 2), .ref (gz G + 229), .int (m.1 3), .int (m.1 4), .int (m.1 5), .int v, .int (m.1 7), .int (m.1 8), .int (m.1 9), .int (m.1 10), .int (m.1 11), .ref (gz G + 230), .int (m.1 12)]))) (mS m 6 v) := by
  obtain ⟨⟨c221, c222, c223, c224, c225, c226, c227, c228, c229, c230⟩, hn, kk⟩ := hm
  refine ⟨⟨hs_self c221, hs_ne c222 (by decide), hs_ne c223 (by decide), hs_ne c224 (by decide), hs_ne c225 (by decide), hs_ne c226 (by decide), hs_ne c227 (by decide), hs_ne c228 (by decide), hs_ne c229 (by decide), hs_ne c230 (by decide)⟩, hn, fun a ha => hs_ne (kk a ha) (by omega)⟩
theorem hmS7 (hm : HM G K h m) (v : Int32) : HM G K (h.set 221 (.inr (8, [.int (m.1 0), .ref (gz G + 222), .ref (gz G + 223), .ref (gz G + 224), .ref (gz G + (222 + m.2.2)), .ref (gz G + 225), .ref (gz G + 226), .ref (gz G + 227), .int (m.1 1), .ref (gz G + 228), .int (m.1 2), .ref (gz G + 229), .int (m.1 3), .int (m.1 4), .int (m.1 5), .int (m.1 6), .int v, .int (m.1 8), .int (m.1 9), .int (m.1 10), .int (m.1 11), .ref (gz G + 230), .int (m.1 12)]))) (mS m 7 v) := by
  obtain ⟨⟨c221, c222, c223, c224, c225, c226, c227, c228, c229, c230⟩, hn, kk⟩ := hm
  refine ⟨⟨hs_self c221, hs_ne c222 (by decide), hs_ne c223 (by decide), hs_ne c224 (by decide), hs_ne c225 (by decide), hs_ne c226 (by decide), hs_ne c227 (by decide), hs_ne c228 (by decide), hs_ne c229 (by decide), hs_ne c230 (by decide)⟩, hn, fun a ha => hs_ne (kk a ha) (by omega)⟩
theorem hmS8 (hm : HM G K h m) (v : Int32) : HM G K (h.set 221 (.inr (8, [.int (m.1 0), .ref (gz G + 222), .ref (gz G + 223), .ref (gz G + 224), .ref (gz G + (222 + m.2.2)), .ref (gz G + 225), .ref (gz G + 226), .ref (gz G + 227), .int (m.1 1), .ref (gz G + 228), .int (m.1 2), .ref (gz G + 229), .int (m.1 3), .int (m.1 4), .int (m.1 5), .int (m.1 6), .int (m.1 7), .int v, .int (m.1 9), .int (m.1 10), .int (m.1 11), .ref (gz G + 230), .int (m.1 12)]))) (mS m 8 v) := by
  obtain ⟨⟨c221, c222, c223, c224, c225, c226, c227, c228, c229, c230⟩, hn, kk⟩ := hm
  refine ⟨⟨hs_self c221, hs_ne c222 (by decide), hs_ne c223 (by decide), hs_ne c224 (by decide), hs_ne c225 (by decide), hs_ne c226 (by decide), hs_ne c227 (by decide), hs_ne c228 (by decide), hs_ne c229 (by decide), hs_ne c230 (by decide)⟩, hn, fun a ha => hs_ne (kk a ha) (by omega)⟩
theorem hmS9 (hm : HM G K h m) (v : Int32) : HM G K (h.set 221 (.inr (8, [.int (m.1 0), .ref (gz G + 222), .ref (gz G + 223), .ref (gz G + 224), .ref (gz G + (222 + m.2.2)), .ref (gz G + 225), .ref (gz G + 226), .ref (gz G + 227), .int (m.1 1), .ref (gz G + 228), .int (m.1 2), .ref (gz G + 229), .int (m.1 3), .int (m.1 4), .int (m.1 5), .int (m.1 6), .int (m.1 7), .int (m.1 8), .int v, .int (m.1 10), .int (m.1 11), .ref (gz G + 230), .int (m.1 12)]))) (mS m 9 v) := by
  obtain ⟨⟨c221, c222, c223, c224, c225, c226, c227, c228, c229, c230⟩, hn, kk⟩ := hm
  refine ⟨⟨hs_self c221, hs_ne c222 (by decide), hs_ne c223 (by decide), hs_ne c224 (by decide), hs_ne c225 (by decide), hs_ne c226 (by decide), hs_ne c227 (by decide), hs_ne c228 (by decide), hs_ne c229 (by decide), hs_ne c230 (by decide)⟩, hn, fun a ha => hs_ne (kk a ha) (by omega)⟩
theorem hmS10 (hm : HM G K h m) (v : Int32) : HM G K (h.set 221 (.inr (8, [.int (m.1 0), .ref (gz G + 222), .ref (gz G + 223), .ref (gz G + 224), .ref (gz G + (222 + m.2.2)), .ref (gz G + 225), .ref (gz G + 226), .ref (gz G + 227), .int (m.1 1), .ref (gz G + 228), .int (m.1 2), .ref (gz G + 229), .int (m.1 3), .int (m.1 4), .int (m.1 5), .int (m.1 6), .int (m.1 7), .int (m.1 8), .int (m.1 9), .int v, .int (m.1 11), .ref (gz G + 230), .int (m.1 12)]))) (mS m 10 v) := by
  obtain ⟨⟨c221, c222, c223, c224, c225, c226, c227, c228, c229, c230⟩, hn, kk⟩ := hm
  refine ⟨⟨hs_self c221, hs_ne c222 (by decide), hs_ne c223 (by decide), hs_ne c224 (by decide), hs_ne c225 (by decide), hs_ne c226 (by decide), hs_ne c227 (by decide), hs_ne c228 (by decide), hs_ne c229 (by decide), hs_ne c230 (by decide)⟩, hn, fun a ha => hs_ne (kk a ha) (by omega)⟩
theorem hmS11 (hm : HM G K h m) (v : Int32) : HM G K (h.set 221 (.inr (8, [.int (m.1 0), .ref (gz G + 222), .ref (gz G + 223), .ref (gz G + 224), .ref (gz G + (222 + m.2.2)), .ref (gz G + 225), .ref (gz G + 226), .ref (gz G + 227), .int (m.1 1), .ref (gz G + 228), .int (m.1 2), .ref (gz G + 229), .int (m.1 3), .int (m.1 4), .int (m.1 5), .int (m.1 6), .int (m.1 7), .int (m.1 8), .int (m.1 9), .int (m.1 10), .int v, .ref (gz G + 230), .int (m.1 12)]))) (mS m 11 v) := by
  obtain ⟨⟨c221, c222, c223, c224, c225, c226, c227, c228, c229, c230⟩, hn, kk⟩ := hm
  refine ⟨⟨hs_self c221, hs_ne c222 (by decide), hs_ne c223 (by decide), hs_ne c224 (by decide), hs_ne c225 (by decide), hs_ne c226 (by decide), hs_ne c227 (by decide), hs_ne c228 (by decide), hs_ne c229 (by decide), hs_ne c230 (by decide)⟩, hn, fun a ha => hs_ne (kk a ha) (by omega)⟩
theorem hmS12 (hm : HM G K h m) (v : Int32) : HM G K (h.set 221 (.inr (8, [.int (m.1 0), .ref (gz G + 222), .ref (gz G + 223), .ref (gz G + 224), .ref (gz G + (222 + m.2.2)), .ref (gz G + 225), .ref (gz G + 226), .ref (gz G + 227), .int (m.1 1), .ref (gz G + 228), .int (m.1 2), .ref (gz G + 229), .int (m.1 3), .int (m.1 4), .int (m.1 5), .int (m.1 6), .int (m.1 7), .int (m.1 8), .int (m.1 9), .int (m.1 10), .int (m.1 11), .ref (gz G + 230), .int v]))) (mS m 12 v) := by
  obtain ⟨⟨c221, c222, c223, c224, c225, c226, c227, c228, c229, c230⟩, hn, kk⟩ := hm
  refine ⟨⟨hs_self c221, hs_ne c222 (by decide), hs_ne c223 (by decide), hs_ne c224 (by decide), hs_ne c225 (by decide), hs_ne c226 (by decide), hs_ne c227 (by decide), hs_ne c228 (by decide), hs_ne c229 (by decide), hs_ne c230 (by decide)⟩, hn, fun a ha => hs_ne (kk a ha) (by omega)⟩
theorem hmA0 (hm : HM G K h m) (f : Nat → Int32) : HM G K (h.set 222 (.inl (0, 146, .inl f))) (mA m 0 f) := by
  obtain ⟨⟨c221, c222, c223, c224, c225, c226, c227, c228, c229, c230⟩, hn, kk⟩ := hm
  refine ⟨⟨hs_ne c221 (by decide), hs_self c222, hs_ne c223 (by decide), hs_ne c224 (by decide), hs_ne c225 (by decide), hs_ne c226 (by decide), hs_ne c227 (by decide), hs_ne c228 (by decide), hs_ne c229 (by decide), hs_ne c230 (by decide)⟩, hn, fun a ha => hs_ne (kk a ha) (by omega)⟩
theorem hmA1 (hm : HM G K h m) (f : Nat → Int32) : HM G K (h.set 223 (.inl (0, 146, .inl f))) (mA m 1 f) := by
  obtain ⟨⟨c221, c222, c223, c224, c225, c226, c227, c228, c229, c230⟩, hn, kk⟩ := hm
  refine ⟨⟨hs_ne c221 (by decide), hs_ne c222 (by decide), hs_self c223, hs_ne c224 (by decide), hs_ne c225 (by decide), hs_ne c226 (by decide), hs_ne c227 (by decide), hs_ne c228 (by decide), hs_ne c229 (by decide), hs_ne c230 (by decide)⟩, hn, fun a ha => hs_ne (kk a ha) (by omega)⟩
theorem hmA2 (hm : HM G K h m) (f : Nat → Int32) : HM G K (h.set 224 (.inl (0, 146, .inl f))) (mA m 2 f) := by
  obtain ⟨⟨c221, c222, c223, c224, c225, c226, c227, c228, c229, c230⟩, hn, kk⟩ := hm
  refine ⟨⟨hs_ne c221 (by decide), hs_ne c222 (by decide), hs_ne c223 (by decide), hs_self c224, hs_ne c225 (by decide), hs_ne c226 (by decide), hs_ne c227 (by decide), hs_ne c228 (by decide), hs_ne c229 (by decide), hs_ne c230 (by decide)⟩, hn, fun a ha => hs_ne (kk a ha) (by omega)⟩
theorem hmA3 (hm : HM G K h m) (f : Nat → Int32) : HM G K (h.set 225 (.inl (0, 16384, .inl f))) (mA m 3 f) := by
  obtain ⟨⟨c221, c222, c223, c224, c225, c226, c227, c228, c229, c230⟩, hn, kk⟩ := hm
  refine ⟨⟨hs_ne c221 (by decide), hs_ne c222 (by decide), hs_ne c223 (by decide), hs_ne c224 (by decide), hs_self c225, hs_ne c226 (by decide), hs_ne c227 (by decide), hs_ne c228 (by decide), hs_ne c229 (by decide), hs_ne c230 (by decide)⟩, hn, fun a ha => hs_ne (kk a ha) (by omega)⟩
theorem hmA4 (hm : HM G K h m) (f : Nat → Int32) : HM G K (h.set 226 (.inl (0, 14, .inl f))) (mA m 4 f) := by
  obtain ⟨⟨c221, c222, c223, c224, c225, c226, c227, c228, c229, c230⟩, hn, kk⟩ := hm
  refine ⟨⟨hs_ne c221 (by decide), hs_ne c222 (by decide), hs_ne c223 (by decide), hs_ne c224 (by decide), hs_ne c225 (by decide), hs_self c226, hs_ne c227 (by decide), hs_ne c228 (by decide), hs_ne c229 (by decide), hs_ne c230 (by decide)⟩, hn, fun a ha => hs_ne (kk a ha) (by omega)⟩
theorem hmA5 (hm : HM G K h m) (f : Nat → Int32) : HM G K (h.set 227 (.inl (0, 14, .inl f))) (mA m 5 f) := by
  obtain ⟨⟨c221, c222, c223, c224, c225, c226, c227, c228, c229, c230⟩, hn, kk⟩ := hm
  refine ⟨⟨hs_ne c221 (by decide), hs_ne c222 (by decide), hs_ne c223 (by decide), hs_ne c224 (by decide), hs_ne c225 (by decide), hs_ne c226 (by decide), hs_self c227, hs_ne c228 (by decide), hs_ne c229 (by decide), hs_ne c230 (by decide)⟩, hn, fun a ha => hs_ne (kk a ha) (by omega)⟩
theorem hmA6 (hm : HM G K h m) (f : Nat → Int32) : HM G K (h.set 228 (.inl (0, 1460, .inl f))) (mA m 6 f) := by
  obtain ⟨⟨c221, c222, c223, c224, c225, c226, c227, c228, c229, c230⟩, hn, kk⟩ := hm
  refine ⟨⟨hs_ne c221 (by decide), hs_ne c222 (by decide), hs_ne c223 (by decide), hs_ne c224 (by decide), hs_ne c225 (by decide), hs_ne c226 (by decide), hs_ne c227 (by decide), hs_self c228, hs_ne c229 (by decide), hs_ne c230 (by decide)⟩, hn, fun a ha => hs_ne (kk a ha) (by omega)⟩
theorem hmA7 (hm : HM G K h m) (f : Nat → Int32) : HM G K (h.set 229 (.inl (1, 1200, .inl f))) (mA m 7 f) := by
  obtain ⟨⟨c221, c222, c223, c224, c225, c226, c227, c228, c229, c230⟩, hn, kk⟩ := hm
  refine ⟨⟨hs_ne c221 (by decide), hs_ne c222 (by decide), hs_ne c223 (by decide), hs_ne c224 (by decide), hs_ne c225 (by decide), hs_ne c226 (by decide), hs_ne c227 (by decide), hs_ne c228 (by decide), hs_self c229, hs_ne c230 (by decide)⟩, hn, fun a ha => hs_ne (kk a ha) (by omega)⟩
theorem hmA8 (hm : HM G K h m) (f : Nat → Int32) : HM G K (h.set 230 (.inl (1, 2000, .inl f))) (mA m 8 f) := by
  obtain ⟨⟨c221, c222, c223, c224, c225, c226, c227, c228, c229, c230⟩, hn, kk⟩ := hm
  refine ⟨⟨hs_ne c221 (by decide), hs_ne c222 (by decide), hs_ne c223 (by decide), hs_ne c224 (by decide), hs_ne c225 (by decide), hs_ne c226 (by decide), hs_ne c227 (by decide), hs_ne c228 (by decide), hs_ne c229 (by decide), hs_self c230⟩, hn, fun a ha => hs_ne (kk a ha) (by omega)⟩
theorem hmNw (hm : HM G K h m) (f : Nat → Int32) : HM G K (h.set (222 + m.2.2) (.inl (0, 146, .inl f))) (mA m m.2.2 f) := by
  rcases hm_nw hm.2.1 with e | e | e
  · rw [e]; exact hmA0 hm f
  · rw [e]; exact hmA1 hm f
  · rw [e]; exact hmA2 hm f
theorem hmNe {n : Nat} (hm : HM G K h m) (e : m.2.2 = n) : h[222 + n]? = some (.inl (0, 146, .inl (m.2.1 n))) := by subst e; exact hmN hm
theorem hmNwe {n : Nat} (hm : HM G K h m) (e : m.2.2 = n) (f : Nat → Int32) : HM G K (h.set (222 + n) (.inl (0, 146, .inl f))) (mA m n f) := by subst e; exact hmNw hm f
end HMS
section LDW
variable {l : Launch} {G : GM} {M : MD} {d k u pc : Nat} {lv lv' : List (Nat × Value)} {rest : List Value} {h : List va_E} {Q : Option Value → List va_E → Prop}
theorem am_ldcwS {index j : Nat} {tx : String} {bs : List Int32} (hd : decode M.2.1 pc = .ok (.ldc_w index, 3)) (hj : strTab[j]? = some (M.1.cls, index, tx, bs)) (k1 : Tr l G M d k u (pc + 3) lv (.ref (gS G j) :: rest) h Q) : Tr l G M d k u pc lv rest h Q := by
  intro p e R s m args below meth c H locs cells slots mc ms ls F
  have k2 := k1 p e R s m args below meth c H locs cells slots mc ms ls F
  have hZ := (F.2.2.2.2.2.2.2.1 j _ hj).1
  have hb := F.1.2.1
  intro T hT X
  obtain ⟨t, a1, b1⟩ := k2 T hT X
  exact ⟨t, X.ldcStringW F.1.1 F.1.2.2.2.1 (text := tx) (a := gS G j) hZ.1 hZ.2 (g := F0 m pc ls rest) rfl (by rw [hb]; exact hd) t a1, b1⟩
end LDW

