/-! What a plant is: 9 numbers (0 yarns, 1 shapes, 2 sizes, 3 length tolerance, 4 shade tolerance, 5 strength, 6 box, 7 days, 8 pieces) and 14 rows (0 yarnNames, 1 stretches, 2 recoveries, 3 shapeNames, 4 shapeLengths, 5 sizeNames, 6 sizeLeasts, 7 sizeGreatests, 8 yarns, 9 kinds, 10 knitted, 11 lengths, 12 shades, 13 states); its cells: the plant, its catalogue, the rows. -/
abbrev Pl : Type := (Nat → Int32) × (Nat → Nat → Int32)
def upS (p : Pl) (k : Nat) (v : Int32) : Pl := (fun q => if q = k then v else p.1 q, p.2)
def upR (p : Pl) (r : Nat) (f : Nat → Int32) : Pl := (p.1, fun q => if q = r then f else p.2 q)
def plLen (r : Nat) : Nat := if r < 3 then 6 else if r < 5 then 8 else if r < 8 then 6 else 14
def plC (z b : Nat) (p : Pl) (k : Nat) : va_E := match k with
  | 0 => .inr (6, [.ref (z + (b + 1)), .int (p.1 3), .int (p.1 4), .int (p.1 5), .int (p.1 6), .int (p.1 7), .int (p.1 8), .ref (z + (b + 10)), .ref (z + (b + 11)), .ref (z + (b + 12)), .ref (z + (b + 13)), .ref (z + (b + 14)), .ref (z + (b + 15))])
  | 1 => .inr (1, [.int (p.1 0), .int (p.1 1), .int (p.1 2), .ref (z + (b + 2)), .ref (z + (b + 3)), .ref (z + (b + 4)), .ref (z + (b + 5)), .ref (z + (b + 6)), .ref (z + (b + 7)), .ref (z + (b + 8)), .ref (z + (b + 9))])
  | r + 2 => .inl (0, plLen r, .inl (p.2 r))
def PlantAt (G : GM) (h : List va_E) (b : Nat) (p : Pl) : Prop := ∀ k, k < 16 → h[b + k]? = some (plC (gz G) b p k)
theorem PlantAt.keep {G : GM} {h : List va_E} {b : Nat} {p : Pl} (hp : PlantAt G h b p) {a : Nat} {c : va_E} (ha : a < b ∨ b + 16 ≤ a) : PlantAt G (h.set a c) b p := fun k hk => hs_ne (hp k hk) (by omega)
theorem PlantAt.fr {G : GM} {h h1 : List va_E} {b : Nat} {p : Pl} {S : Nat → Prop} (hp : PlantAt G h b p) (hF : Fr S h h1) (hS : ∀ k, k < 16 → ¬ S (b + k)) : PlantAt G h1 b p := fun k hk => (hF.2 _ (hS k hk)).trans (hp k hk)
theorem PlantAt.to {G : GM} {h : List va_E} {b : Nat} {p p1 : Pl} {i : Nat} {c : va_E} (hp : PlantAt G h b p) (hi : i < 16) (hc : plC (gz G) b p1 i = c) (ho : ∀ k, k < 16 → k ≠ i → plC (gz G) b p1 k = plC (gz G) b p k) : PlantAt G (h.set (b + i) c) b p1 := by
  intro k hk
  by_cases hki : k = i
  · subst hki
    rw [hc]
    exact hs_self (hp k hk)
  · rw [ho k hk hki]
    exact hs_ne (hp k hk) (by omega)
theorem pl_0 {G : GM} {h : List va_E} {b : Nat} {p : Pl} (hp : PlantAt G h b p) : h[b]? = some (.inr (6, [.ref (gz G + (b + 1)), .int (p.1 3), .int (p.1 4), .int (p.1 5), .int (p.1 6), .int (p.1 7), .int (p.1 8), .ref (gz G + (b + 10)), .ref (gz G + (b + 11)), .ref (gz G + (b + 12)), .ref (gz G + (b + 13)), .ref (gz G + (b + 14)), .ref (gz G + (b + 15))])) := hp 0 (by decide)
theorem pl_1 {G : GM} {h : List va_E} {b : Nat} {p : Pl} (hp : PlantAt G h b p) : h[b + 1]? = some (.inr (1, [.int (p.1 0), .int (p.1 1), .int (p.1 2), .ref (gz G + (b + 2)), .ref (gz G + (b + 3)), .ref (gz G + (b + 4)), .ref (gz G + (b + 5)), .ref (gz G + (b + 6)), .ref (gz G + (b + 7)), .ref (gz G + (b + 8)), .ref (gz G + (b + 9))])) := hp 1 (by decide)
theorem pl_r0 {G : GM} {h : List va_E} {b : Nat} {p : Pl} (hp : PlantAt G h b p) : h[b + 2]? = some (.inl (0, 6, .inl (p.2 0))) := hp 2 (by decide)
theorem pl_u0 {G : GM} {h : List va_E} {b : Nat} {p : Pl} (hp : PlantAt G h b p) (f : Nat → Int32) : PlantAt G (h.set (b + 2) (.inl (0, 6, .inl f))) b (upR p 0 f) := by
  refine hp.to (by decide) rfl (fun k hk hne => ?_)
  match k, hne with
  | 0, _ => rfl
  | 1, _ => rfl
  | k + 2, hne => show (Sum.inl (0, plLen k, Sum.inl (if k = 0 then f else p.2 k)) : va_E) = _; rw [if_neg (by omega)]; rfl
theorem pl_r1 {G : GM} {h : List va_E} {b : Nat} {p : Pl} (hp : PlantAt G h b p) : h[b + 3]? = some (.inl (0, 6, .inl (p.2 1))) := hp 3 (by decide)
theorem pl_u1 {G : GM} {h : List va_E} {b : Nat} {p : Pl} (hp : PlantAt G h b p) (f : Nat → Int32) : PlantAt G (h.set (b + 3) (.inl (0, 6, .inl f))) b (upR p 1 f) := by
  refine hp.to (by decide) rfl (fun k hk hne => ?_)
  match k, hne with
  | 0, _ => rfl
  | 1, _ => rfl
  | k + 2, hne => show (Sum.inl (0, plLen k, Sum.inl (if k = 1 then f else p.2 k)) : va_E) = _; rw [if_neg (by omega)]; rfl
theorem pl_r2 {G : GM} {h : List va_E} {b : Nat} {p : Pl} (hp : PlantAt G h b p) : h[b + 4]? = some (.inl (0, 6, .inl (p.2 2))) := hp 4 (by decide)
theorem pl_u2 {G : GM} {h : List va_E} {b : Nat} {p : Pl} (hp : PlantAt G h b p) (f : Nat → Int32) : PlantAt G (h.set (b + 4) (.inl (0, 6, .inl f))) b (upR p 2 f) := by
  refine hp.to (by decide) rfl (fun k hk hne => ?_)
  match k, hne with
  | 0, _ => rfl
  | 1, _ => rfl
  | k + 2, hne => show (Sum.inl (0, plLen k, Sum.inl (if k = 2 then f else p.2 k)) : va_E) = _; rw [if_neg (by omega)]; rfl
theorem pl_r3 {G : GM} {h : List va_E} {b : Nat} {p : Pl} (hp : PlantAt G h b p) : h[b + 5]? = some (.inl (0, 8, .inl (p.2 3))) := hp 5 (by decide)
theorem pl_u3 {G : GM} {h : List va_E} {b : Nat} {p : Pl} (hp : PlantAt G h b p) (f : Nat → Int32) : PlantAt G (h.set (b + 5) (.inl (0, 8, .inl f))) b (upR p 3 f) := by
  refine hp.to (by decide) rfl (fun k hk hne => ?_)
  match k, hne with
  | 0, _ => rfl
  | 1, _ => rfl
  | k + 2, hne => show (Sum.inl (0, plLen k, Sum.inl (if k = 3 then f else p.2 k)) : va_E) = _; rw [if_neg (by omega)]; rfl
theorem pl_r4 {G : GM} {h : List va_E} {b : Nat} {p : Pl} (hp : PlantAt G h b p) : h[b + 6]? = some (.inl (0, 8, .inl (p.2 4))) := hp 6 (by decide)
theorem pl_u4 {G : GM} {h : List va_E} {b : Nat} {p : Pl} (hp : PlantAt G h b p) (f : Nat → Int32) : PlantAt G (h.set (b + 6) (.inl (0, 8, .inl f))) b (upR p 4 f) := by
  refine hp.to (by decide) rfl (fun k hk hne => ?_)
  match k, hne with
  | 0, _ => rfl
  | 1, _ => rfl
  | k + 2, hne => show (Sum.inl (0, plLen k, Sum.inl (if k = 4 then f else p.2 k)) : va_E) = _; rw [if_neg (by omega)]; rfl
theorem pl_r5 {G : GM} {h : List va_E} {b : Nat} {p : Pl} (hp : PlantAt G h b p) : h[b + 7]? = some (.inl (0, 6, .inl (p.2 5))) := hp 7 (by decide)
theorem pl_u5 {G : GM} {h : List va_E} {b : Nat} {p : Pl} (hp : PlantAt G h b p) (f : Nat → Int32) : PlantAt G (h.set (b + 7) (.inl (0, 6, .inl f))) b (upR p 5 f) := by
  refine hp.to (by decide) rfl (fun k hk hne => ?_)
  match k, hne with
  | 0, _ => rfl
  | 1, _ => rfl
  | k + 2, hne => show (Sum.inl (0, plLen k, Sum.inl (if k = 5 then f else p.2 k)) : va_E) = _; rw [if_neg (by omega)]; rfl
theorem pl_r6 {G : GM} {h : List va_E} {b : Nat} {p : Pl} (hp : PlantAt G h b p) : h[b + 8]? = some (.inl (0, 6, .inl (p.2 6))) := hp 8 (by decide)
theorem pl_u6 {G : GM} {h : List va_E} {b : Nat} {p : Pl} (hp : PlantAt G h b p) (f : Nat → Int32) : PlantAt G (h.set (b + 8) (.inl (0, 6, .inl f))) b (upR p 6 f) := by
  refine hp.to (by decide) rfl (fun k hk hne => ?_)
  match k, hne with
  | 0, _ => rfl
  | 1, _ => rfl
  | k + 2, hne => show (Sum.inl (0, plLen k, Sum.inl (if k = 6 then f else p.2 k)) : va_E) = _; rw [if_neg (by omega)]; rfl
theorem pl_r7 {G : GM} {h : List va_E} {b : Nat} {p : Pl} (hp : PlantAt G h b p) : h[b + 9]? = some (.inl (0, 6, .inl (p.2 7))) := hp 9 (by decide)
theorem pl_u7 {G : GM} {h : List va_E} {b : Nat} {p : Pl} (hp : PlantAt G h b p) (f : Nat → Int32) : PlantAt G (h.set (b + 9) (.inl (0, 6, .inl f))) b (upR p 7 f) := by
  refine hp.to (by decide) rfl (fun k hk hne => ?_)
  match k, hne with
  | 0, _ => rfl
  | 1, _ => rfl
  | k + 2, hne => show (Sum.inl (0, plLen k, Sum.inl (if k = 7 then f else p.2 k)) : va_E) = _; rw [if_neg (by omega)]; rfl
theorem pl_r8 {G : GM} {h : List va_E} {b : Nat} {p : Pl} (hp : PlantAt G h b p) : h[b + 10]? = some (.inl (0, 14, .inl (p.2 8))) := hp 10 (by decide)
theorem pl_u8 {G : GM} {h : List va_E} {b : Nat} {p : Pl} (hp : PlantAt G h b p) (f : Nat → Int32) : PlantAt G (h.set (b + 10) (.inl (0, 14, .inl f))) b (upR p 8 f) := by
  refine hp.to (by decide) rfl (fun k hk hne => ?_)
  match k, hne with
  | 0, _ => rfl
  | 1, _ => rfl
  | k + 2, hne => show (Sum.inl (0, plLen k, Sum.inl (if k = 8 then f else p.2 k)) : va_E) = _; rw [if_neg (by omega)]; rfl
theorem pl_r9 {G : GM} {h : List va_E} {b : Nat} {p : Pl} (hp : PlantAt G h b p) : h[b + 11]? = some (.inl (0, 14, .inl (p.2 9))) := hp 11 (by decide)
theorem pl_u9 {G : GM} {h : List va_E} {b : Nat} {p : Pl} (hp : PlantAt G h b p) (f : Nat → Int32) : PlantAt G (h.set (b + 11) (.inl (0, 14, .inl f))) b (upR p 9 f) := by
  refine hp.to (by decide) rfl (fun k hk hne => ?_)
  match k, hne with
  | 0, _ => rfl
  | 1, _ => rfl
  | k + 2, hne => show (Sum.inl (0, plLen k, Sum.inl (if k = 9 then f else p.2 k)) : va_E) = _; rw [if_neg (by omega)]; rfl
theorem pl_r10 {G : GM} {h : List va_E} {b : Nat} {p : Pl} (hp : PlantAt G h b p) : h[b + 12]? = some (.inl (0, 14, .inl (p.2 10))) := hp 12 (by decide)
theorem pl_u10 {G : GM} {h : List va_E} {b : Nat} {p : Pl} (hp : PlantAt G h b p) (f : Nat → Int32) : PlantAt G (h.set (b + 12) (.inl (0, 14, .inl f))) b (upR p 10 f) := by
  refine hp.to (by decide) rfl (fun k hk hne => ?_)
  match k, hne with
  | 0, _ => rfl
  | 1, _ => rfl
  | k + 2, hne => show (Sum.inl (0, plLen k, Sum.inl (if k = 10 then f else p.2 k)) : va_E) = _; rw [if_neg (by omega)]; rfl
theorem pl_r11 {G : GM} {h : List va_E} {b : Nat} {p : Pl} (hp : PlantAt G h b p) : h[b + 13]? = some (.inl (0, 14, .inl (p.2 11))) := hp 13 (by decide)
theorem pl_u11 {G : GM} {h : List va_E} {b : Nat} {p : Pl} (hp : PlantAt G h b p) (f : Nat → Int32) : PlantAt G (h.set (b + 13) (.inl (0, 14, .inl f))) b (upR p 11 f) := by
  refine hp.to (by decide) rfl (fun k hk hne => ?_)
  match k, hne with
  | 0, _ => rfl
  | 1, _ => rfl
  | k + 2, hne => show (Sum.inl (0, plLen k, Sum.inl (if k = 11 then f else p.2 k)) : va_E) = _; rw [if_neg (by omega)]; rfl
theorem pl_r12 {G : GM} {h : List va_E} {b : Nat} {p : Pl} (hp : PlantAt G h b p) : h[b + 14]? = some (.inl (0, 14, .inl (p.2 12))) := hp 14 (by decide)
theorem pl_u12 {G : GM} {h : List va_E} {b : Nat} {p : Pl} (hp : PlantAt G h b p) (f : Nat → Int32) : PlantAt G (h.set (b + 14) (.inl (0, 14, .inl f))) b (upR p 12 f) := by
  refine hp.to (by decide) rfl (fun k hk hne => ?_)
  match k, hne with
  | 0, _ => rfl
  | 1, _ => rfl
  | k + 2, hne => show (Sum.inl (0, plLen k, Sum.inl (if k = 12 then f else p.2 k)) : va_E) = _; rw [if_neg (by omega)]; rfl
theorem pl_r13 {G : GM} {h : List va_E} {b : Nat} {p : Pl} (hp : PlantAt G h b p) : h[b + 15]? = some (.inl (0, 14, .inl (p.2 13))) := hp 15 (by decide)
theorem pl_u13 {G : GM} {h : List va_E} {b : Nat} {p : Pl} (hp : PlantAt G h b p) (f : Nat → Int32) : PlantAt G (h.set (b + 15) (.inl (0, 14, .inl f))) b (upR p 13 f) := by
  refine hp.to (by decide) rfl (fun k hk hne => ?_)
  match k, hne with
  | 0, _ => rfl
  | 1, _ => rfl
  | k + 2, hne => show (Sum.inl (0, plLen k, Sum.inl (if k = 13 then f else p.2 k)) : va_E) = _; rw [if_neg (by omega)]; rfl
theorem pl_s0 {G : GM} {h : List va_E} {b : Nat} {p : Pl} (hp : PlantAt G h b p) (v : Int32) : PlantAt G (h.set (b + 1) (.inr (1, [.int v, .int (p.1 1), .int (p.1 2), .ref (gz G + (b + 2)), .ref (gz G + (b + 3)), .ref (gz G + (b + 4)), .ref (gz G + (b + 5)), .ref (gz G + (b + 6)), .ref (gz G + (b + 7)), .ref (gz G + (b + 8)), .ref (gz G + (b + 9))]))) b (upS p 0 v) := by
  refine hp.to (i := 1) (by decide) rfl (fun k hk hne => ?_)
  match k, hne with
  | 0, _ => rfl
  | 1, _ => exact absurd rfl ‹_›
  | k + 2, _ => rfl
theorem pl_s1 {G : GM} {h : List va_E} {b : Nat} {p : Pl} (hp : PlantAt G h b p) (v : Int32) : PlantAt G (h.set (b + 1) (.inr (1, [.int (p.1 0), .int v, .int (p.1 2), .ref (gz G + (b + 2)), .ref (gz G + (b + 3)), .ref (gz G + (b + 4)), .ref (gz G + (b + 5)), .ref (gz G + (b + 6)), .ref (gz G + (b + 7)), .ref (gz G + (b + 8)), .ref (gz G + (b + 9))]))) b (upS p 1 v) := by
  refine hp.to (i := 1) (by decide) rfl (fun k hk hne => ?_)
  match k, hne with
  | 0, _ => rfl
  | 1, _ => exact absurd rfl ‹_›
  | k + 2, _ => rfl
theorem pl_s2 {G : GM} {h : List va_E} {b : Nat} {p : Pl} (hp : PlantAt G h b p) (v : Int32) : PlantAt G (h.set (b + 1) (.inr (1, [.int (p.1 0), .int (p.1 1), .int v, .ref (gz G + (b + 2)), .ref (gz G + (b + 3)), .ref (gz G + (b + 4)), .ref (gz G + (b + 5)), .ref (gz G + (b + 6)), .ref (gz G + (b + 7)), .ref (gz G + (b + 8)), .ref (gz G + (b + 9))]))) b (upS p 2 v) := by
  refine hp.to (i := 1) (by decide) rfl (fun k hk hne => ?_)
  match k, hne with
  | 0, _ => rfl
  | 1, _ => exact absurd rfl ‹_›
  | k + 2, _ => rfl
theorem pl_s3 {G : GM} {h : List va_E} {b : Nat} {p : Pl} (hp : PlantAt G h b p) (v : Int32) : PlantAt G (h.set b (.inr (6, [.ref (gz G + (b + 1)), .int v, .int (p.1 4), .int (p.1 5), .int (p.1 6), .int (p.1 7), .int (p.1 8), .ref (gz G + (b + 10)), .ref (gz G + (b + 11)), .ref (gz G + (b + 12)), .ref (gz G + (b + 13)), .ref (gz G + (b + 14)), .ref (gz G + (b + 15))]))) b (upS p 3 v) := by
  refine hp.to (i := 0) (by decide) rfl (fun k hk hne => ?_)
  match k, hne with
  | 0, _ => exact absurd rfl ‹_›
  | 1, _ => rfl
  | k + 2, _ => rfl
theorem pl_s4 {G : GM} {h : List va_E} {b : Nat} {p : Pl} (hp : PlantAt G h b p) (v : Int32) : PlantAt G (h.set b (.inr (6, [.ref (gz G + (b + 1)), .int (p.1 3), .int v, .int (p.1 5), .int (p.1 6), .int (p.1 7), .int (p.1 8), .ref (gz G + (b + 10)), .ref (gz G + (b + 11)), .ref (gz G + (b + 12)), .ref (gz G + (b + 13)), .ref (gz G + (b + 14)), .ref (gz G + (b + 15))]))) b (upS p 4 v) := by
  refine hp.to (i := 0) (by decide) rfl (fun k hk hne => ?_)
  match k, hne with
  | 0, _ => exact absurd rfl ‹_›
  | 1, _ => rfl
  | k + 2, _ => rfl
theorem pl_s5 {G : GM} {h : List va_E} {b : Nat} {p : Pl} (hp : PlantAt G h b p) (v : Int32) : PlantAt G (h.set b (.inr (6, [.ref (gz G + (b + 1)), .int (p.1 3), .int (p.1 4), .int v, .int (p.1 6), .int (p.1 7), .int (p.1 8), .ref (gz G + (b + 10)), .ref (gz G + (b + 11)), .ref (gz G + (b + 12)), .ref (gz G + (b + 13)), .ref (gz G + (b + 14)), .ref (gz G + (b + 15))]))) b (upS p 5 v) := by
  refine hp.to (i := 0) (by decide) rfl (fun k hk hne => ?_)
  match k, hne with
  | 0, _ => exact absurd rfl ‹_›
  | 1, _ => rfl
  | k + 2, _ => rfl
theorem pl_s6 {G : GM} {h : List va_E} {b : Nat} {p : Pl} (hp : PlantAt G h b p) (v : Int32) : PlantAt G (h.set b (.inr (6, [.ref (gz G + (b + 1)), .int (p.1 3), .int (p.1 4), .int (p.1 5), .int v, .int (p.1 7), .int (p.1 8), .ref (gz G + (b + 10)), .ref (gz G + (b + 11)), .ref (gz G + (b + 12)), .ref (gz G + (b + 13)), .ref (gz G + (b + 14)), .ref (gz G + (b + 15))]))) b (upS p 6 v) := by
  refine hp.to (i := 0) (by decide) rfl (fun k hk hne => ?_)
  match k, hne with
  | 0, _ => exact absurd rfl ‹_›
  | 1, _ => rfl
  | k + 2, _ => rfl
theorem pl_s7 {G : GM} {h : List va_E} {b : Nat} {p : Pl} (hp : PlantAt G h b p) (v : Int32) : PlantAt G (h.set b (.inr (6, [.ref (gz G + (b + 1)), .int (p.1 3), .int (p.1 4), .int (p.1 5), .int (p.1 6), .int v, .int (p.1 8), .ref (gz G + (b + 10)), .ref (gz G + (b + 11)), .ref (gz G + (b + 12)), .ref (gz G + (b + 13)), .ref (gz G + (b + 14)), .ref (gz G + (b + 15))]))) b (upS p 7 v) := by
  refine hp.to (i := 0) (by decide) rfl (fun k hk hne => ?_)
  match k, hne with
  | 0, _ => exact absurd rfl ‹_›
  | 1, _ => rfl
  | k + 2, _ => rfl
theorem pl_s8 {G : GM} {h : List va_E} {b : Nat} {p : Pl} (hp : PlantAt G h b p) (v : Int32) : PlantAt G (h.set b (.inr (6, [.ref (gz G + (b + 1)), .int (p.1 3), .int (p.1 4), .int (p.1 5), .int (p.1 6), .int (p.1 7), .int v, .ref (gz G + (b + 10)), .ref (gz G + (b + 11)), .ref (gz G + (b + 12)), .ref (gz G + (b + 13)), .ref (gz G + (b + 14)), .ref (gz G + (b + 15))]))) b (upS p 8 v) := by
  refine hp.to (i := 0) (by decide) rfl (fun k hk hne => ?_)
  match k, hne with
  | 0, _ => exact absurd rfl ‹_›
  | 1, _ => rfl
  | k + 2, _ => rfl
/-! measures of loops -/
def ivU (B x : Int32) (n : Nat) : Prop := B.toInt - x.toInt < (n : Int) ∧ 0 < n
def fuU (B x : Int32) : Nat := (B.toInt - x.toInt).toNat + 1
theorem ivU_0 {B x : Int32} : ¬ ivU B x 0 := fun h => absurd h.2 (by decide)
theorem ivU_i {B x : Int32} : ivU B x (fuU B x) := ⟨by unfold fuU; omega, by unfold fuU; omega⟩
theorem i32_rng (x : Int32) : -2147483648 ≤ x.toInt ∧ x.toInt < 2147483648 := ⟨Int32.le_toInt x, Int32.toInt_lt x⟩
theorem i32_bm {z : Int} (h1 : -2147483648 ≤ z) (h2 : z < 2147483648) : z.bmod (2 ^ 32) = z := by
  rw [Int.bmod_eq_of_le (by omega) (by omega)]
theorem i32_add {x y : Int32} (h1 : -2147483648 ≤ x.toInt + y.toInt) (h2 : x.toInt + y.toInt < 2147483648) : (x + y).toInt = x.toInt + y.toInt := by
  rw [Int32.toInt_add, i32_bm h1 h2]
theorem ivU_s {B x : Int32} {n : Nat} (c : ¬ B ≤ x) (h : ivU B x (n + 1)) : ivU B (x + 1) n := by
  have c1 : x.toInt < B.toInt := by
    have h1 := Int32.lt_iff_toInt_lt.mp (Int32.not_le.mp c)
    exact h1
  have hB := i32_rng B
  have hx := i32_rng x
  have h1 : (1 : Int32).toInt = 1 := rfl
  have e : (x + 1).toInt = x.toInt + 1 := by rw [i32_add (by omega) (by omega), h1]
  obtain ⟨a, b⟩ := h
  exact ⟨by rw [e]; omega, by omega⟩
def ivL (B x : Int32) (n : Nat) : Prop := B.toInt + 1 - x.toInt < (n : Int) ∧ 0 < n
def fuL (B x : Int32) : Nat := (B.toInt + 1 - x.toInt).toNat + 1
theorem ivL_0 {B x : Int32} : ¬ ivL B x 0 := fun h => absurd h.2 (by decide)
theorem ivL_i {B x : Int32} : ivL B x (fuL B x) := ⟨by unfold fuL; omega, by unfold fuL; omega⟩
theorem ivL_s {B x : Int32} {n : Nat} (c : ¬ B < x) (hB : B.toInt < 2147483647) (h : ivL B x (n + 1)) : ivL B (x + 1) n := by
  have c1 : x.toInt ≤ B.toInt := by
    have h1 := Int32.le_iff_toInt_le.mp (Int32.not_lt.mp c)
    exact h1
  have hx := i32_rng x
  have h1 : (1 : Int32).toInt = 1 := rfl
  have e : (x + 1).toInt = x.toInt + 1 := by rw [i32_add (by omega) (by omega), h1]
  obtain ⟨a, b⟩ := h
  exact ⟨by rw [e]; omega, by omega⟩
def ivD (x : Int32) (n : Nat) : Prop := x.toInt + 1 < (n : Int) ∧ 0 < n
def fuD (x : Int32) : Nat := (x.toInt + 1).toNat + 1
theorem ivD_0 {x : Int32} : ¬ ivD x 0 := fun h => absurd h.2 (by decide)
theorem ivD_i {x : Int32} : ivD x (fuD x) := ⟨by unfold fuD; omega, by unfold fuD; omega⟩
theorem ivD_s {x s : Int32} {n : Nat} (c : ¬ x < 0) (hs : -1000000 ≤ s.toInt ∧ s.toInt < 0) (h : ivD x (n + 1)) : ivD (x + s) n := by
  have c1 : 0 ≤ x.toInt := by
    have h1 := Int32.le_iff_toInt_le.mp (Int32.not_lt.mp c)
    exact h1
  have hx := i32_rng x
  have e : (x + s).toInt = x.toInt + s.toInt := i32_add (by omega) (by omega)
  obtain ⟨a, b⟩ := h
  exact ⟨by rw [e]; omega, by omega⟩
theorem nz_of {y : Int32} (c : ¬ y ≤ 0) : ¬ y = 0 := fun e => c (by rw [e]; decide)
def iushr (x y : Int32) : Int32 := (x.toUInt32 >>> (y.toUInt32 &&& Int32.toUInt32 31)).toInt32
def ichr (x : Int32) : Int32 := (x.toUInt32 % 65536).toInt32
def lshl (x : Int64) (y : Int32) : Int64 := x <<< (y.toInt64 &&& 63)
def lshr (x : Int64) (y : Int32) : Int64 := x >>> (y.toInt64 &&& 63)
theorem kXX6_1 : Cond.methodLink RX6 1 objectInit ∈ lw_g := (lw_k1 24 (by decide +kernel) (by decide +kernel))
theorem kXX6_186 : Cond.methodLink RX6 186 Lib.Math.abs.name ∈ lw_g := (lw_k4 67 (by decide +kernel) (by decide +kernel))
theorem kXX6_203 : Cond.methodLink RX6 203 Lib.Math.min.name ∈ lw_g := (lw_k3 57 (by decide +kernel) (by decide +kernel))
theorem kXX6_378 : Cond.methodLink RX6 378 arraycopyName ∈ lw_g := (lw_k3 58 (by decide +kernel) (by decide +kernel))
theorem kXX0_3 : Cond.methodLink RX0 3 objectInit ∈ lw_g := (lw_k1 44 (by decide +kernel) (by decide +kernel))
theorem kXX1_3 : Cond.methodLink RX1 3 objectInit ∈ lw_g := (lw_k2 12 (by decide +kernel) (by decide +kernel))
theorem kXX2_3 : Cond.methodLink RX2 3 objectInit ∈ lw_g := (lw_k2 32 (by decide +kernel) (by decide +kernel))
theorem kXX2_87 : Cond.methodLink RX2 87 Lib.Math.max.name ∈ lw_g := (lw_k3 235 (by decide +kernel) (by decide +kernel))
theorem kXX3_3 : Cond.methodLink RX3 3 objectInit ∈ lw_g := (lw_k2 52 (by decide +kernel) (by decide +kernel))
theorem kXX4_3 : Cond.methodLink RX4 3 objectInit ∈ lw_g := (lw_k1 32 (by decide +kernel) (by decide +kernel))
theorem kXX4_241 : Cond.methodLink RX4 241 Lib.Math.min.name ∈ lw_g := (lw_k2 122 (by decide +kernel) (by decide +kernel))
theorem kXX5_3 : Cond.methodLink RX5 3 objectInit ∈ lw_g := (lw_k1 38 (by decide +kernel) (by decide +kernel))
theorem kXX5_86 : Cond.methodLink RX5 86 Lib.Math.max.name ∈ lw_g := (lw_k3 130 (by decide +kernel) (by decide +kernel))
theorem kXX5_119 : Cond.methodLink RX5 119 Lib.Math.abs.name ∈ lw_g := (lw_k3 174 (by decide +kernel) (by decide +kernel))
theorem kXJ5_3 : Cond.methodLink RJ5 3 objectInit ∈ lw_g := (lw_k1 220 (by decide +kernel) (by decide +kernel))
theorem kXJ5_138 : Cond.methodLink RJ5 138 Lib.Math.min.name ∈ lw_g := (lw_k4 86 (by decide +kernel) (by decide +kernel))
theorem kXJ0_212 : Cond.methodLink RJ0 212 arraycopyName ∈ lw_g := (lw_k4 218 (by decide +kernel) (by decide +kernel))
theorem kXJ7_150 : Cond.methodLink RJ7 150 arraycopyName ∈ lw_g := (lw_k4 164 (by decide +kernel) (by decide +kernel))
theorem kXJ7_304 : Cond.methodLink RJ7 304 Lib.Math.min.name ∈ lw_g := (lw_k4 163 (by decide +kernel) (by decide +kernel))
theorem kXJ8_194 : Cond.methodLink RJ8 194 Lib.Math.max.name ∈ lw_g := (lw_k4 147 (by decide +kernel) (by decide +kernel))
