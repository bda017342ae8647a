/-! The start, out of the statement's premises. -/
def lw_nar : List Cond := flatC (Jvm.Cond.and given_1 narrow_1)
theorem tb_in {w : Cond} (i : Nat) (h : tables_1[i]? = some w) : w ∈ lw_tbl := List.mem_append_right _ (List.mem_of_getElem? h)
theorem ns_of {args : Array Value} {s : State} {A : Nat → Prop} {own tx : String} {k : Nat} {L : List Int32} (b : Nat) (hs : ∀ w ∈ lw_nar, w.before args s = true) (hL : L.length < 2 ^ 31) (m0 : lw_nar[b]? = some (.exactly (.string own k) "java/lang/String")) (m1 : lw_nar[b + 1]? = some (.eq (.field (.string own k) "java/lang/String" "coder" "B") (.int 0))) (m2 : lw_nar[b + 2]? = some (.arrayOf (.field (.string own k) "java/lang/String" "value" "[B") .byte)) (m3 : lw_nar[b + 3]? = some (.eq (.length (.field (.string own k) "java/lang/String" "value" "[B")) (.int (Int32.ofNat L.length)))) (m4 : ∀ i, i < L.length → lw_nar[b + 4 + i]? = some (.eq (.elem (.field (.string own k) "java/lang/String" "value" "[B") (.int (Int32.ofNat i))) (.int (L.getD i 0)))) (ht : (Cond.stringRef own k tx).before args s = true) (hA : ∀ a : Nat, a < s.heap.size → ¬ A a) : ∃ q : Nat × Nat, vk_R own k tx q.1 s ∧ va_O "java/lang/String" q.1 A s s.heap ∧ va_OF "java/lang/String" "coder" "B" (.int 0) q.1 A s s.heap ∧ va_OF "java/lang/String" "value" "[B" (.ref q.2) q.1 A s s.heap ∧ va_T .byte q.2 L.length (fun i => .int (L.getD i 0)) A s s.heap := by
  obtain ⟨a, c, cA, kA, q1, q2, q3, q4, q5, q6, -⟩ := Cond.exactly_spec (args := args) (first := s) (o := none) (s := s) (idx := []) (t := .string own k) (cls := "java/lang/String") (hs _ (List.mem_of_getElem? m0))
  obtain ⟨t, ht2, hT⟩ := va_Tof (f := fun j => .int (L.getD j 0)) (A := A) hL (hs _ (List.mem_of_getElem? m2)) (va_eqt (hs _ (List.mem_of_getElem? m3))) (fun j hj => va_eqt (hs _ (List.mem_of_getElem? (m4 j hj)))) hA
  exact ⟨(a, t), vk_R.of ht q1, ⟨cA, q3, q5, by rw [q6]; exact q2, hA a (Array.getElem?_eq_some_iff.mp q3).1⟩, vk_OFof q1 (va_eqt (hs _ (List.mem_of_getElem? m1))) hA, vk_OFof q1 ht2 hA, hT⟩
theorem ms_0 {b : Nat} {s : State} {A : Nat → Prop} (hs : ∀ w ∈ lw_nar, w.before #[Value.ref b] s = true) (hts : ∀ w ∈ lw_tbl, w.before #[Value.ref b] s = true) (hA : ∀ a : Nat, a < s.heap.size → ¬ A a) : ∃ q : Nat × Nat, vk_R sq0.1 sq0.2.1 sq0.2.2.1 q.1 s ∧ va_O "java/lang/String" q.1 A s s.heap ∧ va_OF "java/lang/String" "coder" "B" (.int 0) q.1 A s s.heap ∧ va_OF "java/lang/String" "value" "[B" (.ref q.2) q.1 A s s.heap ∧ va_T .byte q.2 sq0.2.2.2.length (fun i => .int (sq0.2.2.2.getD i 0)) A s s.heap := ns_of 235 hs (by decide) (by decide +kernel) (by decide +kernel) (by decide +kernel) (by decide +kernel) (by decide +kernel) (hts _ (tb_in 365 (by decide +kernel))) hA
theorem ms_1 {b : Nat} {s : State} {A : Nat → Prop} (hs : ∀ w ∈ lw_nar, w.before #[Value.ref b] s = true) (hts : ∀ w ∈ lw_tbl, w.before #[Value.ref b] s = true) (hA : ∀ a : Nat, a < s.heap.size → ¬ A a) : ∃ q : Nat × Nat, vk_R sq1.1 sq1.2.1 sq1.2.2.1 q.1 s ∧ va_O "java/lang/String" q.1 A s s.heap ∧ va_OF "java/lang/String" "coder" "B" (.int 0) q.1 A s s.heap ∧ va_OF "java/lang/String" "value" "[B" (.ref q.2) q.1 A s s.heap ∧ va_T .byte q.2 sq1.2.2.2.length (fun i => .int (sq1.2.2.2.getD i 0)) A s s.heap := ns_of 248 hs (by decide) (by decide +kernel) (by decide +kernel) (by decide +kernel) (by decide +kernel) (by decide +kernel) (hts _ (tb_in 440 (by decide +kernel))) hA
theorem ms_2 {b : Nat} {s : State} {A : Nat → Prop} (hs : ∀ w ∈ lw_nar, w.before #[Value.ref b] s = true) (hts : ∀ w ∈ lw_tbl, w.before #[Value.ref b] s = true) (hA : ∀ a : Nat, a < s.heap.size → ¬ A a) : ∃ q : Nat × Nat, vk_R sq2.1 sq2.2.1 sq2.2.2.1 q.1 s ∧ va_O "java/lang/String" q.1 A s s.heap ∧ va_OF "java/lang/String" "coder" "B" (.int 0) q.1 A s s.heap ∧ va_OF "java/lang/String" "value" "[B" (.ref q.2) q.1 A s s.heap ∧ va_T .byte q.2 sq2.2.2.2.length (fun i => .int (sq2.2.2.2.getD i 0)) A s s.heap := ns_of 257 hs (by decide) (by decide +kernel) (by decide +kernel) (by decide +kernel) (by decide +kernel) (by decide +kernel) (hts _ (tb_in 445 (by decide +kernel))) hA
theorem ms_3 {b : Nat} {s : State} {A : Nat → Prop} (hs : ∀ w ∈ lw_nar, w.before #[Value.ref b] s = true) (hts : ∀ w ∈ lw_tbl, w.before #[Value.ref b] s = true) (hA : ∀ a : Nat, a < s.heap.size → ¬ A a) : ∃ q : Nat × Nat, vk_R sq3.1 sq3.2.1 sq3.2.2.1 q.1 s ∧ va_O "java/lang/String" q.1 A s s.heap ∧ va_OF "java/lang/String" "coder" "B" (.int 0) q.1 A s s.heap ∧ va_OF "java/lang/String" "value" "[B" (.ref q.2) q.1 A s s.heap ∧ va_T .byte q.2 sq3.2.2.2.length (fun i => .int (sq3.2.2.2.getD i 0)) A s s.heap := ns_of 264 hs (by decide) (by decide +kernel) (by decide +kernel) (by decide +kernel) (by decide +kernel) (by decide +kernel) (hts _ (tb_in 450 (by decide +kernel))) hA
theorem ms_4 {b : Nat} {s : State} {A : Nat → Prop} (hs : ∀ w ∈ lw_nar, w.before #[Value.ref b] s = true) (hts : ∀ w ∈ lw_tbl, w.before #[Value.ref b] s = true) (hA : ∀ a : Nat, a < s.heap.size → ¬ A a) : ∃ q : Nat × Nat, vk_R sq4.1 sq4.2.1 sq4.2.2.1 q.1 s ∧ va_O "java/lang/String" q.1 A s s.heap ∧ va_OF "java/lang/String" "coder" "B" (.int 0) q.1 A s s.heap ∧ va_OF "java/lang/String" "value" "[B" (.ref q.2) q.1 A s s.heap ∧ va_T .byte q.2 sq4.2.2.2.length (fun i => .int (sq4.2.2.2.getD i 0)) A s s.heap := ns_of 272 hs (by decide) (by decide +kernel) (by decide +kernel) (by decide +kernel) (by decide +kernel) (by decide +kernel) (hts _ (tb_in 463 (by decide +kernel))) hA
theorem ms_5 {b : Nat} {s : State} {A : Nat → Prop} (hs : ∀ w ∈ lw_nar, w.before #[Value.ref b] s = true) (hts : ∀ w ∈ lw_tbl, w.before #[Value.ref b] s = true) (hA : ∀ a : Nat, a < s.heap.size → ¬ A a) : ∃ q : Nat × Nat, vk_R sq5.1 sq5.2.1 sq5.2.2.1 q.1 s ∧ va_O "java/lang/String" q.1 A s s.heap ∧ va_OF "java/lang/String" "coder" "B" (.int 0) q.1 A s s.heap ∧ va_OF "java/lang/String" "value" "[B" (.ref q.2) q.1 A s s.heap ∧ va_T .byte q.2 sq5.2.2.2.length (fun i => .int (sq5.2.2.2.getD i 0)) A s s.heap := ns_of 281 hs (by decide) (by decide +kernel) (by decide +kernel) (by decide +kernel) (by decide +kernel) (by decide +kernel) (hts _ (tb_in 464 (by decide +kernel))) hA
theorem ms_6 {b : Nat} {s : State} {A : Nat → Prop} (hs : ∀ w ∈ lw_nar, w.before #[Value.ref b] s = true) (hts : ∀ w ∈ lw_tbl, w.before #[Value.ref b] s = true) (hA : ∀ a : Nat, a < s.heap.size → ¬ A a) : ∃ q : Nat × Nat, vk_R sq6.1 sq6.2.1 sq6.2.2.1 q.1 s ∧ va_O "java/lang/String" q.1 A s s.heap ∧ va_OF "java/lang/String" "coder" "B" (.int 0) q.1 A s s.heap ∧ va_OF "java/lang/String" "value" "[B" (.ref q.2) q.1 A s s.heap ∧ va_T .byte q.2 sq6.2.2.2.length (fun i => .int (sq6.2.2.2.getD i 0)) A s s.heap := ns_of 289 hs (by decide) (by decide +kernel) (by decide +kernel) (by decide +kernel) (by decide +kernel) (by decide +kernel) (hts _ (tb_in 465 (by decide +kernel))) hA
theorem ms_7 {b : Nat} {s : State} {A : Nat → Prop} (hs : ∀ w ∈ lw_nar, w.before #[Value.ref b] s = true) (hts : ∀ w ∈ lw_tbl, w.before #[Value.ref b] s = true) (hA : ∀ a : Nat, a < s.heap.size → ¬ A a) : ∃ q : Nat × Nat, vk_R sq7.1 sq7.2.1 sq7.2.2.1 q.1 s ∧ va_O "java/lang/String" q.1 A s s.heap ∧ va_OF "java/lang/String" "coder" "B" (.int 0) q.1 A s s.heap ∧ va_OF "java/lang/String" "value" "[B" (.ref q.2) q.1 A s s.heap ∧ va_T .byte q.2 sq7.2.2.2.length (fun i => .int (sq7.2.2.2.getD i 0)) A s s.heap := ns_of 298 hs (by decide) (by decide +kernel) (by decide +kernel) (by decide +kernel) (by decide +kernel) (by decide +kernel) (hts _ (tb_in 466 (by decide +kernel))) hA
theorem ms_8 {b : Nat} {s : State} {A : Nat → Prop} (hs : ∀ w ∈ lw_nar, w.before #[Value.ref b] s = true) (hts : ∀ w ∈ lw_tbl, w.before #[Value.ref b] s = true) (hA : ∀ a : Nat, a < s.heap.size → ¬ A a) : ∃ q : Nat × Nat, vk_R sq8.1 sq8.2.1 sq8.2.2.1 q.1 s ∧ va_O "java/lang/String" q.1 A s s.heap ∧ va_OF "java/lang/String" "coder" "B" (.int 0) q.1 A s s.heap ∧ va_OF "java/lang/String" "value" "[B" (.ref q.2) q.1 A s s.heap ∧ va_T .byte q.2 sq8.2.2.2.length (fun i => .int (sq8.2.2.2.getD i 0)) A s s.heap := ns_of 307 hs (by decide) (by decide +kernel) (by decide +kernel) (by decide +kernel) (by decide +kernel) (by decide +kernel) (hts _ (tb_in 467 (by decide +kernel))) hA
theorem ms_9 {b : Nat} {s : State} {A : Nat → Prop} (hs : ∀ w ∈ lw_nar, w.before #[Value.ref b] s = true) (hts : ∀ w ∈ lw_tbl, w.before #[Value.ref b] s = true) (hA : ∀ a : Nat, a < s.heap.size → ¬ A a) : ∃ q : Nat × Nat, vk_R sq9.1 sq9.2.1 sq9.2.2.1 q.1 s ∧ va_O "java/lang/String" q.1 A s s.heap ∧ va_OF "java/lang/String" "coder" "B" (.int 0) q.1 A s s.heap ∧ va_OF "java/lang/String" "value" "[B" (.ref q.2) q.1 A s s.heap ∧ va_T .byte q.2 sq9.2.2.2.length (fun i => .int (sq9.2.2.2.getD i 0)) A s s.heap := ns_of 317 hs (by decide) (by decide +kernel) (by decide +kernel) (by decide +kernel) (by decide +kernel) (by decide +kernel) (hts _ (tb_in 468 (by decide +kernel))) hA
theorem ms_10 {b : Nat} {s : State} {A : Nat → Prop} (hs : ∀ w ∈ lw_nar, w.before #[Value.ref b] s = true) (hts : ∀ w ∈ lw_tbl, w.before #[Value.ref b] s = true) (hA : ∀ a : Nat, a < s.heap.size → ¬ A a) : ∃ q : Nat × Nat, vk_R sq10.1 sq10.2.1 sq10.2.2.1 q.1 s ∧ va_O "java/lang/String" q.1 A s s.heap ∧ va_OF "java/lang/String" "coder" "B" (.int 0) q.1 A s s.heap ∧ va_OF "java/lang/String" "value" "[B" (.ref q.2) q.1 A s s.heap ∧ va_T .byte q.2 sq10.2.2.2.length (fun i => .int (sq10.2.2.2.getD i 0)) A s s.heap := ns_of 325 hs (by decide) (by decide +kernel) (by decide +kernel) (by decide +kernel) (by decide +kernel) (by decide +kernel) (hts _ (tb_in 469 (by decide +kernel))) hA
theorem ms_11 {b : Nat} {s : State} {A : Nat → Prop} (hs : ∀ w ∈ lw_nar, w.before #[Value.ref b] s = true) (hts : ∀ w ∈ lw_tbl, w.before #[Value.ref b] s = true) (hA : ∀ a : Nat, a < s.heap.size → ¬ A a) : ∃ q : Nat × Nat, vk_R sq11.1 sq11.2.1 sq11.2.2.1 q.1 s ∧ va_O "java/lang/String" q.1 A s s.heap ∧ va_OF "java/lang/String" "coder" "B" (.int 0) q.1 A s s.heap ∧ va_OF "java/lang/String" "value" "[B" (.ref q.2) q.1 A s s.heap ∧ va_T .byte q.2 sq11.2.2.2.length (fun i => .int (sq11.2.2.2.getD i 0)) A s s.heap := ns_of 455 hs (by decide) (by decide +kernel) (by decide +kernel) (by decide +kernel) (by decide +kernel) (by decide +kernel) (hts _ (tb_in 1127 (by decide +kernel))) hA
theorem ms_12 {b : Nat} {s : State} {A : Nat → Prop} (hs : ∀ w ∈ lw_nar, w.before #[Value.ref b] s = true) (hts : ∀ w ∈ lw_tbl, w.before #[Value.ref b] s = true) (hA : ∀ a : Nat, a < s.heap.size → ¬ A a) : ∃ q : Nat × Nat, vk_R sq12.1 sq12.2.1 sq12.2.2.1 q.1 s ∧ va_O "java/lang/String" q.1 A s s.heap ∧ va_OF "java/lang/String" "coder" "B" (.int 0) q.1 A s s.heap ∧ va_OF "java/lang/String" "value" "[B" (.ref q.2) q.1 A s s.heap ∧ va_T .byte q.2 sq12.2.2.2.length (fun i => .int (sq12.2.2.2.getD i 0)) A s s.heap := ns_of 469 hs (by decide) (by decide +kernel) (by decide +kernel) (by decide +kernel) (by decide +kernel) (by decide +kernel) (hts _ (tb_in 1131 (by decide +kernel))) hA
theorem ms_13 {b : Nat} {s : State} {A : Nat → Prop} (hs : ∀ w ∈ lw_nar, w.before #[Value.ref b] s = true) (hts : ∀ w ∈ lw_tbl, w.before #[Value.ref b] s = true) (hA : ∀ a : Nat, a < s.heap.size → ¬ A a) : ∃ q : Nat × Nat, vk_R sq13.1 sq13.2.1 sq13.2.2.1 q.1 s ∧ va_O "java/lang/String" q.1 A s s.heap ∧ va_OF "java/lang/String" "coder" "B" (.int 0) q.1 A s s.heap ∧ va_OF "java/lang/String" "value" "[B" (.ref q.2) q.1 A s s.heap ∧ va_T .byte q.2 sq13.2.2.2.length (fun i => .int (sq13.2.2.2.getD i 0)) A s s.heap := ns_of 479 hs (by decide) (by decide +kernel) (by decide +kernel) (by decide +kernel) (by decide +kernel) (by decide +kernel) (hts _ (tb_in 1132 (by decide +kernel))) hA
theorem ms_14 {b : Nat} {s : State} {A : Nat → Prop} (hs : ∀ w ∈ lw_nar, w.before #[Value.ref b] s = true) (hts : ∀ w ∈ lw_tbl, w.before #[Value.ref b] s = true) (hA : ∀ a : Nat, a < s.heap.size → ¬ A a) : ∃ q : Nat × Nat, vk_R sq14.1 sq14.2.1 sq14.2.2.1 q.1 s ∧ va_O "java/lang/String" q.1 A s s.heap ∧ va_OF "java/lang/String" "coder" "B" (.int 0) q.1 A s s.heap ∧ va_OF "java/lang/String" "value" "[B" (.ref q.2) q.1 A s s.heap ∧ va_T .byte q.2 sq14.2.2.2.length (fun i => .int (sq14.2.2.2.getD i 0)) A s s.heap := ns_of 487 hs (by decide) (by decide +kernel) (by decide +kernel) (by decide +kernel) (by decide +kernel) (by decide +kernel) (hts _ (tb_in 1137 (by decide +kernel))) hA
theorem ms_15 {b : Nat} {s : State} {A : Nat → Prop} (hs : ∀ w ∈ lw_nar, w.before #[Value.ref b] s = true) (hts : ∀ w ∈ lw_tbl, w.before #[Value.ref b] s = true) (hA : ∀ a : Nat, a < s.heap.size → ¬ A a) : ∃ q : Nat × Nat, vk_R sq15.1 sq15.2.1 sq15.2.2.1 q.1 s ∧ va_O "java/lang/String" q.1 A s s.heap ∧ va_OF "java/lang/String" "coder" "B" (.int 0) q.1 A s s.heap ∧ va_OF "java/lang/String" "value" "[B" (.ref q.2) q.1 A s s.heap ∧ va_T .byte q.2 sq15.2.2.2.length (fun i => .int (sq15.2.2.2.getD i 0)) A s s.heap := ns_of 496 hs (by decide) (by decide +kernel) (by decide +kernel) (by decide +kernel) (by decide +kernel) (by decide +kernel) (hts _ (tb_in 1142 (by decide +kernel))) hA
theorem ms_16 {b : Nat} {s : State} {A : Nat → Prop} (hs : ∀ w ∈ lw_nar, w.before #[Value.ref b] s = true) (hts : ∀ w ∈ lw_tbl, w.before #[Value.ref b] s = true) (hA : ∀ a : Nat, a < s.heap.size → ¬ A a) : ∃ q : Nat × Nat, vk_R sq16.1 sq16.2.1 sq16.2.2.1 q.1 s ∧ va_O "java/lang/String" q.1 A s s.heap ∧ va_OF "java/lang/String" "coder" "B" (.int 0) q.1 A s s.heap ∧ va_OF "java/lang/String" "value" "[B" (.ref q.2) q.1 A s s.heap ∧ va_T .byte q.2 sq16.2.2.2.length (fun i => .int (sq16.2.2.2.getD i 0)) A s s.heap := ns_of 506 hs (by decide) (by decide +kernel) (by decide +kernel) (by decide +kernel) (by decide +kernel) (by decide +kernel) (hts _ (tb_in 1143 (by decide +kernel))) hA
theorem ms_17 {b : Nat} {s : State} {A : Nat → Prop} (hs : ∀ w ∈ lw_nar, w.before #[Value.ref b] s = true) (hts : ∀ w ∈ lw_tbl, w.before #[Value.ref b] s = true) (hA : ∀ a : Nat, a < s.heap.size → ¬ A a) : ∃ q : Nat × Nat, vk_R sq17.1 sq17.2.1 sq17.2.2.1 q.1 s ∧ va_O "java/lang/String" q.1 A s s.heap ∧ va_OF "java/lang/String" "coder" "B" (.int 0) q.1 A s s.heap ∧ va_OF "java/lang/String" "value" "[B" (.ref q.2) q.1 A s s.heap ∧ va_T .byte q.2 sq17.2.2.2.length (fun i => .int (sq17.2.2.2.getD i 0)) A s s.heap := ns_of 515 hs (by decide) (by decide +kernel) (by decide +kernel) (by decide +kernel) (by decide +kernel) (by decide +kernel) (hts _ (tb_in 1144 (by decide +kernel))) hA
theorem ms_18 {b : Nat} {s : State} {A : Nat → Prop} (hs : ∀ w ∈ lw_nar, w.before #[Value.ref b] s = true) (hts : ∀ w ∈ lw_tbl, w.before #[Value.ref b] s = true) (hA : ∀ a : Nat, a < s.heap.size → ¬ A a) : ∃ q : Nat × Nat, vk_R sq18.1 sq18.2.1 sq18.2.2.1 q.1 s ∧ va_O "java/lang/String" q.1 A s s.heap ∧ va_OF "java/lang/String" "coder" "B" (.int 0) q.1 A s s.heap ∧ va_OF "java/lang/String" "value" "[B" (.ref q.2) q.1 A s s.heap ∧ va_T .byte q.2 sq18.2.2.2.length (fun i => .int (sq18.2.2.2.getD i 0)) A s s.heap := ns_of 525 hs (by decide) (by decide +kernel) (by decide +kernel) (by decide +kernel) (by decide +kernel) (by decide +kernel) (hts _ (tb_in 1148 (by decide +kernel))) hA
theorem ms_19 {b : Nat} {s : State} {A : Nat → Prop} (hs : ∀ w ∈ lw_nar, w.before #[Value.ref b] s = true) (hts : ∀ w ∈ lw_tbl, w.before #[Value.ref b] s = true) (hA : ∀ a : Nat, a < s.heap.size → ¬ A a) : ∃ q : Nat × Nat, vk_R sq19.1 sq19.2.1 sq19.2.2.1 q.1 s ∧ va_O "java/lang/String" q.1 A s s.heap ∧ va_OF "java/lang/String" "coder" "B" (.int 0) q.1 A s s.heap ∧ va_OF "java/lang/String" "value" "[B" (.ref q.2) q.1 A s s.heap ∧ va_T .byte q.2 sq19.2.2.2.length (fun i => .int (sq19.2.2.2.getD i 0)) A s s.heap := ns_of 535 hs (by decide) (by decide +kernel) (by decide +kernel) (by decide +kernel) (by decide +kernel) (by decide +kernel) (hts _ (tb_in 1149 (by decide +kernel))) hA
theorem ms_20 {b : Nat} {s : State} {A : Nat → Prop} (hs : ∀ w ∈ lw_nar, w.before #[Value.ref b] s = true) (hts : ∀ w ∈ lw_tbl, w.before #[Value.ref b] s = true) (hA : ∀ a : Nat, a < s.heap.size → ¬ A a) : ∃ q : Nat × Nat, vk_R sq20.1 sq20.2.1 sq20.2.2.1 q.1 s ∧ va_O "java/lang/String" q.1 A s s.heap ∧ va_OF "java/lang/String" "coder" "B" (.int 0) q.1 A s s.heap ∧ va_OF "java/lang/String" "value" "[B" (.ref q.2) q.1 A s s.heap ∧ va_T .byte q.2 sq20.2.2.2.length (fun i => .int (sq20.2.2.2.getD i 0)) A s s.heap := ns_of 546 hs (by decide) (by decide +kernel) (by decide +kernel) (by decide +kernel) (by decide +kernel) (by decide +kernel) (hts _ (tb_in 1150 (by decide +kernel))) hA
theorem ms_21 {b : Nat} {s : State} {A : Nat → Prop} (hs : ∀ w ∈ lw_nar, w.before #[Value.ref b] s = true) (hts : ∀ w ∈ lw_tbl, w.before #[Value.ref b] s = true) (hA : ∀ a : Nat, a < s.heap.size → ¬ A a) : ∃ q : Nat × Nat, vk_R sq21.1 sq21.2.1 sq21.2.2.1 q.1 s ∧ va_O "java/lang/String" q.1 A s s.heap ∧ va_OF "java/lang/String" "coder" "B" (.int 0) q.1 A s s.heap ∧ va_OF "java/lang/String" "value" "[B" (.ref q.2) q.1 A s s.heap ∧ va_T .byte q.2 sq21.2.2.2.length (fun i => .int (sq21.2.2.2.getD i 0)) A s s.heap := ns_of 334 hs (by decide) (by decide +kernel) (by decide +kernel) (by decide +kernel) (by decide +kernel) (by decide +kernel) (hts _ (tb_in 844 (by decide +kernel))) hA
theorem ms_22 {b : Nat} {s : State} {A : Nat → Prop} (hs : ∀ w ∈ lw_nar, w.before #[Value.ref b] s = true) (hts : ∀ w ∈ lw_tbl, w.before #[Value.ref b] s = true) (hA : ∀ a : Nat, a < s.heap.size → ¬ A a) : ∃ q : Nat × Nat, vk_R sq22.1 sq22.2.1 sq22.2.2.1 q.1 s ∧ va_O "java/lang/String" q.1 A s s.heap ∧ va_OF "java/lang/String" "coder" "B" (.int 0) q.1 A s s.heap ∧ va_OF "java/lang/String" "value" "[B" (.ref q.2) q.1 A s s.heap ∧ va_T .byte q.2 sq22.2.2.2.length (fun i => .int (sq22.2.2.2.getD i 0)) A s s.heap := ns_of 348 hs (by decide) (by decide +kernel) (by decide +kernel) (by decide +kernel) (by decide +kernel) (by decide +kernel) (hts _ (tb_in 965 (by decide +kernel))) hA
theorem ms_23 {b : Nat} {s : State} {A : Nat → Prop} (hs : ∀ w ∈ lw_nar, w.before #[Value.ref b] s = true) (hts : ∀ w ∈ lw_tbl, w.before #[Value.ref b] s = true) (hA : ∀ a : Nat, a < s.heap.size → ¬ A a) : ∃ q : Nat × Nat, vk_R sq23.1 sq23.2.1 sq23.2.2.1 q.1 s ∧ va_O "java/lang/String" q.1 A s s.heap ∧ va_OF "java/lang/String" "coder" "B" (.int 0) q.1 A s s.heap ∧ va_OF "java/lang/String" "value" "[B" (.ref q.2) q.1 A s s.heap ∧ va_T .byte q.2 sq23.2.2.2.length (fun i => .int (sq23.2.2.2.getD i 0)) A s s.heap := ns_of 353 hs (by decide) (by decide +kernel) (by decide +kernel) (by decide +kernel) (by decide +kernel) (by decide +kernel) (hts _ (tb_in 966 (by decide +kernel))) hA
theorem ms_24 {b : Nat} {s : State} {A : Nat → Prop} (hs : ∀ w ∈ lw_nar, w.before #[Value.ref b] s = true) (hts : ∀ w ∈ lw_tbl, w.before #[Value.ref b] s = true) (hA : ∀ a : Nat, a < s.heap.size → ¬ A a) : ∃ q : Nat × Nat, vk_R sq24.1 sq24.2.1 sq24.2.2.1 q.1 s ∧ va_O "java/lang/String" q.1 A s s.heap ∧ va_OF "java/lang/String" "coder" "B" (.int 0) q.1 A s s.heap ∧ va_OF "java/lang/String" "value" "[B" (.ref q.2) q.1 A s s.heap ∧ va_T .byte q.2 sq24.2.2.2.length (fun i => .int (sq24.2.2.2.getD i 0)) A s s.heap := ns_of 364 hs (by decide) (by decide +kernel) (by decide +kernel) (by decide +kernel) (by decide +kernel) (by decide +kernel) (hts _ (tb_in 970 (by decide +kernel))) hA
theorem ms_25 {b : Nat} {s : State} {A : Nat → Prop} (hs : ∀ w ∈ lw_nar, w.before #[Value.ref b] s = true) (hts : ∀ w ∈ lw_tbl, w.before #[Value.ref b] s = true) (hA : ∀ a : Nat, a < s.heap.size → ¬ A a) : ∃ q : Nat × Nat, vk_R sq25.1 sq25.2.1 sq25.2.2.1 q.1 s ∧ va_O "java/lang/String" q.1 A s s.heap ∧ va_OF "java/lang/String" "coder" "B" (.int 0) q.1 A s s.heap ∧ va_OF "java/lang/String" "value" "[B" (.ref q.2) q.1 A s s.heap ∧ va_T .byte q.2 sq25.2.2.2.length (fun i => .int (sq25.2.2.2.getD i 0)) A s s.heap := ns_of 373 hs (by decide) (by decide +kernel) (by decide +kernel) (by decide +kernel) (by decide +kernel) (by decide +kernel) (hts _ (tb_in 971 (by decide +kernel))) hA
theorem ms_26 {b : Nat} {s : State} {A : Nat → Prop} (hs : ∀ w ∈ lw_nar, w.before #[Value.ref b] s = true) (hts : ∀ w ∈ lw_tbl, w.before #[Value.ref b] s = true) (hA : ∀ a : Nat, a < s.heap.size → ¬ A a) : ∃ q : Nat × Nat, vk_R sq26.1 sq26.2.1 sq26.2.2.1 q.1 s ∧ va_O "java/lang/String" q.1 A s s.heap ∧ va_OF "java/lang/String" "coder" "B" (.int 0) q.1 A s s.heap ∧ va_OF "java/lang/String" "value" "[B" (.ref q.2) q.1 A s s.heap ∧ va_T .byte q.2 sq26.2.2.2.length (fun i => .int (sq26.2.2.2.getD i 0)) A s s.heap := ns_of 378 hs (by decide) (by decide +kernel) (by decide +kernel) (by decide +kernel) (by decide +kernel) (by decide +kernel) (hts _ (tb_in 1036 (by decide +kernel))) hA
theorem ms_27 {b : Nat} {s : State} {A : Nat → Prop} (hs : ∀ w ∈ lw_nar, w.before #[Value.ref b] s = true) (hts : ∀ w ∈ lw_tbl, w.before #[Value.ref b] s = true) (hA : ∀ a : Nat, a < s.heap.size → ¬ A a) : ∃ q : Nat × Nat, vk_R sq27.1 sq27.2.1 sq27.2.2.1 q.1 s ∧ va_O "java/lang/String" q.1 A s s.heap ∧ va_OF "java/lang/String" "coder" "B" (.int 0) q.1 A s s.heap ∧ va_OF "java/lang/String" "value" "[B" (.ref q.2) q.1 A s s.heap ∧ va_T .byte q.2 sq27.2.2.2.length (fun i => .int (sq27.2.2.2.getD i 0)) A s s.heap := ns_of 388 hs (by decide) (by decide +kernel) (by decide +kernel) (by decide +kernel) (by decide +kernel) (by decide +kernel) (hts _ (tb_in 1056 (by decide +kernel))) hA
theorem ms_28 {b : Nat} {s : State} {A : Nat → Prop} (hs : ∀ w ∈ lw_nar, w.before #[Value.ref b] s = true) (hts : ∀ w ∈ lw_tbl, w.before #[Value.ref b] s = true) (hA : ∀ a : Nat, a < s.heap.size → ¬ A a) : ∃ q : Nat × Nat, vk_R sq28.1 sq28.2.1 sq28.2.2.1 q.1 s ∧ va_O "java/lang/String" q.1 A s s.heap ∧ va_OF "java/lang/String" "coder" "B" (.int 0) q.1 A s s.heap ∧ va_OF "java/lang/String" "value" "[B" (.ref q.2) q.1 A s s.heap ∧ va_T .byte q.2 sq28.2.2.2.length (fun i => .int (sq28.2.2.2.getD i 0)) A s s.heap := ns_of 399 hs (by decide) (by decide +kernel) (by decide +kernel) (by decide +kernel) (by decide +kernel) (by decide +kernel) (hts _ (tb_in 1060 (by decide +kernel))) hA
theorem ms_29 {b : Nat} {s : State} {A : Nat → Prop} (hs : ∀ w ∈ lw_nar, w.before #[Value.ref b] s = true) (hts : ∀ w ∈ lw_tbl, w.before #[Value.ref b] s = true) (hA : ∀ a : Nat, a < s.heap.size → ¬ A a) : ∃ q : Nat × Nat, vk_R sq29.1 sq29.2.1 sq29.2.2.1 q.1 s ∧ va_O "java/lang/String" q.1 A s s.heap ∧ va_OF "java/lang/String" "coder" "B" (.int 0) q.1 A s s.heap ∧ va_OF "java/lang/String" "value" "[B" (.ref q.2) q.1 A s s.heap ∧ va_T .byte q.2 sq29.2.2.2.length (fun i => .int (sq29.2.2.2.getD i 0)) A s s.heap := ns_of 418 hs (by decide) (by decide +kernel) (by decide +kernel) (by decide +kernel) (by decide +kernel) (by decide +kernel) (hts _ (tb_in 1061 (by decide +kernel))) hA
theorem ms_30 {b : Nat} {s : State} {A : Nat → Prop} (hs : ∀ w ∈ lw_nar, w.before #[Value.ref b] s = true) (hts : ∀ w ∈ lw_tbl, w.before #[Value.ref b] s = true) (hA : ∀ a : Nat, a < s.heap.size → ¬ A a) : ∃ q : Nat × Nat, vk_R sq30.1 sq30.2.1 sq30.2.2.1 q.1 s ∧ va_O "java/lang/String" q.1 A s s.heap ∧ va_OF "java/lang/String" "coder" "B" (.int 0) q.1 A s s.heap ∧ va_OF "java/lang/String" "value" "[B" (.ref q.2) q.1 A s s.heap ∧ va_T .byte q.2 sq30.2.2.2.length (fun i => .int (sq30.2.2.2.getD i 0)) A s s.heap := ns_of 434 hs (by decide) (by decide +kernel) (by decide +kernel) (by decide +kernel) (by decide +kernel) (by decide +kernel) (hts _ (tb_in 1062 (by decide +kernel))) hA
theorem ms_31 {b : Nat} {s : State} {A : Nat → Prop} (hs : ∀ w ∈ lw_nar, w.before #[Value.ref b] s = true) (hts : ∀ w ∈ lw_tbl, w.before #[Value.ref b] s = true) (hA : ∀ a : Nat, a < s.heap.size → ¬ A a) : ∃ q : Nat × Nat, vk_R sq31.1 sq31.2.1 sq31.2.2.1 q.1 s ∧ va_O "java/lang/String" q.1 A s s.heap ∧ va_OF "java/lang/String" "coder" "B" (.int 0) q.1 A s s.heap ∧ va_OF "java/lang/String" "value" "[B" (.ref q.2) q.1 A s s.heap ∧ va_T .byte q.2 sq31.2.2.2.length (fun i => .int (sq31.2.2.2.getD i 0)) A s s.heap := ns_of 444 hs (by decide) (by decide +kernel) (by decide +kernel) (by decide +kernel) (by decide +kernel) (by decide +kernel) (hts _ (tb_in 1063 (by decide +kernel))) hA
theorem ms_32 {b : Nat} {s : State} {A : Nat → Prop} (hs : ∀ w ∈ lw_nar, w.before #[Value.ref b] s = true) (hts : ∀ w ∈ lw_tbl, w.before #[Value.ref b] s = true) (hA : ∀ a : Nat, a < s.heap.size → ¬ A a) : ∃ q : Nat × Nat, vk_R sq32.1 sq32.2.1 sq32.2.2.1 q.1 s ∧ va_O "java/lang/String" q.1 A s s.heap ∧ va_OF "java/lang/String" "coder" "B" (.int 0) q.1 A s s.heap ∧ va_OF "java/lang/String" "value" "[B" (.ref q.2) q.1 A s s.heap ∧ va_T .byte q.2 sq32.2.2.2.length (fun i => .int (sq32.2.2.2.getD i 0)) A s s.heap := ns_of 555 hs (by decide) (by decide +kernel) (by decide +kernel) (by decide +kernel) (by decide +kernel) (by decide +kernel) (hts _ (tb_in 1171 (by decide +kernel))) hA
theorem ms_33 {b : Nat} {s : State} {A : Nat → Prop} (hs : ∀ w ∈ lw_nar, w.before #[Value.ref b] s = true) (hts : ∀ w ∈ lw_tbl, w.before #[Value.ref b] s = true) (hA : ∀ a : Nat, a < s.heap.size → ¬ A a) : ∃ q : Nat × Nat, vk_R sq33.1 sq33.2.1 sq33.2.2.1 q.1 s ∧ va_O "java/lang/String" q.1 A s s.heap ∧ va_OF "java/lang/String" "coder" "B" (.int 0) q.1 A s s.heap ∧ va_OF "java/lang/String" "value" "[B" (.ref q.2) q.1 A s s.heap ∧ va_T .byte q.2 sq33.2.2.2.length (fun i => .int (sq33.2.2.2.getD i 0)) A s s.heap := ns_of 589 hs (by decide) (by decide +kernel) (by decide +kernel) (by decide +kernel) (by decide +kernel) (by decide +kernel) (hts _ (tb_in 1172 (by decide +kernel))) hA
theorem ms_34 {b : Nat} {s : State} {A : Nat → Prop} (hs : ∀ w ∈ lw_nar, w.before #[Value.ref b] s = true) (hts : ∀ w ∈ lw_tbl, w.before #[Value.ref b] s = true) (hA : ∀ a : Nat, a < s.heap.size → ¬ A a) : ∃ q : Nat × Nat, vk_R sq34.1 sq34.2.1 sq34.2.2.1 q.1 s ∧ va_O "java/lang/String" q.1 A s s.heap ∧ va_OF "java/lang/String" "coder" "B" (.int 0) q.1 A s s.heap ∧ va_OF "java/lang/String" "value" "[B" (.ref q.2) q.1 A s s.heap ∧ va_T .byte q.2 sq34.2.2.2.length (fun i => .int (sq34.2.2.2.getD i 0)) A s s.heap := ns_of 595 hs (by decide) (by decide +kernel) (by decide +kernel) (by decide +kernel) (by decide +kernel) (by decide +kernel) (hts _ (tb_in 1173 (by decide +kernel))) hA
theorem ms_35 {b : Nat} {s : State} {A : Nat → Prop} (hs : ∀ w ∈ lw_nar, w.before #[Value.ref b] s = true) (hts : ∀ w ∈ lw_tbl, w.before #[Value.ref b] s = true) (hA : ∀ a : Nat, a < s.heap.size → ¬ A a) : ∃ q : Nat × Nat, vk_R sq35.1 sq35.2.1 sq35.2.2.1 q.1 s ∧ va_O "java/lang/String" q.1 A s s.heap ∧ va_OF "java/lang/String" "coder" "B" (.int 0) q.1 A s s.heap ∧ va_OF "java/lang/String" "value" "[B" (.ref q.2) q.1 A s s.heap ∧ va_T .byte q.2 sq35.2.2.2.length (fun i => .int (sq35.2.2.2.getD i 0)) A s s.heap := ns_of 604 hs (by decide) (by decide +kernel) (by decide +kernel) (by decide +kernel) (by decide +kernel) (by decide +kernel) (hts _ (tb_in 1174 (by decide +kernel))) hA
theorem ms_36 {b : Nat} {s : State} {A : Nat → Prop} (hs : ∀ w ∈ lw_nar, w.before #[Value.ref b] s = true) (hts : ∀ w ∈ lw_tbl, w.before #[Value.ref b] s = true) (hA : ∀ a : Nat, a < s.heap.size → ¬ A a) : ∃ q : Nat × Nat, vk_R sq36.1 sq36.2.1 sq36.2.2.1 q.1 s ∧ va_O "java/lang/String" q.1 A s s.heap ∧ va_OF "java/lang/String" "coder" "B" (.int 0) q.1 A s s.heap ∧ va_OF "java/lang/String" "value" "[B" (.ref q.2) q.1 A s s.heap ∧ va_T .byte q.2 sq36.2.2.2.length (fun i => .int (sq36.2.2.2.getD i 0)) A s s.heap := ns_of 610 hs (by decide) (by decide +kernel) (by decide +kernel) (by decide +kernel) (by decide +kernel) (by decide +kernel) (hts _ (tb_in 1175 (by decide +kernel))) hA
theorem ms_37 {b : Nat} {s : State} {A : Nat → Prop} (hs : ∀ w ∈ lw_nar, w.before #[Value.ref b] s = true) (hts : ∀ w ∈ lw_tbl, w.before #[Value.ref b] s = true) (hA : ∀ a : Nat, a < s.heap.size → ¬ A a) : ∃ q : Nat × Nat, vk_R sq37.1 sq37.2.1 sq37.2.2.1 q.1 s ∧ va_O "java/lang/String" q.1 A s s.heap ∧ va_OF "java/lang/String" "coder" "B" (.int 0) q.1 A s s.heap ∧ va_OF "java/lang/String" "value" "[B" (.ref q.2) q.1 A s s.heap ∧ va_T .byte q.2 sq37.2.2.2.length (fun i => .int (sq37.2.2.2.getD i 0)) A s s.heap := ns_of 616 hs (by decide) (by decide +kernel) (by decide +kernel) (by decide +kernel) (by decide +kernel) (by decide +kernel) (hts _ (tb_in 1176 (by decide +kernel))) hA
theorem ms_38 {b : Nat} {s : State} {A : Nat → Prop} (hs : ∀ w ∈ lw_nar, w.before #[Value.ref b] s = true) (hts : ∀ w ∈ lw_tbl, w.before #[Value.ref b] s = true) (hA : ∀ a : Nat, a < s.heap.size → ¬ A a) : ∃ q : Nat × Nat, vk_R sq38.1 sq38.2.1 sq38.2.2.1 q.1 s ∧ va_O "java/lang/String" q.1 A s s.heap ∧ va_OF "java/lang/String" "coder" "B" (.int 0) q.1 A s s.heap ∧ va_OF "java/lang/String" "value" "[B" (.ref q.2) q.1 A s s.heap ∧ va_T .byte q.2 sq38.2.2.2.length (fun i => .int (sq38.2.2.2.getD i 0)) A s s.heap := ns_of 632 hs (by decide) (by decide +kernel) (by decide +kernel) (by decide +kernel) (by decide +kernel) (by decide +kernel) (hts _ (tb_in 1177 (by decide +kernel))) hA
theorem ms_39 {b : Nat} {s : State} {A : Nat → Prop} (hs : ∀ w ∈ lw_nar, w.before #[Value.ref b] s = true) (hts : ∀ w ∈ lw_tbl, w.before #[Value.ref b] s = true) (hA : ∀ a : Nat, a < s.heap.size → ¬ A a) : ∃ q : Nat × Nat, vk_R sq39.1 sq39.2.1 sq39.2.2.1 q.1 s ∧ va_O "java/lang/String" q.1 A s s.heap ∧ va_OF "java/lang/String" "coder" "B" (.int 0) q.1 A s s.heap ∧ va_OF "java/lang/String" "value" "[B" (.ref q.2) q.1 A s s.heap ∧ va_T .byte q.2 sq39.2.2.2.length (fun i => .int (sq39.2.2.2.getD i 0)) A s s.heap := ns_of 652 hs (by decide) (by decide +kernel) (by decide +kernel) (by decide +kernel) (by decide +kernel) (by decide +kernel) (hts _ (tb_in 1178 (by decide +kernel))) hA
theorem ms_40 {b : Nat} {s : State} {A : Nat → Prop} (hs : ∀ w ∈ lw_nar, w.before #[Value.ref b] s = true) (hts : ∀ w ∈ lw_tbl, w.before #[Value.ref b] s = true) (hA : ∀ a : Nat, a < s.heap.size → ¬ A a) : ∃ q : Nat × Nat, vk_R sq40.1 sq40.2.1 sq40.2.2.1 q.1 s ∧ va_O "java/lang/String" q.1 A s s.heap ∧ va_OF "java/lang/String" "coder" "B" (.int 0) q.1 A s s.heap ∧ va_OF "java/lang/String" "value" "[B" (.ref q.2) q.1 A s s.heap ∧ va_T .byte q.2 sq40.2.2.2.length (fun i => .int (sq40.2.2.2.getD i 0)) A s s.heap := ns_of 672 hs (by decide) (by decide +kernel) (by decide +kernel) (by decide +kernel) (by decide +kernel) (by decide +kernel) (hts _ (tb_in 1179 (by decide +kernel))) hA
theorem ms_41 {b : Nat} {s : State} {A : Nat → Prop} (hs : ∀ w ∈ lw_nar, w.before #[Value.ref b] s = true) (hts : ∀ w ∈ lw_tbl, w.before #[Value.ref b] s = true) (hA : ∀ a : Nat, a < s.heap.size → ¬ A a) : ∃ q : Nat × Nat, vk_R sq41.1 sq41.2.1 sq41.2.2.1 q.1 s ∧ va_O "java/lang/String" q.1 A s s.heap ∧ va_OF "java/lang/String" "coder" "B" (.int 0) q.1 A s s.heap ∧ va_OF "java/lang/String" "value" "[B" (.ref q.2) q.1 A s s.heap ∧ va_T .byte q.2 sq41.2.2.2.length (fun i => .int (sq41.2.2.2.getD i 0)) A s s.heap := ns_of 682 hs (by decide) (by decide +kernel) (by decide +kernel) (by decide +kernel) (by decide +kernel) (by decide +kernel) (hts _ (tb_in 1180 (by decide +kernel))) hA
theorem ms_42 {b : Nat} {s : State} {A : Nat → Prop} (hs : ∀ w ∈ lw_nar, w.before #[Value.ref b] s = true) (hts : ∀ w ∈ lw_tbl, w.before #[Value.ref b] s = true) (hA : ∀ a : Nat, a < s.heap.size → ¬ A a) : ∃ q : Nat × Nat, vk_R sq42.1 sq42.2.1 sq42.2.2.1 q.1 s ∧ va_O "java/lang/String" q.1 A s s.heap ∧ va_OF "java/lang/String" "coder" "B" (.int 0) q.1 A s s.heap ∧ va_OF "java/lang/String" "value" "[B" (.ref q.2) q.1 A s s.heap ∧ va_T .byte q.2 sq42.2.2.2.length (fun i => .int (sq42.2.2.2.getD i 0)) A s s.heap := ns_of 700 hs (by decide) (by decide +kernel) (by decide +kernel) (by decide +kernel) (by decide +kernel) (by decide +kernel) (hts _ (tb_in 1181 (by decide +kernel))) hA
theorem ms_43 {b : Nat} {s : State} {A : Nat → Prop} (hs : ∀ w ∈ lw_nar, w.before #[Value.ref b] s = true) (hts : ∀ w ∈ lw_tbl, w.before #[Value.ref b] s = true) (hA : ∀ a : Nat, a < s.heap.size → ¬ A a) : ∃ q : Nat × Nat, vk_R sq43.1 sq43.2.1 sq43.2.2.1 q.1 s ∧ va_O "java/lang/String" q.1 A s s.heap ∧ va_OF "java/lang/String" "coder" "B" (.int 0) q.1 A s s.heap ∧ va_OF "java/lang/String" "value" "[B" (.ref q.2) q.1 A s s.heap ∧ va_T .byte q.2 sq43.2.2.2.length (fun i => .int (sq43.2.2.2.getD i 0)) A s s.heap := ns_of 715 hs (by decide) (by decide +kernel) (by decide +kernel) (by decide +kernel) (by decide +kernel) (by decide +kernel) (hts _ (tb_in 1182 (by decide +kernel))) hA
theorem ms_44 {b : Nat} {s : State} {A : Nat → Prop} (hs : ∀ w ∈ lw_nar, w.before #[Value.ref b] s = true) (hts : ∀ w ∈ lw_tbl, w.before #[Value.ref b] s = true) (hA : ∀ a : Nat, a < s.heap.size → ¬ A a) : ∃ q : Nat × Nat, vk_R sq44.1 sq44.2.1 sq44.2.2.1 q.1 s ∧ va_O "java/lang/String" q.1 A s s.heap ∧ va_OF "java/lang/String" "coder" "B" (.int 0) q.1 A s s.heap ∧ va_OF "java/lang/String" "value" "[B" (.ref q.2) q.1 A s s.heap ∧ va_T .byte q.2 sq44.2.2.2.length (fun i => .int (sq44.2.2.2.getD i 0)) A s s.heap := ns_of 731 hs (by decide) (by decide +kernel) (by decide +kernel) (by decide +kernel) (by decide +kernel) (by decide +kernel) (hts _ (tb_in 1183 (by decide +kernel))) hA
theorem ms_45 {b : Nat} {s : State} {A : Nat → Prop} (hs : ∀ w ∈ lw_nar, w.before #[Value.ref b] s = true) (hts : ∀ w ∈ lw_tbl, w.before #[Value.ref b] s = true) (hA : ∀ a : Nat, a < s.heap.size → ¬ A a) : ∃ q : Nat × Nat, vk_R sq45.1 sq45.2.1 sq45.2.2.1 q.1 s ∧ va_O "java/lang/String" q.1 A s s.heap ∧ va_OF "java/lang/String" "coder" "B" (.int 0) q.1 A s s.heap ∧ va_OF "java/lang/String" "value" "[B" (.ref q.2) q.1 A s s.heap ∧ va_T .byte q.2 sq45.2.2.2.length (fun i => .int (sq45.2.2.2.getD i 0)) A s s.heap := ns_of 750 hs (by decide) (by decide +kernel) (by decide +kernel) (by decide +kernel) (by decide +kernel) (by decide +kernel) (hts _ (tb_in 1184 (by decide +kernel))) hA
theorem ms_46 {b : Nat} {s : State} {A : Nat → Prop} (hs : ∀ w ∈ lw_nar, w.before #[Value.ref b] s = true) (hts : ∀ w ∈ lw_tbl, w.before #[Value.ref b] s = true) (hA : ∀ a : Nat, a < s.heap.size → ¬ A a) : ∃ q : Nat × Nat, vk_R sq46.1 sq46.2.1 sq46.2.2.1 q.1 s ∧ va_O "java/lang/String" q.1 A s s.heap ∧ va_OF "java/lang/String" "coder" "B" (.int 0) q.1 A s s.heap ∧ va_OF "java/lang/String" "value" "[B" (.ref q.2) q.1 A s s.heap ∧ va_T .byte q.2 sq46.2.2.2.length (fun i => .int (sq46.2.2.2.getD i 0)) A s s.heap := ns_of 774 hs (by decide) (by decide +kernel) (by decide +kernel) (by decide +kernel) (by decide +kernel) (by decide +kernel) (hts _ (tb_in 1185 (by decide +kernel))) hA
theorem ms_47 {b : Nat} {s : State} {A : Nat → Prop} (hs : ∀ w ∈ lw_nar, w.before #[Value.ref b] s = true) (hts : ∀ w ∈ lw_tbl, w.before #[Value.ref b] s = true) (hA : ∀ a : Nat, a < s.heap.size → ¬ A a) : ∃ q : Nat × Nat, vk_R sq47.1 sq47.2.1 sq47.2.2.1 q.1 s ∧ va_O "java/lang/String" q.1 A s s.heap ∧ va_OF "java/lang/String" "coder" "B" (.int 0) q.1 A s s.heap ∧ va_OF "java/lang/String" "value" "[B" (.ref q.2) q.1 A s s.heap ∧ va_T .byte q.2 sq47.2.2.2.length (fun i => .int (sq47.2.2.2.getD i 0)) A s s.heap := ns_of 797 hs (by decide) (by decide +kernel) (by decide +kernel) (by decide +kernel) (by decide +kernel) (by decide +kernel) (hts _ (tb_in 1186 (by decide +kernel))) hA
theorem ms_48 {b : Nat} {s : State} {A : Nat → Prop} (hs : ∀ w ∈ lw_nar, w.before #[Value.ref b] s = true) (hts : ∀ w ∈ lw_tbl, w.before #[Value.ref b] s = true) (hA : ∀ a : Nat, a < s.heap.size → ¬ A a) : ∃ q : Nat × Nat, vk_R sq48.1 sq48.2.1 sq48.2.2.1 q.1 s ∧ va_O "java/lang/String" q.1 A s s.heap ∧ va_OF "java/lang/String" "coder" "B" (.int 0) q.1 A s s.heap ∧ va_OF "java/lang/String" "value" "[B" (.ref q.2) q.1 A s s.heap ∧ va_T .byte q.2 sq48.2.2.2.length (fun i => .int (sq48.2.2.2.getD i 0)) A s s.heap := ns_of 822 hs (by decide) (by decide +kernel) (by decide +kernel) (by decide +kernel) (by decide +kernel) (by decide +kernel) (hts _ (tb_in 1187 (by decide +kernel))) hA
theorem ms_49 {b : Nat} {s : State} {A : Nat → Prop} (hs : ∀ w ∈ lw_nar, w.before #[Value.ref b] s = true) (hts : ∀ w ∈ lw_tbl, w.before #[Value.ref b] s = true) (hA : ∀ a : Nat, a < s.heap.size → ¬ A a) : ∃ q : Nat × Nat, vk_R sq49.1 sq49.2.1 sq49.2.2.1 q.1 s ∧ va_O "java/lang/String" q.1 A s s.heap ∧ va_OF "java/lang/String" "coder" "B" (.int 0) q.1 A s s.heap ∧ va_OF "java/lang/String" "value" "[B" (.ref q.2) q.1 A s s.heap ∧ va_T .byte q.2 sq49.2.2.2.length (fun i => .int (sq49.2.2.2.getD i 0)) A s s.heap := ns_of 854 hs (by decide) (by decide +kernel) (by decide +kernel) (by decide +kernel) (by decide +kernel) (by decide +kernel) (hts _ (tb_in 1188 (by decide +kernel))) hA
theorem ms_50 {b : Nat} {s : State} {A : Nat → Prop} (hs : ∀ w ∈ lw_nar, w.before #[Value.ref b] s = true) (hts : ∀ w ∈ lw_tbl, w.before #[Value.ref b] s = true) (hA : ∀ a : Nat, a < s.heap.size → ¬ A a) : ∃ q : Nat × Nat, vk_R sq50.1 sq50.2.1 sq50.2.2.1 q.1 s ∧ va_O "java/lang/String" q.1 A s s.heap ∧ va_OF "java/lang/String" "coder" "B" (.int 0) q.1 A s s.heap ∧ va_OF "java/lang/String" "value" "[B" (.ref q.2) q.1 A s s.heap ∧ va_T .byte q.2 sq50.2.2.2.length (fun i => .int (sq50.2.2.2.getD i 0)) A s s.heap := ns_of 912 hs (by decide) (by decide +kernel) (by decide +kernel) (by decide +kernel) (by decide +kernel) (by decide +kernel) (hts _ (tb_in 1189 (by decide +kernel))) hA
theorem ms_51 {b : Nat} {s : State} {A : Nat → Prop} (hs : ∀ w ∈ lw_nar, w.before #[Value.ref b] s = true) (hts : ∀ w ∈ lw_tbl, w.before #[Value.ref b] s = true) (hA : ∀ a : Nat, a < s.heap.size → ¬ A a) : ∃ q : Nat × Nat, vk_R sq51.1 sq51.2.1 sq51.2.2.1 q.1 s ∧ va_O "java/lang/String" q.1 A s s.heap ∧ va_OF "java/lang/String" "coder" "B" (.int 0) q.1 A s s.heap ∧ va_OF "java/lang/String" "value" "[B" (.ref q.2) q.1 A s s.heap ∧ va_T .byte q.2 sq51.2.2.2.length (fun i => .int (sq51.2.2.2.getD i 0)) A s s.heap := ns_of 963 hs (by decide) (by decide +kernel) (by decide +kernel) (by decide +kernel) (by decide +kernel) (by decide +kernel) (hts _ (tb_in 1190 (by decide +kernel))) hA
theorem ms_52 {b : Nat} {s : State} {A : Nat → Prop} (hs : ∀ w ∈ lw_nar, w.before #[Value.ref b] s = true) (hts : ∀ w ∈ lw_tbl, w.before #[Value.ref b] s = true) (hA : ∀ a : Nat, a < s.heap.size → ¬ A a) : ∃ q : Nat × Nat, vk_R sq52.1 sq52.2.1 sq52.2.2.1 q.1 s ∧ va_O "java/lang/String" q.1 A s s.heap ∧ va_OF "java/lang/String" "coder" "B" (.int 0) q.1 A s s.heap ∧ va_OF "java/lang/String" "value" "[B" (.ref q.2) q.1 A s s.heap ∧ va_T .byte q.2 sq52.2.2.2.length (fun i => .int (sq52.2.2.2.getD i 0)) A s s.heap := ns_of 978 hs (by decide) (by decide +kernel) (by decide +kernel) (by decide +kernel) (by decide +kernel) (by decide +kernel) (hts _ (tb_in 1191 (by decide +kernel))) hA
theorem ms_53 {b : Nat} {s : State} {A : Nat → Prop} (hs : ∀ w ∈ lw_nar, w.before #[Value.ref b] s = true) (hts : ∀ w ∈ lw_tbl, w.before #[Value.ref b] s = true) (hA : ∀ a : Nat, a < s.heap.size → ¬ A a) : ∃ q : Nat × Nat, vk_R sq53.1 sq53.2.1 sq53.2.2.1 q.1 s ∧ va_O "java/lang/String" q.1 A s s.heap ∧ va_OF "java/lang/String" "coder" "B" (.int 0) q.1 A s s.heap ∧ va_OF "java/lang/String" "value" "[B" (.ref q.2) q.1 A s s.heap ∧ va_T .byte q.2 sq53.2.2.2.length (fun i => .int (sq53.2.2.2.getD i 0)) A s s.heap := ns_of 991 hs (by decide) (by decide +kernel) (by decide +kernel) (by decide +kernel) (by decide +kernel) (by decide +kernel) (hts _ (tb_in 1206 (by decide +kernel))) hA
theorem ms_54 {b : Nat} {s : State} {A : Nat → Prop} (hs : ∀ w ∈ lw_nar, w.before #[Value.ref b] s = true) (hts : ∀ w ∈ lw_tbl, w.before #[Value.ref b] s = true) (hA : ∀ a : Nat, a < s.heap.size → ¬ A a) : ∃ q : Nat × Nat, vk_R sq54.1 sq54.2.1 sq54.2.2.1 q.1 s ∧ va_O "java/lang/String" q.1 A s s.heap ∧ va_OF "java/lang/String" "coder" "B" (.int 0) q.1 A s s.heap ∧ va_OF "java/lang/String" "value" "[B" (.ref q.2) q.1 A s s.heap ∧ va_T .byte q.2 sq54.2.2.2.length (fun i => .int (sq54.2.2.2.getD i 0)) A s s.heap := ns_of 1002 hs (by decide) (by decide +kernel) (by decide +kernel) (by decide +kernel) (by decide +kernel) (by decide +kernel) (hts _ (tb_in 1207 (by decide +kernel))) hA
theorem ms_55 {b : Nat} {s : State} {A : Nat → Prop} (hs : ∀ w ∈ lw_nar, w.before #[Value.ref b] s = true) (hts : ∀ w ∈ lw_tbl, w.before #[Value.ref b] s = true) (hA : ∀ a : Nat, a < s.heap.size → ¬ A a) : ∃ q : Nat × Nat, vk_R sq55.1 sq55.2.1 sq55.2.2.1 q.1 s ∧ va_O "java/lang/String" q.1 A s s.heap ∧ va_OF "java/lang/String" "coder" "B" (.int 0) q.1 A s s.heap ∧ va_OF "java/lang/String" "value" "[B" (.ref q.2) q.1 A s s.heap ∧ va_T .byte q.2 sq55.2.2.2.length (fun i => .int (sq55.2.2.2.getD i 0)) A s s.heap := ns_of 1014 hs (by decide) (by decide +kernel) (by decide +kernel) (by decide +kernel) (by decide +kernel) (by decide +kernel) (hts _ (tb_in 1208 (by decide +kernel))) hA
theorem ns_all {b : Nat} {s : State} {A : Nat → Prop} (hs : ∀ w ∈ lw_nar, w.before #[Value.ref b] s = true) (hts : ∀ w ∈ lw_tbl, w.before #[Value.ref b] s = true) (hA : ∀ a : Nat, a < s.heap.size → ¬ A a) : ∃ gS gV : Nat → Nat, ∀ (j : Nat) (q : String × Nat × String × List Int32), strTab[j]? = some q → vk_R q.1 q.2.1 q.2.2.1 (gS j) s ∧ va_O "java/lang/String" (gS j) A s s.heap ∧ va_OF "java/lang/String" "coder" "B" (.int 0) (gS j) A s s.heap ∧ va_OF "java/lang/String" "value" "[B" (.ref (gV j)) (gS j) A s s.heap ∧ va_T .byte (gV j) q.2.2.2.length (fun i => .int (q.2.2.2.getD i 0)) A s s.heap := by
  have h0 : ∀ j : Nat, ∃ z : Nat × Nat, ∀ q : String × Nat × String × List Int32, strTab[j]? = some q → vk_R q.1 q.2.1 q.2.2.1 z.1 s ∧ va_O "java/lang/String" z.1 A s s.heap ∧ va_OF "java/lang/String" "coder" "B" (.int 0) z.1 A s s.heap ∧ va_OF "java/lang/String" "value" "[B" (.ref z.2) z.1 A s s.heap ∧ va_T .byte z.2 q.2.2.2.length (fun i => .int (q.2.2.2.getD i 0)) A s s.heap := by
    intro j
    match j with
    | 0 =>
      obtain ⟨z, hz⟩ := ms_0 hs hts hA
      exact ⟨z, fun q hq => by
        have e : sq0 = q := Option.some.inj hq
        rw [← e]
        exact hz⟩
    | 1 =>
      obtain ⟨z, hz⟩ := ms_1 hs hts hA
      exact ⟨z, fun q hq => by
        have e : sq1 = q := Option.some.inj hq
        rw [← e]
        exact hz⟩
    | 2 =>
      obtain ⟨z, hz⟩ := ms_2 hs hts hA
      exact ⟨z, fun q hq => by
        have e : sq2 = q := Option.some.inj hq
        rw [← e]
        exact hz⟩
    | 3 =>
      obtain ⟨z, hz⟩ := ms_3 hs hts hA
      exact ⟨z, fun q hq => by
        have e : sq3 = q := Option.some.inj hq
        rw [← e]
        exact hz⟩
    | 4 =>
      obtain ⟨z, hz⟩ := ms_4 hs hts hA
      exact ⟨z, fun q hq => by
        have e : sq4 = q := Option.some.inj hq
        rw [← e]
        exact hz⟩
    | 5 =>
      obtain ⟨z, hz⟩ := ms_5 hs hts hA
      exact ⟨z, fun q hq => by
        have e : sq5 = q := Option.some.inj hq
        rw [← e]
        exact hz⟩
    | 6 =>
      obtain ⟨z, hz⟩ := ms_6 hs hts hA
      exact ⟨z, fun q hq => by
        have e : sq6 = q := Option.some.inj hq
        rw [← e]
        exact hz⟩
    | 7 =>
      obtain ⟨z, hz⟩ := ms_7 hs hts hA
      exact ⟨z, fun q hq => by
        have e : sq7 = q := Option.some.inj hq
        rw [← e]
        exact hz⟩
    | 8 =>
      obtain ⟨z, hz⟩ := ms_8 hs hts hA
      exact ⟨z, fun q hq => by
        have e : sq8 = q := Option.some.inj hq
        rw [← e]
        exact hz⟩
    | 9 =>
      obtain ⟨z, hz⟩ := ms_9 hs hts hA
      exact ⟨z, fun q hq => by
        have e : sq9 = q := Option.some.inj hq
        rw [← e]
        exact hz⟩
    | 10 =>
      obtain ⟨z, hz⟩ := ms_10 hs hts hA
      exact ⟨z, fun q hq => by
        have e : sq10 = q := Option.some.inj hq
        rw [← e]
        exact hz⟩
    | 11 =>
      obtain ⟨z, hz⟩ := ms_11 hs hts hA
      exact ⟨z, fun q hq => by
        have e : sq11 = q := Option.some.inj hq
        rw [← e]
        exact hz⟩
    | 12 =>
      obtain ⟨z, hz⟩ := ms_12 hs hts hA
      exact ⟨z, fun q hq => by
        have e : sq12 = q := Option.some.inj hq
        rw [← e]
        exact hz⟩
    | 13 =>
      obtain ⟨z, hz⟩ := ms_13 hs hts hA
      exact ⟨z, fun q hq => by
        have e : sq13 = q := Option.some.inj hq
        rw [← e]
        exact hz⟩
    | 14 =>
      obtain ⟨z, hz⟩ := ms_14 hs hts hA
      exact ⟨z, fun q hq => by
        have e : sq14 = q := Option.some.inj hq
        rw [← e]
        exact hz⟩
    | 15 =>
      obtain ⟨z, hz⟩ := ms_15 hs hts hA
      exact ⟨z, fun q hq => by
        have e : sq15 = q := Option.some.inj hq
        rw [← e]
        exact hz⟩
    | 16 =>
      obtain ⟨z, hz⟩ := ms_16 hs hts hA
      exact ⟨z, fun q hq => by
        have e : sq16 = q := Option.some.inj hq
        rw [← e]
        exact hz⟩
    | 17 =>
      obtain ⟨z, hz⟩ := ms_17 hs hts hA
      exact ⟨z, fun q hq => by
        have e : sq17 = q := Option.some.inj hq
        rw [← e]
        exact hz⟩
    | 18 =>
      obtain ⟨z, hz⟩ := ms_18 hs hts hA
      exact ⟨z, fun q hq => by
        have e : sq18 = q := Option.some.inj hq
        rw [← e]
        exact hz⟩
    | 19 =>
      obtain ⟨z, hz⟩ := ms_19 hs hts hA
      exact ⟨z, fun q hq => by
        have e : sq19 = q := Option.some.inj hq
        rw [← e]
        exact hz⟩
    | 20 =>
      obtain ⟨z, hz⟩ := ms_20 hs hts hA
      exact ⟨z, fun q hq => by
        have e : sq20 = q := Option.some.inj hq
        rw [← e]
        exact hz⟩
    | 21 =>
      obtain ⟨z, hz⟩ := ms_21 hs hts hA
      exact ⟨z, fun q hq => by
        have e : sq21 = q := Option.some.inj hq
        rw [← e]
        exact hz⟩
    | 22 =>
      obtain ⟨z, hz⟩ := ms_22 hs hts hA
      exact ⟨z, fun q hq => by
        have e : sq22 = q := Option.some.inj hq
        rw [← e]
        exact hz⟩
    | 23 =>
      obtain ⟨z, hz⟩ := ms_23 hs hts hA
      exact ⟨z, fun q hq => by
        have e : sq23 = q := Option.some.inj hq
        rw [← e]
        exact hz⟩
    | 24 =>
      obtain ⟨z, hz⟩ := ms_24 hs hts hA
      exact ⟨z, fun q hq => by
        have e : sq24 = q := Option.some.inj hq
        rw [← e]
        exact hz⟩
    | 25 =>
      obtain ⟨z, hz⟩ := ms_25 hs hts hA
      exact ⟨z, fun q hq => by
        have e : sq25 = q := Option.some.inj hq
        rw [← e]
        exact hz⟩
    | 26 =>
      obtain ⟨z, hz⟩ := ms_26 hs hts hA
      exact ⟨z, fun q hq => by
        have e : sq26 = q := Option.some.inj hq
        rw [← e]
        exact hz⟩
    | 27 =>
      obtain ⟨z, hz⟩ := ms_27 hs hts hA
      exact ⟨z, fun q hq => by
        have e : sq27 = q := Option.some.inj hq
        rw [← e]
        exact hz⟩
    | 28 =>
      obtain ⟨z, hz⟩ := ms_28 hs hts hA
      exact ⟨z, fun q hq => by
        have e : sq28 = q := Option.some.inj hq
        rw [← e]
        exact hz⟩
    | 29 =>
      obtain ⟨z, hz⟩ := ms_29 hs hts hA
      exact ⟨z, fun q hq => by
        have e : sq29 = q := Option.some.inj hq
        rw [← e]
        exact hz⟩
    | 30 =>
      obtain ⟨z, hz⟩ := ms_30 hs hts hA
      exact ⟨z, fun q hq => by
        have e : sq30 = q := Option.some.inj hq
        rw [← e]
        exact hz⟩
    | 31 =>
      obtain ⟨z, hz⟩ := ms_31 hs hts hA
      exact ⟨z, fun q hq => by
        have e : sq31 = q := Option.some.inj hq
        rw [← e]
        exact hz⟩
    | 32 =>
      obtain ⟨z, hz⟩ := ms_32 hs hts hA
      exact ⟨z, fun q hq => by
        have e : sq32 = q := Option.some.inj hq
        rw [← e]
        exact hz⟩
    | 33 =>
      obtain ⟨z, hz⟩ := ms_33 hs hts hA
      exact ⟨z, fun q hq => by
        have e : sq33 = q := Option.some.inj hq
        rw [← e]
        exact hz⟩
    | 34 =>
      obtain ⟨z, hz⟩ := ms_34 hs hts hA
      exact ⟨z, fun q hq => by
        have e : sq34 = q := Option.some.inj hq
        rw [← e]
        exact hz⟩
    | 35 =>
      obtain ⟨z, hz⟩ := ms_35 hs hts hA
      exact ⟨z, fun q hq => by
        have e : sq35 = q := Option.some.inj hq
        rw [← e]
        exact hz⟩
    | 36 =>
      obtain ⟨z, hz⟩ := ms_36 hs hts hA
      exact ⟨z, fun q hq => by
        have e : sq36 = q := Option.some.inj hq
        rw [← e]
        exact hz⟩
    | 37 =>
      obtain ⟨z, hz⟩ := ms_37 hs hts hA
      exact ⟨z, fun q hq => by
        have e : sq37 = q := Option.some.inj hq
        rw [← e]
        exact hz⟩
    | 38 =>
      obtain ⟨z, hz⟩ := ms_38 hs hts hA
      exact ⟨z, fun q hq => by
        have e : sq38 = q := Option.some.inj hq
        rw [← e]
        exact hz⟩
    | 39 =>
      obtain ⟨z, hz⟩ := ms_39 hs hts hA
      exact ⟨z, fun q hq => by
        have e : sq39 = q := Option.some.inj hq
        rw [← e]
        exact hz⟩
    | 40 =>
      obtain ⟨z, hz⟩ := ms_40 hs hts hA
      exact ⟨z, fun q hq => by
        have e : sq40 = q := Option.some.inj hq
        rw [← e]
        exact hz⟩
    | 41 =>
      obtain ⟨z, hz⟩ := ms_41 hs hts hA
      exact ⟨z, fun q hq => by
        have e : sq41 = q := Option.some.inj hq
        rw [← e]
        exact hz⟩
    | 42 =>
      obtain ⟨z, hz⟩ := ms_42 hs hts hA
      exact ⟨z, fun q hq => by
        have e : sq42 = q := Option.some.inj hq
        rw [← e]
        exact hz⟩
    | 43 =>
      obtain ⟨z, hz⟩ := ms_43 hs hts hA
      exact ⟨z, fun q hq => by
        have e : sq43 = q := Option.some.inj hq
        rw [← e]
        exact hz⟩
    | 44 =>
      obtain ⟨z, hz⟩ := ms_44 hs hts hA
      exact ⟨z, fun q hq => by
        have e : sq44 = q := Option.some.inj hq
        rw [← e]
        exact hz⟩
    | 45 =>
      obtain ⟨z, hz⟩ := ms_45 hs hts hA
      exact ⟨z, fun q hq => by
        have e : sq45 = q := Option.some.inj hq
        rw [← e]
        exact hz⟩
    | 46 =>
      obtain ⟨z, hz⟩ := ms_46 hs hts hA
      exact ⟨z, fun q hq => by
        have e : sq46 = q := Option.some.inj hq
        rw [← e]
        exact hz⟩
    | 47 =>
      obtain ⟨z, hz⟩ := ms_47 hs hts hA
      exact ⟨z, fun q hq => by
        have e : sq47 = q := Option.some.inj hq
        rw [← e]
        exact hz⟩
    | 48 =>
      obtain ⟨z, hz⟩ := ms_48 hs hts hA
      exact ⟨z, fun q hq => by
        have e : sq48 = q := Option.some.inj hq
        rw [← e]
        exact hz⟩
    | 49 =>
      obtain ⟨z, hz⟩ := ms_49 hs hts hA
      exact ⟨z, fun q hq => by
        have e : sq49 = q := Option.some.inj hq
        rw [← e]
        exact hz⟩
    | 50 =>
      obtain ⟨z, hz⟩ := ms_50 hs hts hA
      exact ⟨z, fun q hq => by
        have e : sq50 = q := Option.some.inj hq
        rw [← e]
        exact hz⟩
    | 51 =>
      obtain ⟨z, hz⟩ := ms_51 hs hts hA
      exact ⟨z, fun q hq => by
        have e : sq51 = q := Option.some.inj hq
        rw [← e]
        exact hz⟩
    | 52 =>
      obtain ⟨z, hz⟩ := ms_52 hs hts hA
      exact ⟨z, fun q hq => by
        have e : sq52 = q := Option.some.inj hq
        rw [← e]
        exact hz⟩
    | 53 =>
      obtain ⟨z, hz⟩ := ms_53 hs hts hA
      exact ⟨z, fun q hq => by
        have e : sq53 = q := Option.some.inj hq
        rw [← e]
        exact hz⟩
    | 54 =>
      obtain ⟨z, hz⟩ := ms_54 hs hts hA
      exact ⟨z, fun q hq => by
        have e : sq54 = q := Option.some.inj hq
        rw [← e]
        exact hz⟩
    | 55 =>
      obtain ⟨z, hz⟩ := ms_55 hs hts hA
      exact ⟨z, fun q hq => by
        have e : sq55 = q := Option.some.inj hq
        rw [← e]
        exact hz⟩
    | j + 56 => exact ⟨(0, 0), fun q hq => by
        have := (List.getElem?_eq_some_iff.mp hq).1
        have e : strTab.length = 56 := rfl
        omega⟩
  obtain ⟨ad, had⟩ := Classical.axiomOfChoice h0
  exact ⟨fun j => (ad j).1, fun j => (ad j).2, had⟩
theorem ns_DigitOnes {b : Nat} {s : State} {A : Nat → Prop} (hs : ∀ w ∈ lw_nar, w.before #[Value.ref b] s = true) (hts : ∀ w ∈ lw_tbl, w.before #[Value.ref b] s = true) (hA : ∀ a : Nat, a < s.heap.size → ¬ A a) : ∃ t : Nat, va_Z "java/lang/Integer" "DigitOnes" "[B" (.ref t) A s s.heap ∧ va_T .byte t 100 (fun i => .int (48 + Int32.ofNat (i % 10))) A s s.heap := by
  have m1 : lw_nar[10]? = some (.arrayOf (.static "java/lang/Integer" "DigitOnes" "[B") .byte) := by decide +kernel
  have m2 : lw_nar[11]? = some (.eq (.length (.static "java/lang/Integer" "DigitOnes" "[B")) (.int (Int32.ofNat 100))) := by decide +kernel
  have m3 : ∀ i, i < 100 → lw_nar[12 + i]? = some (.eq (.elem (.static "java/lang/Integer" "DigitOnes" "[B") (.int (Int32.ofNat i))) (.int (48 + Int32.ofNat (i % 10)))) := by decide +kernel
  obtain ⟨t, ht, hT⟩ := va_Tof (N := 100) (f := fun i => .int (48 + Int32.ofNat (i % 10))) (A := A) (by decide) (hs _ (List.mem_of_getElem? m1)) (va_eqt (hs _ (List.mem_of_getElem? m2))) (fun j hj => va_eqt (hs _ (List.mem_of_getElem? (m3 j hj)))) hA
  exact ⟨t, va_Zref (hts _ (tb_in 954 (by decide +kernel))) (hts _ (tb_in 18 (by decide +kernel))) ht hA, hT⟩
theorem ns_DigitTens {b : Nat} {s : State} {A : Nat → Prop} (hs : ∀ w ∈ lw_nar, w.before #[Value.ref b] s = true) (hts : ∀ w ∈ lw_tbl, w.before #[Value.ref b] s = true) (hA : ∀ a : Nat, a < s.heap.size → ¬ A a) : ∃ t : Nat, va_Z "java/lang/Integer" "DigitTens" "[B" (.ref t) A s s.heap ∧ va_T .byte t 100 (fun i => .int (48 + Int32.ofNat (i / 10))) A s s.heap := by
  have m1 : lw_nar[113]? = some (.arrayOf (.static "java/lang/Integer" "DigitTens" "[B") .byte) := by decide +kernel
  have m2 : lw_nar[114]? = some (.eq (.length (.static "java/lang/Integer" "DigitTens" "[B")) (.int (Int32.ofNat 100))) := by decide +kernel
  have m3 : ∀ i, i < 100 → lw_nar[115 + i]? = some (.eq (.elem (.static "java/lang/Integer" "DigitTens" "[B") (.int (Int32.ofNat i))) (.int (48 + Int32.ofNat (i / 10)))) := by decide +kernel
  obtain ⟨t, ht, hT⟩ := va_Tof (N := 100) (f := fun i => .int (48 + Int32.ofNat (i / 10))) (A := A) (by decide) (hs _ (List.mem_of_getElem? m1)) (va_eqt (hs _ (List.mem_of_getElem? m2))) (fun j hj => va_eqt (hs _ (List.mem_of_getElem? (m3 j hj)))) hA
  exact ⟨t, va_Zref (hts _ (tb_in 956 (by decide +kernel))) (hts _ (tb_in 18 (by decide +kernel))) ht hA, hT⟩
theorem ns_compact {b : Nat} {s : State} {A : Nat → Prop} (hs : ∀ w ∈ lw_nar, w.before #[Value.ref b] s = true) (hts : ∀ w ∈ lw_tbl, w.before #[Value.ref b] s = true) (hA : ∀ a : Nat, a < s.heap.size → ¬ A a) : va_Z "java/lang/String" "COMPACT_STRINGS" "Z" (.int 1) A s s.heap := by
  have m1 : lw_nar[4]? = some (.eq (.static "java/lang/String" "COMPACT_STRINGS" "Z") (.int 1)) := by decide +kernel
  exact va_Zof (hts _ (tb_in 222 (by decide +kernel))) (hts _ (tb_in 7 (by decide +kernel))) (va_eqt (hs _ (List.mem_of_getElem? m1))) hA
theorem ns_form {b : Nat} {s : State} {A : Nat → Prop} (hs : ∀ w ∈ lw_nar, w.before #[Value.ref b] s = true) (hts : ∀ w ∈ lw_tbl, w.before #[Value.ref b] s = true) (hA : ∀ a : Nat, a < s.heap.size → ¬ A a) : ∃ z : Nat, va_Z "jdk/internal/util/Preconditions" "SIOOBE_FORMATTER" "Ljava/util/function/BiFunction;" (if z = 0 then .null else .ref (z - 1)) A s s.heap := by
  have m1 : lw_nar[5]? = some (.isRef (.static "jdk/internal/util/Preconditions" "SIOOBE_FORMATTER" "Ljava/util/function/BiFunction;")) := by decide +kernel
  rcases va_Zqof (hts _ (tb_in 394 (by decide +kernel))) (hts _ (tb_in 17 (by decide +kernel))) (hs _ (List.mem_of_getElem? m1)) hA with h | ⟨t, h⟩
  · exact ⟨0, h⟩
  · exact ⟨t + 1, h⟩
theorem ns_kinds {gS : Nat → Nat} {b : Nat} {s : State} {A : Nat → Prop} (hs : ∀ w ∈ lw_nar, w.before #[Value.ref b] s = true) (hts : ∀ w ∈ lw_tbl, w.before #[Value.ref b] s = true) (hA : ∀ a : Nat, a < s.heap.size → ¬ A a) (h53 : vk_R sq53.1 sq53.2.1 sq53.2.2.1 (gS 53) s) (h54 : vk_R sq54.1 sq54.2.1 sq54.2.2.1 (gS 54) s) (h55 : vk_R sq55.1 sq55.2.1 sq55.2.2.1 (gS 55) s) : ∃ t : Nat, va_Z "HosieryPlantLaw" "KINDS" "[Ljava/lang/String;" (.ref t) A s s.heap ∧ va_T (.object "java/lang/String") t 3 (fun i => .ref (gS (53 + i))) A s s.heap := by
  have m1 : lw_nar[216]? = some (.arrayOf (.static "HosieryPlantLaw" "KINDS" "[Ljava/lang/String;") (.object "java/lang/String")) := by decide +kernel
  have m2 : lw_nar[217]? = some (.eq (.length (.static "HosieryPlantLaw" "KINDS" "[Ljava/lang/String;")) (.int (Int32.ofNat 3))) := by decide +kernel
  have e0 : lw_nar[218]? = some (.eq (.elem (.static "HosieryPlantLaw" "KINDS" "[Ljava/lang/String;") (.int (Int32.ofNat 0))) (.string "HosieryPlantLaw" 288)) := by decide +kernel
  have e1 : lw_nar[219]? = some (.eq (.elem (.static "HosieryPlantLaw" "KINDS" "[Ljava/lang/String;") (.int (Int32.ofNat 1))) (.string "HosieryPlantLaw" 290)) := by decide +kernel
  have e2 : lw_nar[220]? = some (.eq (.elem (.static "HosieryPlantLaw" "KINDS" "[Ljava/lang/String;") (.int (Int32.ofNat 2))) (.string "HosieryPlantLaw" 292)) := by decide +kernel
  obtain ⟨t, ht, hT⟩ := va_Tof (N := 3) (f := fun i => .ref (gS (53 + i))) (A := A) (by decide) (hs _ (List.mem_of_getElem? m1)) (va_eqt (hs _ (List.mem_of_getElem? m2))) (fun j hj => by
    rcases (show j = 0 ∨ j = 1 ∨ j = 2 by omega) with rfl | rfl | rfl
    · exact va_eqv (hs _ (List.mem_of_getElem? e0)) h53.2
    · exact va_eqv (hs _ (List.mem_of_getElem? e1)) h54.2
    · exact va_eqv (hs _ (List.mem_of_getElem? e2)) h55.2) hA
  exact ⟨t, va_Zref (hts _ (tb_in 1068 (by decide +kernel))) (hts _ (tb_in 0 (by decide +kernel))) ht hA, hT⟩
theorem ns_nest {b : Nat} {s : State} (hts : ∀ w ∈ lw_tbl, w.before #[Value.ref b] s = true) : ∀ (j : Nat) (q : String × Nat × MethodName × String), nestTab[j]? = some q → va_Nw (.methodLinkNest q.1 q.2.1 q.2.2.1 q.2.2.2) s := fun j q hq => match j, hq with
  | 0, hj => by
    have e := Option.some.inj hj
    rw [← e]
    exact va_Nw.of rfl (hts _ (tb_in 534 (by decide +kernel)))
  | 1, hj => by
    have e := Option.some.inj hj
    rw [← e]
    exact va_Nw.of rfl (hts _ (tb_in 684 (by decide +kernel)))
  | 2, hj => by
    have e := Option.some.inj hj
    rw [← e]
    exact va_Nw.of rfl (hts _ (tb_in 678 (by decide +kernel)))
  | 3, hj => by
    have e := Option.some.inj hj
    rw [← e]
    exact va_Nw.of rfl (hts _ (tb_in 710 (by decide +kernel)))
  | 4, hj => by
    have e := Option.some.inj hj
    rw [← e]
    exact va_Nw.of rfl (hts _ (tb_in 699 (by decide +kernel)))
  | 5, hj => by
    have e := Option.some.inj hj
    rw [← e]
    exact va_Nw.of rfl (hts _ (tb_in 683 (by decide +kernel)))
  | 6, hj => by
    have e := Option.some.inj hj
    rw [← e]
    exact va_Nw.of rfl (hts _ (tb_in 732 (by decide +kernel)))
  | 7, hj => by
    have e := Option.some.inj hj
    rw [← e]
    exact va_Nw.of rfl (hts _ (tb_in 482 (by decide +kernel)))
  | 8, hj => by
    have e := Option.some.inj hj
    rw [← e]
    exact va_Nw.of rfl (hts _ (tb_in 433 (by decide +kernel)))
  | 9, hj => by
    have e := Option.some.inj hj
    rw [← e]
    exact va_Nw.of rfl (hts _ (tb_in 349 (by decide +kernel)))
  | 10, hj => by
    have e := Option.some.inj hj
    rw [← e]
    exact va_Nw.of rfl (hts _ (tb_in 479 (by decide +kernel)))
  | 11, hj => by
    have e := Option.some.inj hj
    rw [← e]
    exact va_Nw.of rfl (hts _ (tb_in 470 (by decide +kernel)))
  | 12, hj => by
    have e := Option.some.inj hj
    rw [← e]
    exact va_Nw.of rfl (hts _ (tb_in 355 (by decide +kernel)))
  | 13, hj => by
    have e := Option.some.inj hj
    rw [← e]
    exact va_Nw.of rfl (hts _ (tb_in 541 (by decide +kernel)))
  | 14, hj => by
    have e := Option.some.inj hj
    rw [← e]
    exact va_Nw.of rfl (hts _ (tb_in 513 (by decide +kernel)))
  | 15, hj => by
    have e := Option.some.inj hj
    rw [← e]
    exact va_Nw.of rfl (hts _ (tb_in 593 (by decide +kernel)))
  | j + 16, hj => by
    have := (List.getElem?_eq_some_iff.mp hj).1
    have e : nestTab.length = 16 := rfl
    omega
theorem ar_of {ty : FieldType} {s : State} {args : Array Value} (h : (Cond.arrayClass ty).before args s = true) : ∃ cA, ArrOfT s cA ty ∧ s.vm.findClass ("[" ++ ty.toString) = some cA := by
  obtain ⟨cA, kA, comp, h1, h2, h3⟩ := Cond.arrayClass_spec h
  exact ⟨cA, fun n z => ⟨fun k h => (by cases h), kA, h2, comp, h3⟩, h1⟩
theorem ns_K {b : Nat} {s : State} (hts : ∀ w ∈ lw_tbl, w.before #[Value.ref b] s = true) : ∃ (D : va_G) (c : Nat → ClassId), va_K D vwCl (tysOf c) s := by
  obtain ⟨c0, i0, k0⟩ := u_known (C := RJ4) (T := TJ4) (N := 4) (n := 4) hts innJ4 (hts (.instantiable RJ4 4) (tb_in 213 (by decide +kernel)))
  obtain ⟨c1, i1, k1⟩ := u_known (C := RX0) (T := TX0) (N := 11) (n := 11) hts innX0 (hts (.instantiable RX0 11) (tb_in 40 (by decide +kernel)))
  obtain ⟨c2, i2, k2⟩ := u_known (C := RX1) (T := TX1) (N := 3) (n := 3) hts innX1 (hts (.instantiable RX1 3) (tb_in 248 (by decide +kernel)))
  obtain ⟨c3, i3, k3⟩ := u_known (C := RX2) (T := TX2) (N := 4) (n := 4) hts innX2 (hts (.instantiable RX2 4) (tb_in 268 (by decide +kernel)))
  obtain ⟨c4, i4, k4⟩ := u_known (C := RX3) (T := TX3) (N := 4) (n := 4) hts innX3 (hts (.instantiable RX3 4) (tb_in 288 (by decide +kernel)))
  obtain ⟨c5, i5, k5⟩ := u_known (C := RX4) (T := TX4) (N := 12) (n := 12) hts innX4 (hts (.instantiable RX4 12) (tb_in 28 (by decide +kernel)))
  obtain ⟨c6, i6, k6⟩ := u_known (C := RX5) (T := TX5) (N := 13) (n := 13) hts innX5 (hts (.instantiable RX5 13) (tb_in 34 (by decide +kernel)))
  obtain ⟨c7, i7, k7⟩ := u_known (C := RX6) (T := TX6) (N := 9) (n := 9) hts innX6 (hts (.instantiable RX6 9) (tb_in 20 (by decide +kernel)))
  obtain ⟨c8, i8, k8⟩ := u_known (C := RJ0) (T := TJ0) (N := 4) (n := 4) hts innJ0 (hts (.instantiable RJ0 4) (tb_in 977 (by decide +kernel)))
  obtain ⟨a0, x0, y0⟩ := ar_of (hts (.arrayClass .int) (tb_in 107 (by decide +kernel)))
  obtain ⟨a1, x1, y1⟩ := ar_of (hts (.arrayClass .byte) (tb_in 244 (by decide +kernel)))
  obtain ⟨a2, x2, y2⟩ := ar_of (hts (.arrayClass .long) (tb_in 286 (by decide +kernel)))
  obtain ⟨comp, a3, kA3, f1, -, f3, f4, f5⟩ := Cond.arrayOver_spec (hts (.arrayOver (.object RX5)) (tb_in 254 (by decide +kernel)))
  refine ⟨(fun k => if k = 0 then c0 else if k = 1 then c1 else if k = 2 then c2 else if k = 3 then c3 else if k = 4 then c4 else if k = 5 then c5 else if k = 6 then c6 else if k = 7 then c7 else c8, fun k => if k = 0 then i0 else if k = 1 then i1 else if k = 2 then i2 else if k = 3 then i3 else if k = 4 then i4 else if k = 5 then i5 else if k = 6 then i6 else if k = 7 then i7 else i8), (fun k => if k = 0 then a0 else if k = 1 then a1 else if k = 2 then a2 else a3), fun k q hq => ?_, fun k q hq => ?_⟩
  · match k, hq with
    | 0, hq => cases hq; exact k0
    | 1, hq => cases hq; exact k1
    | 2, hq => cases hq; exact k2
    | 3, hq => cases hq; exact k3
    | 4, hq => cases hq; exact k4
    | 5, hq => cases hq; exact k5
    | 6, hq => cases hq; exact k6
    | 7, hq => cases hq; exact k7
    | 8, hq => cases hq; exact k8
    | k + 9, hq =>
      have := (List.getElem?_eq_some_iff.mp hq).1
      have e : vwCl.length = 9 := rfl
      omega
  · match k, hq with
    | 0, hq => cases hq; exact ⟨x0, y0⟩
    | 1, hq => cases hq; exact ⟨x1, y1⟩
    | 2, hq => cases hq; exact ⟨x2, y2⟩
    | 3, hq => cases hq; exact ⟨fun n z => ⟨fun k h => (by cases h), kA3, f3, comp, f4⟩, kA3, comp, f3, f4, f1, f5⟩
    | k + 4, hq =>
      have := (List.getElem?_eq_some_iff.mp hq).1
      have e : ∀ c, (tysOf c).length = 4 := fun _ => rfl
      rw [e] at this
      omega
