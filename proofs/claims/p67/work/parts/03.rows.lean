/-! The rows of Tr: one an instruction. -/
section TRW
variable {l : Launch} {G : GM} {M : MD} {d k u pc : Nat} {lv lv' : List (Nat × Value)} {rest : List Value} {h : List va_E} {Q : Option Value → List va_E → Prop}
theorem am_iconst {n : Int} {v : Int32} (hd : decode M.2.1 pc = .ok (.iconst n, 1)) (hv : Int32.ofInt n = v) (k1 : Tr l G M d k u (pc + 1) lv (.int v :: rest) h Q) : Tr l G M d k u pc lv (rest) h Q := by
  intro p e R s m args below meth c H locs cells slots mc ms ls F
  exact lv_iconst F.1.1 F.1.2.1 hd hv (k1 p e R s m args below meth c H locs cells slots mc ms ls F)
theorem am_bipush {n : Int} {v : Int32} (hd : decode M.2.1 pc = .ok (.bipush n, 2)) (hv : (Int8.ofInt n).toInt32 = v) (k1 : Tr l G M d k u (pc + 2) lv (.int v :: rest) h Q) : Tr l G M d k u pc lv (rest) h Q := by
  intro p e R s m args below meth c H locs cells slots mc ms ls F
  exact lv_bipush F.1.1 F.1.2.1 hd hv (k1 p e R s m args below meth c H locs cells slots mc ms ls F)
theorem am_sipush {n : Int} {v : Int32} (hd : decode M.2.1 pc = .ok (.sipush n, 3)) (hv : (Int16.ofInt n).toInt32 = v) (k1 : Tr l G M d k u (pc + 3) lv (.int v :: rest) h Q) : Tr l G M d k u pc lv (rest) h Q := by
  intro p e R s m args below meth c H locs cells slots mc ms ls F
  exact lv_sipush F.1.1 F.1.2.1 hd hv (k1 p e R s m args below meth c H locs cells slots mc ms ls F)
theorem am_lconst {n : Fin 2} {v : Int64} (hd : decode M.2.1 pc = .ok (.lconst n, 1)) (hv : Int64.ofNat (n : Nat) = v) (k1 : Tr l G M d k u (pc + 1) lv (.long v :: rest) h Q) : Tr l G M d k u pc lv (rest) h Q := by
  intro p e R s m args below meth c H locs cells slots mc ms ls F
  exact lv_lconst F.1.1 F.1.2.1 hd hv (k1 p e R s m args below meth c H locs cells slots mc ms ls F)
theorem am_iload_n {q : Fin 4} {x : Int32} (hd : decode M.2.1 pc = .ok (.iload_n q, 1)) (j : Nat) (hj : lv[j]? = some ((q : Nat), .int x)) (k1 : Tr l G M d k u (pc + 1) lv (.int x :: rest) h Q) : Tr l G M d k u pc lv (rest) h Q := by
  intro p e R s m args below meth c H locs cells slots mc ms ls F
  exact lv_iload_n F.1.1 F.1.2.1 hd rfl (lv_at F.2.2.2.1 j hj) (k1 p e R s m args below meth c H locs cells slots mc ms ls F)
theorem am_iload {i : Nat} {x : Int32} (hd : decode M.2.1 pc = .ok (.iload i, 2)) (j : Nat) (hj : lv[j]? = some (i, .int x)) (k1 : Tr l G M d k u (pc + 2) lv (.int x :: rest) h Q) : Tr l G M d k u pc lv (rest) h Q := by
  intro p e R s m args below meth c H locs cells slots mc ms ls F
  exact lv_iload F.1.1 F.1.2.1 hd (lv_at F.2.2.2.1 j hj) (k1 p e R s m args below meth c H locs cells slots mc ms ls F)
theorem am_lload_n {q : Fin 4} {x : Int64} (hd : decode M.2.1 pc = .ok (.lload_n q, 1)) (j : Nat) (hj : lv[j]? = some ((q : Nat), .long x)) (k1 : Tr l G M d k u (pc + 1) lv (.long x :: rest) h Q) : Tr l G M d k u pc lv (rest) h Q := by
  intro p e R s m args below meth c H locs cells slots mc ms ls F
  exact lv_lload_n F.1.1 F.1.2.1 hd rfl (lv_at F.2.2.2.1 j hj) (k1 p e R s m args below meth c H locs cells slots mc ms ls F)
theorem am_lload {i : Nat} {x : Int64} (hd : decode M.2.1 pc = .ok (.lload i, 2)) (j : Nat) (hj : lv[j]? = some (i, .long x)) (k1 : Tr l G M d k u (pc + 2) lv (.long x :: rest) h Q) : Tr l G M d k u pc lv (rest) h Q := by
  intro p e R s m args below meth c H locs cells slots mc ms ls F
  exact lv_lload F.1.1 F.1.2.1 hd (lv_at F.2.2.2.1 j hj) (k1 p e R s m args below meth c H locs cells slots mc ms ls F)
theorem am_aload_n {q : Fin 4} {x : Nat} (hd : decode M.2.1 pc = .ok (.aload_n q, 1)) (j : Nat) (hj : lv[j]? = some ((q : Nat), .ref x)) (k1 : Tr l G M d k u (pc + 1) lv (.ref x :: rest) h Q) : Tr l G M d k u pc lv (rest) h Q := by
  intro p e R s m args below meth c H locs cells slots mc ms ls F
  exact lv_aload_n F.1.1 F.1.2.1 hd rfl (lv_at F.2.2.2.1 j hj) (k1 p e R s m args below meth c H locs cells slots mc ms ls F)
theorem am_aload {i : Nat} {x : Nat} (hd : decode M.2.1 pc = .ok (.aload i, 2)) (j : Nat) (hj : lv[j]? = some (i, .ref x)) (k1 : Tr l G M d k u (pc + 2) lv (.ref x :: rest) h Q) : Tr l G M d k u pc lv (rest) h Q := by
  intro p e R s m args below meth c H locs cells slots mc ms ls F
  exact lv_aload F.1.1 F.1.2.1 hd (lv_at F.2.2.2.1 j hj) (k1 p e R s m args below meth c H locs cells slots mc ms ls F)
theorem am_istore_n {q : Fin 4} {x : Int32} (hd : decode M.2.1 pc = .ok (.istore_n q, 1)) (hn : (q : Nat) < M.2.2.1) (hl : ((q : Nat), Value.int x) :: lv.filter (fun y => !(y.1 == (q : Nat)) && !(y.1 + 1 == (q : Nat) && y.2.category == 2)) = lv') (k1 : Tr l G M d k u (pc + 1) lv' rest h Q) : Tr l G M d k u pc lv (.int x :: rest) h Q := by
  intro p e R s m args below meth c H locs cells slots mc ms ls F
  exact lv_istore_n F.1.1 F.1.2.1 hd rfl F.2.2.2.1 hn hl (fun ls1 hl1 => k1 p e R s m args below meth c H locs cells slots mc ms ls1 ⟨F.1, F.2.1, F.2.2.1, hl1, F.2.2.2.2⟩)
theorem am_istore {i : Nat} {x : Int32} (hd : decode M.2.1 pc = .ok (.istore i, 2)) (hn : i < M.2.2.1) (hl : (i, Value.int x) :: lv.filter (fun y => !(y.1 == i) && !(y.1 + 1 == i && y.2.category == 2)) = lv') (k1 : Tr l G M d k u (pc + 2) lv' rest h Q) : Tr l G M d k u pc lv (.int x :: rest) h Q := by
  intro p e R s m args below meth c H locs cells slots mc ms ls F
  exact lv_istore F.1.1 F.1.2.1 hd F.2.2.2.1 hn hl (fun ls1 hl1 => k1 p e R s m args below meth c H locs cells slots mc ms ls1 ⟨F.1, F.2.1, F.2.2.1, hl1, F.2.2.2.2⟩)
theorem am_astore_n {q : Fin 4} {x : Nat} (hd : decode M.2.1 pc = .ok (.astore_n q, 1)) (hn : (q : Nat) < M.2.2.1) (hl : ((q : Nat), Value.ref x) :: lv.filter (fun y => !(y.1 == (q : Nat)) && !(y.1 + 1 == (q : Nat) && y.2.category == 2)) = lv') (k1 : Tr l G M d k u (pc + 1) lv' rest h Q) : Tr l G M d k u pc lv (.ref x :: rest) h Q := by
  intro p e R s m args below meth c H locs cells slots mc ms ls F
  exact lv_astore_n F.1.1 F.1.2.1 hd rfl F.2.2.2.1 hn hl (fun ls1 hl1 => k1 p e R s m args below meth c H locs cells slots mc ms ls1 ⟨F.1, F.2.1, F.2.2.1, hl1, F.2.2.2.2⟩)
theorem am_astore {i : Nat} {x : Nat} (hd : decode M.2.1 pc = .ok (.astore i, 2)) (hn : i < M.2.2.1) (hl : (i, Value.ref x) :: lv.filter (fun y => !(y.1 == i) && !(y.1 + 1 == i && y.2.category == 2)) = lv') (k1 : Tr l G M d k u (pc + 2) lv' rest h Q) : Tr l G M d k u pc lv (.ref x :: rest) h Q := by
  intro p e R s m args below meth c H locs cells slots mc ms ls F
  exact lv_astore F.1.1 F.1.2.1 hd F.2.2.2.1 hn hl (fun ls1 hl1 => k1 p e R s m args below meth c H locs cells slots mc ms ls1 ⟨F.1, F.2.1, F.2.2.1, hl1, F.2.2.2.2⟩)
theorem am_iinc {i : Nat} {n : Int} {x v : Int32} (hd : decode M.2.1 pc = .ok (.iinc i n, 3)) (j : Nat) (hj : lv[j]? = some (i, .int x)) (hv : x + Int32.ofInt n = v) (hn : i < M.2.2.1) (hl : (i, Value.int v) :: lv.filter (fun y => !(y.1 == i) && !(y.1 + 1 == i && y.2.category == 2)) = lv') (k1 : Tr l G M d k u (pc + 3) lv' rest h Q) : Tr l G M d k u pc lv rest h Q := by
  intro p e R s m args below meth c H locs cells slots mc ms ls F
  exact lv_iinc F.1.1 F.1.2.1 hd F.2.2.2.1 hj hv hn hl (fun ls1 hl1 => k1 p e R s m args below meth c H locs cells slots mc ms ls1 ⟨F.1, F.2.1, F.2.2.1, hl1, F.2.2.2.2⟩)
theorem am_iadd {x y : Int32} (hd : decode M.2.1 pc = .ok (.iadd, 1)) (k1 : Tr l G M d k u (pc + 1) lv (.int (x + y) :: rest) h Q) : Tr l G M d k u pc lv (.int y :: .int x :: rest) h Q := by
  intro p e R s m args below meth c H locs cells slots mc ms ls F
  exact lv_iadd F.1.1 F.1.2.1 hd (k1 p e R s m args below meth c H locs cells slots mc ms ls F)
theorem am_isub {x y : Int32} (hd : decode M.2.1 pc = .ok (.isub, 1)) (k1 : Tr l G M d k u (pc + 1) lv (.int (x - y) :: rest) h Q) : Tr l G M d k u pc lv (.int y :: .int x :: rest) h Q := by
  intro p e R s m args below meth c H locs cells slots mc ms ls F
  exact lv_isub F.1.1 F.1.2.1 hd (k1 p e R s m args below meth c H locs cells slots mc ms ls F)
theorem am_imul {x y : Int32} (hd : decode M.2.1 pc = .ok (.imul, 1)) (k1 : Tr l G M d k u (pc + 1) lv (.int (x * y) :: rest) h Q) : Tr l G M d k u pc lv (.int y :: .int x :: rest) h Q := by
  intro p e R s m args below meth c H locs cells slots mc ms ls F
  exact lv_imul F.1.1 F.1.2.1 hd (k1 p e R s m args below meth c H locs cells slots mc ms ls F)
theorem am_iand {x y : Int32} (hd : decode M.2.1 pc = .ok (.iand, 1)) (k1 : Tr l G M d k u (pc + 1) lv (.int (x &&& y) :: rest) h Q) : Tr l G M d k u pc lv (.int y :: .int x :: rest) h Q := by
  intro p e R s m args below meth c H locs cells slots mc ms ls F
  exact lv_iand F.1.1 F.1.2.1 hd (k1 p e R s m args below meth c H locs cells slots mc ms ls F)
theorem am_ior {x y : Int32} (hd : decode M.2.1 pc = .ok (.ior, 1)) (k1 : Tr l G M d k u (pc + 1) lv (.int (x ||| y) :: rest) h Q) : Tr l G M d k u pc lv (.int y :: .int x :: rest) h Q := by
  intro p e R s m args below meth c H locs cells slots mc ms ls F
  exact lv_ior F.1.1 F.1.2.1 hd (k1 p e R s m args below meth c H locs cells slots mc ms ls F)
theorem am_ixor {x y : Int32} (hd : decode M.2.1 pc = .ok (.ixor, 1)) (k1 : Tr l G M d k u (pc + 1) lv (.int (x ^^^ y) :: rest) h Q) : Tr l G M d k u pc lv (.int y :: .int x :: rest) h Q := by
  intro p e R s m args below meth c H locs cells slots mc ms ls F
  exact lv_ixor F.1.1 F.1.2.1 hd (k1 p e R s m args below meth c H locs cells slots mc ms ls F)
theorem am_ishl {x y : Int32} (hd : decode M.2.1 pc = .ok (.ishl, 1)) (k1 : Tr l G M d k u (pc + 1) lv (.int (x <<< (y &&& 31)) :: rest) h Q) : Tr l G M d k u pc lv (.int y :: .int x :: rest) h Q := by
  intro p e R s m args below meth c H locs cells slots mc ms ls F
  exact lv_ishl F.1.1 F.1.2.1 hd (k1 p e R s m args below meth c H locs cells slots mc ms ls F)
theorem am_ishr {x y : Int32} (hd : decode M.2.1 pc = .ok (.ishr, 1)) (k1 : Tr l G M d k u (pc + 1) lv (.int (x >>> (y &&& 31)) :: rest) h Q) : Tr l G M d k u pc lv (.int y :: .int x :: rest) h Q := by
  intro p e R s m args below meth c H locs cells slots mc ms ls F
  exact lv_ishr F.1.1 F.1.2.1 hd (k1 p e R s m args below meth c H locs cells slots mc ms ls F)
theorem am_idiv {x y : Int32} (hd : decode M.2.1 pc = .ok (.idiv, 1)) (hne : ¬ y = 0) (k1 : Tr l G M d k u (pc + 1) lv (.int (x / y) :: rest) h Q) : Tr l G M d k u pc lv (.int y :: .int x :: rest) h Q := by
  intro p e R s m args below meth c H locs cells slots mc ms ls F
  exact lv_idiv F.1.1 F.1.2.1 hd hne (k1 p e R s m args below meth c H locs cells slots mc ms ls F)
theorem am_irem {x y : Int32} (hd : decode M.2.1 pc = .ok (.irem, 1)) (hne : ¬ y = 0) (k1 : Tr l G M d k u (pc + 1) lv (.int (x - x / y * y) :: rest) h Q) : Tr l G M d k u pc lv (.int y :: .int x :: rest) h Q := by
  intro p e R s m args below meth c H locs cells slots mc ms ls F
  exact lv_irem F.1.1 F.1.2.1 hd hne (k1 p e R s m args below meth c H locs cells slots mc ms ls F)
theorem am_ineg {x : Int32} (hd : decode M.2.1 pc = .ok (.ineg, 1)) (k1 : Tr l G M d k u (pc + 1) lv (.int (-x) :: rest) h Q) : Tr l G M d k u pc lv (.int x :: rest) h Q := by
  intro p e R s m args below meth c H locs cells slots mc ms ls F
  exact lv_ineg F.1.1 F.1.2.1 hd (k1 p e R s m args below meth c H locs cells slots mc ms ls F)
theorem am_ladd {x y : Int64} (hd : decode M.2.1 pc = .ok (.ladd, 1)) (k1 : Tr l G M d k u (pc + 1) lv (.long (x + y) :: rest) h Q) : Tr l G M d k u pc lv (.long y :: .long x :: rest) h Q := by
  intro p e R s m args below meth c H locs cells slots mc ms ls F
  exact lv_ladd F.1.1 F.1.2.1 hd (k1 p e R s m args below meth c H locs cells slots mc ms ls F)
theorem am_lsub {x y : Int64} (hd : decode M.2.1 pc = .ok (.lsub, 1)) (k1 : Tr l G M d k u (pc + 1) lv (.long (x - y) :: rest) h Q) : Tr l G M d k u pc lv (.long y :: .long x :: rest) h Q := by
  intro p e R s m args below meth c H locs cells slots mc ms ls F
  exact lv_lsub F.1.1 F.1.2.1 hd (k1 p e R s m args below meth c H locs cells slots mc ms ls F)
theorem am_land {x y : Int64} (hd : decode M.2.1 pc = .ok (.land, 1)) (k1 : Tr l G M d k u (pc + 1) lv (.long (x &&& y) :: rest) h Q) : Tr l G M d k u pc lv (.long y :: .long x :: rest) h Q := by
  intro p e R s m args below meth c H locs cells slots mc ms ls F
  exact lv_land F.1.1 F.1.2.1 hd (k1 p e R s m args below meth c H locs cells slots mc ms ls F)
theorem am_lor {x y : Int64} (hd : decode M.2.1 pc = .ok (.lor, 1)) (k1 : Tr l G M d k u (pc + 1) lv (.long (x ||| y) :: rest) h Q) : Tr l G M d k u pc lv (.long y :: .long x :: rest) h Q := by
  intro p e R s m args below meth c H locs cells slots mc ms ls F
  exact lv_lor F.1.1 F.1.2.1 hd (k1 p e R s m args below meth c H locs cells slots mc ms ls F)
theorem am_iushr {x y v : Int32} (hd : decode M.2.1 pc = .ok (.iushr, 1)) (hv : (x.toUInt32 >>> (y.toUInt32 &&& Int32.toUInt32 31)).toInt32 = v) (k1 : Tr l G M d k u (pc + 1) lv (.int v :: rest) h Q) : Tr l G M d k u pc lv (.int y :: .int x :: rest) h Q := by
  intro p e R s m args below meth c H locs cells slots mc ms ls F
  exact lv_iushr F.1.1 F.1.2.1 hd hv (k1 p e R s m args below meth c H locs cells slots mc ms ls F)
theorem am_lshl {x v : Int64} {y : Int32} (hd : decode M.2.1 pc = .ok (.lshl, 1)) (hv : x <<< (y.toInt64 &&& 63) = v) (k1 : Tr l G M d k u (pc + 1) lv (.long v :: rest) h Q) : Tr l G M d k u pc lv (.int y :: .long x :: rest) h Q := by
  intro p e R s m args below meth c H locs cells slots mc ms ls F
  exact lv_lshl F.1.1 F.1.2.1 hd hv (k1 p e R s m args below meth c H locs cells slots mc ms ls F)
theorem am_lshr {x v : Int64} {y : Int32} (hd : decode M.2.1 pc = .ok (.lshr, 1)) (hv : x >>> (y.toInt64 &&& 63) = v) (k1 : Tr l G M d k u (pc + 1) lv (.long v :: rest) h Q) : Tr l G M d k u pc lv (.int y :: .long x :: rest) h Q := by
  intro p e R s m args below meth c H locs cells slots mc ms ls F
  exact lv_lshr F.1.1 F.1.2.1 hd hv (k1 p e R s m args below meth c H locs cells slots mc ms ls F)
theorem am_i2l {x : Int32} {v : Int64} (hd : decode M.2.1 pc = .ok (.i2l, 1)) (hv : x.toInt64 = v) (k1 : Tr l G M d k u (pc + 1) lv (.long v :: rest) h Q) : Tr l G M d k u pc lv (.int x :: rest) h Q := by
  intro p e R s m args below meth c H locs cells slots mc ms ls F
  exact lv_i2l F.1.1 F.1.2.1 hd hv (k1 p e R s m args below meth c H locs cells slots mc ms ls F)
theorem am_l2i {x : Int64} {v : Int32} (hd : decode M.2.1 pc = .ok (.l2i, 1)) (hv : x.toInt32 = v) (k1 : Tr l G M d k u (pc + 1) lv (.int v :: rest) h Q) : Tr l G M d k u pc lv (.long x :: rest) h Q := by
  intro p e R s m args below meth c H locs cells slots mc ms ls F
  exact lv_l2i F.1.1 F.1.2.1 hd hv (k1 p e R s m args below meth c H locs cells slots mc ms ls F)
theorem am_i2b {x v : Int32} (hd : decode M.2.1 pc = .ok (.i2b, 1)) (hv : x.toInt8.toInt32 = v) (k1 : Tr l G M d k u (pc + 1) lv (.int v :: rest) h Q) : Tr l G M d k u pc lv (.int x :: rest) h Q := by
  intro p e R s m args below meth c H locs cells slots mc ms ls F
  exact lv_i2b F.1.1 F.1.2.1 hd hv (k1 p e R s m args below meth c H locs cells slots mc ms ls F)
theorem am_i2c {x v : Int32} (hd : decode M.2.1 pc = .ok (.i2c, 1)) (hv : (x.toUInt32 % 65536).toInt32 = v) (k1 : Tr l G M d k u (pc + 1) lv (.int v :: rest) h Q) : Tr l G M d k u pc lv (.int x :: rest) h Q := by
  intro p e R s m args below meth c H locs cells slots mc ms ls F
  exact lv_i2c F.1.1 F.1.2.1 hd hv (k1 p e R s m args below meth c H locs cells slots mc ms ls F)
theorem am_dup {va : Value} (hd : decode M.2.1 pc = .ok (.dup, 1)) (hva : va.category = 1) (k1 : Tr l G M d k u (pc + 1) lv (va :: va :: rest) h Q) : Tr l G M d k u pc lv (va :: rest) h Q := by
  intro p e R s m args below meth c H locs cells slots mc ms ls F
  exact lv_dup F.1.1 F.1.2.1 hd hva (k1 p e R s m args below meth c H locs cells slots mc ms ls F)
theorem am_pop {va : Value} (hd : decode M.2.1 pc = .ok (.pop, 1)) (hva : va.category = 1) (k1 : Tr l G M d k u (pc + 1) lv (rest) h Q) : Tr l G M d k u pc lv (va :: rest) h Q := by
  intro p e R s m args below meth c H locs cells slots mc ms ls F
  exact lv_pop F.1.1 F.1.2.1 hd hva (k1 p e R s m args below meth c H locs cells slots mc ms ls F)
theorem am_dup_x1 {va vb : Value} (hd : decode M.2.1 pc = .ok (.dup_x1, 1)) (hva : va.category = 1) (hvb : vb.category = 1) (k1 : Tr l G M d k u (pc + 1) lv (va :: vb :: va :: rest) h Q) : Tr l G M d k u pc lv (va :: vb :: rest) h Q := by
  intro p e R s m args below meth c H locs cells slots mc ms ls F
  exact lv_dup_x1 F.1.1 F.1.2.1 hd hva hvb (k1 p e R s m args below meth c H locs cells slots mc ms ls F)
theorem am_dup2 {va vb : Value} (hd : decode M.2.1 pc = .ok (.dup2, 1)) (hva : va.category = 1) (hvb : vb.category = 1) (k1 : Tr l G M d k u (pc + 1) lv (va :: vb :: va :: vb :: rest) h Q) : Tr l G M d k u pc lv (va :: vb :: rest) h Q := by
  intro p e R s m args below meth c H locs cells slots mc ms ls F
  exact lv_dup2_11 F.1.1 F.1.2.1 hd hva hvb (k1 p e R s m args below meth c H locs cells slots mc ms ls F)
theorem am_if_eq {x : Int32} {off : Int} {tgt : Nat} (hd : decode M.2.1 pc = .ok (.ifCond .eq off, 3)) (ht : (pc : Int) + off = (tgt : Int)) (kt : x = 0 → Tr l G M d k u tgt lv rest h Q) (kf : ¬ x = 0 → Tr l G M d k u (pc + 3) lv rest h Q) : Tr l G M d k u pc lv (.int x :: rest) h Q := by
  intro p e R s m args below meth c H locs cells slots mc ms ls F
  exact lv_if_eq F.1.1 F.1.2.1 hd ht (fun q => kt q p e R s m args below meth c H locs cells slots mc ms ls F) (fun q => kf q p e R s m args below meth c H locs cells slots mc ms ls F)
theorem am_icmp_eq {x y : Int32} {off : Int} {tgt : Nat} (hd : decode M.2.1 pc = .ok (.if_icmp .eq off, 3)) (ht : (pc : Int) + off = (tgt : Int)) (kt : x = y → Tr l G M d k u tgt lv rest h Q) (kf : ¬ x = y → Tr l G M d k u (pc + 3) lv rest h Q) : Tr l G M d k u pc lv (.int y :: .int x :: rest) h Q := by
  intro p e R s m args below meth c H locs cells slots mc ms ls F
  exact lv_icmp_eq F.1.1 F.1.2.1 hd ht (fun q => kt q p e R s m args below meth c H locs cells slots mc ms ls F) (fun q => kf q p e R s m args below meth c H locs cells slots mc ms ls F)
theorem am_if_ne {x : Int32} {off : Int} {tgt : Nat} (hd : decode M.2.1 pc = .ok (.ifCond .ne off, 3)) (ht : (pc : Int) + off = (tgt : Int)) (kt : ¬ x = 0 → Tr l G M d k u tgt lv rest h Q) (kf : x = 0 → Tr l G M d k u (pc + 3) lv rest h Q) : Tr l G M d k u pc lv (.int x :: rest) h Q := by
  intro p e R s m args below meth c H locs cells slots mc ms ls F
  exact lv_if_ne F.1.1 F.1.2.1 hd ht (fun q => kt q p e R s m args below meth c H locs cells slots mc ms ls F) (fun q => kf q p e R s m args below meth c H locs cells slots mc ms ls F)
theorem am_icmp_ne {x y : Int32} {off : Int} {tgt : Nat} (hd : decode M.2.1 pc = .ok (.if_icmp .ne off, 3)) (ht : (pc : Int) + off = (tgt : Int)) (kt : ¬ x = y → Tr l G M d k u tgt lv rest h Q) (kf : x = y → Tr l G M d k u (pc + 3) lv rest h Q) : Tr l G M d k u pc lv (.int y :: .int x :: rest) h Q := by
  intro p e R s m args below meth c H locs cells slots mc ms ls F
  exact lv_icmp_ne F.1.1 F.1.2.1 hd ht (fun q => kt q p e R s m args below meth c H locs cells slots mc ms ls F) (fun q => kf q p e R s m args below meth c H locs cells slots mc ms ls F)
theorem am_if_lt {x : Int32} {off : Int} {tgt : Nat} (hd : decode M.2.1 pc = .ok (.ifCond .lt off, 3)) (ht : (pc : Int) + off = (tgt : Int)) (kt : x < 0 → Tr l G M d k u tgt lv rest h Q) (kf : ¬ x < 0 → Tr l G M d k u (pc + 3) lv rest h Q) : Tr l G M d k u pc lv (.int x :: rest) h Q := by
  intro p e R s m args below meth c H locs cells slots mc ms ls F
  exact lv_if_lt F.1.1 F.1.2.1 hd ht (fun q => kt q p e R s m args below meth c H locs cells slots mc ms ls F) (fun q => kf q p e R s m args below meth c H locs cells slots mc ms ls F)
theorem am_icmp_lt {x y : Int32} {off : Int} {tgt : Nat} (hd : decode M.2.1 pc = .ok (.if_icmp .lt off, 3)) (ht : (pc : Int) + off = (tgt : Int)) (kt : x < y → Tr l G M d k u tgt lv rest h Q) (kf : ¬ x < y → Tr l G M d k u (pc + 3) lv rest h Q) : Tr l G M d k u pc lv (.int y :: .int x :: rest) h Q := by
  intro p e R s m args below meth c H locs cells slots mc ms ls F
  exact lv_icmp_lt F.1.1 F.1.2.1 hd ht (fun q => kt q p e R s m args below meth c H locs cells slots mc ms ls F) (fun q => kf q p e R s m args below meth c H locs cells slots mc ms ls F)
theorem am_if_ge {x : Int32} {off : Int} {tgt : Nat} (hd : decode M.2.1 pc = .ok (.ifCond .ge off, 3)) (ht : (pc : Int) + off = (tgt : Int)) (kt : 0 ≤ x → Tr l G M d k u tgt lv rest h Q) (kf : ¬ 0 ≤ x → Tr l G M d k u (pc + 3) lv rest h Q) : Tr l G M d k u pc lv (.int x :: rest) h Q := by
  intro p e R s m args below meth c H locs cells slots mc ms ls F
  exact lv_if_ge F.1.1 F.1.2.1 hd ht (fun q => kt q p e R s m args below meth c H locs cells slots mc ms ls F) (fun q => kf q p e R s m args below meth c H locs cells slots mc ms ls F)
theorem am_icmp_ge {x y : Int32} {off : Int} {tgt : Nat} (hd : decode M.2.1 pc = .ok (.if_icmp .ge off, 3)) (ht : (pc : Int) + off = (tgt : Int)) (kt : y ≤ x → Tr l G M d k u tgt lv rest h Q) (kf : ¬ y ≤ x → Tr l G M d k u (pc + 3) lv rest h Q) : Tr l G M d k u pc lv (.int y :: .int x :: rest) h Q := by
  intro p e R s m args below meth c H locs cells slots mc ms ls F
  exact lv_icmp_ge F.1.1 F.1.2.1 hd ht (fun q => kt q p e R s m args below meth c H locs cells slots mc ms ls F) (fun q => kf q p e R s m args below meth c H locs cells slots mc ms ls F)
theorem am_if_gt {x : Int32} {off : Int} {tgt : Nat} (hd : decode M.2.1 pc = .ok (.ifCond .gt off, 3)) (ht : (pc : Int) + off = (tgt : Int)) (kt : 0 < x → Tr l G M d k u tgt lv rest h Q) (kf : ¬ 0 < x → Tr l G M d k u (pc + 3) lv rest h Q) : Tr l G M d k u pc lv (.int x :: rest) h Q := by
  intro p e R s m args below meth c H locs cells slots mc ms ls F
  exact lv_if_gt F.1.1 F.1.2.1 hd ht (fun q => kt q p e R s m args below meth c H locs cells slots mc ms ls F) (fun q => kf q p e R s m args below meth c H locs cells slots mc ms ls F)
theorem am_icmp_gt {x y : Int32} {off : Int} {tgt : Nat} (hd : decode M.2.1 pc = .ok (.if_icmp .gt off, 3)) (ht : (pc : Int) + off = (tgt : Int)) (kt : y < x → Tr l G M d k u tgt lv rest h Q) (kf : ¬ y < x → Tr l G M d k u (pc + 3) lv rest h Q) : Tr l G M d k u pc lv (.int y :: .int x :: rest) h Q := by
  intro p e R s m args below meth c H locs cells slots mc ms ls F
  exact lv_icmp_gt F.1.1 F.1.2.1 hd ht (fun q => kt q p e R s m args below meth c H locs cells slots mc ms ls F) (fun q => kf q p e R s m args below meth c H locs cells slots mc ms ls F)
theorem am_if_le {x : Int32} {off : Int} {tgt : Nat} (hd : decode M.2.1 pc = .ok (.ifCond .le off, 3)) (ht : (pc : Int) + off = (tgt : Int)) (kt : x ≤ 0 → Tr l G M d k u tgt lv rest h Q) (kf : ¬ x ≤ 0 → Tr l G M d k u (pc + 3) lv rest h Q) : Tr l G M d k u pc lv (.int x :: rest) h Q := by
  intro p e R s m args below meth c H locs cells slots mc ms ls F
  exact lv_if_le F.1.1 F.1.2.1 hd ht (fun q => kt q p e R s m args below meth c H locs cells slots mc ms ls F) (fun q => kf q p e R s m args below meth c H locs cells slots mc ms ls F)
theorem am_icmp_le {x y : Int32} {off : Int} {tgt : Nat} (hd : decode M.2.1 pc = .ok (.if_icmp .le off, 3)) (ht : (pc : Int) + off = (tgt : Int)) (kt : x ≤ y → Tr l G M d k u tgt lv rest h Q) (kf : ¬ x ≤ y → Tr l G M d k u (pc + 3) lv rest h Q) : Tr l G M d k u pc lv (.int y :: .int x :: rest) h Q := by
  intro p e R s m args below meth c H locs cells slots mc ms ls F
  exact lv_icmp_le F.1.1 F.1.2.1 hd ht (fun q => kt q p e R s m args below meth c H locs cells slots mc ms ls F) (fun q => kf q p e R s m args below meth c H locs cells slots mc ms ls F)
theorem am_goto {off : Int} {tgt : Nat} (hd : decode M.2.1 pc = .ok (.goto off, 3)) (ht : (pc : Int) + off = (tgt : Int)) (k1 : Tr l G M d k u tgt lv rest h Q) : Tr l G M d k u pc lv rest h Q := by
  intro p e R s m args below meth c H locs cells slots mc ms ls F
  exact lv_goto F.1.1 F.1.2.1 hd ht (k1 p e R s m args below meth c H locs cells slots mc ms ls F)
theorem am_ifnonnull {x : Nat} {off : Int} {tgt : Nat} (hd : decode M.2.1 pc = .ok (.ifnonnull off, 3)) (ht : (pc : Int) + off = (tgt : Int)) (k1 : Tr l G M d k u tgt lv rest h Q) : Tr l G M d k u pc lv (.ref x :: rest) h Q := by
  intro p e R s m args below meth c H locs cells slots mc ms ls F
  exact lv_ifnonnull F.1.1 F.1.2.1 hd ht (k1 p e R s m args below meth c H locs cells slots mc ms ls F)
theorem am_ifnull {x : Nat} {off : Int} (hd : decode M.2.1 pc = .ok (.ifnull off, 3)) (k1 : Tr l G M d k u (pc + 3) lv rest h Q) : Tr l G M d k u pc lv (.ref x :: rest) h Q := by
  intro p e R s m args below meth c H locs cells slots mc ms ls F
  exact lv_ifnull F.1.1 F.1.2.1 hd (k1 p e R s m args below meth c H locs cells slots mc ms ls F)
theorem am_lcmp {x y : Int64} {v : Int32} (hd : decode M.2.1 pc = .ok (.lcmp, 1)) (hv : lg_cmp x y = v) (k1 : Tr l G M d k u (pc + 1) lv (.int v :: rest) h Q) : Tr l G M d k u pc lv (.long y :: .long x :: rest) h Q := by
  intro p e R s m args below meth c H locs cells slots mc ms ls F
  subst hv
  exact W.lcmp F.1.1 F.1.2.1 hd (k1 p e R s m args below meth c H locs cells slots mc ms ls F)
theorem am_ldc {index : Nat} {v : Int32} (hd : decode M.2.1 pc = .ok (.ldc index, 2)) (hw : Cond.constant M.1.cls index v ∈ lw_g) (k1 : Tr l G M d k u (pc + 2) lv (.int v :: rest) h Q) : Tr l G M d k u pc lv rest h Q := by
  intro p e R s m args below meth c H locs cells slots mc ms ls F
  exact lv_ldc F.1.1 F.1.2.1 F.1.2.2.2.1 (F.1.2.2.2.2 _ (List.mem_cons_of_mem _ hw)) hd (k1 p e R s m args below meth c H locs cells slots mc ms ls F)
theorem am_ldc_w {index : Nat} {v : Int32} (hd : decode M.2.1 pc = .ok (.ldc_w index, 3)) (hw : Cond.constant M.1.cls index v ∈ lw_g) (k1 : Tr l G M d k u (pc + 3) lv (.int v :: rest) h Q) : Tr l G M d k u pc lv rest h Q := by
  intro p e R s m args below meth c H locs cells slots mc ms ls F
  exact lv_ldcw F.1.1 F.1.2.1 F.1.2.2.2.1 (F.1.2.2.2.2 _ (List.mem_cons_of_mem _ hw)) hd (k1 p e R s m args below meth c H locs cells slots mc ms ls F)
theorem am_ldc2 {index : Nat} {v : Int64} (hd : decode M.2.1 pc = .ok (.ldc2_w index, 3)) (hw : Cond.constantLong M.1.cls index v ∈ lw_g) (k1 : Tr l G M d k u (pc + 3) lv (.long v :: rest) h Q) : Tr l G M d k u pc lv rest h Q := by
  intro p e R s m args below meth c H locs cells slots mc ms ls F
  exact lv_ldc2 F.1.1 F.1.2.1 F.1.2.2.2.1 (F.1.2.2.2.2 _ (List.mem_cons_of_mem _ hw)) hd (k1 p e R s m args below meth c H locs cells slots mc ms ls F)
/-- a String constant -/
theorem am_ldcS {index j : Nat} {tx : String} {bs : List Int32} (hd : decode M.2.1 pc = .ok (.ldc index, 2)) (hj : strTab[j]? = some (M.1.cls, index, tx, bs)) (k1 : Tr l G M d k u (pc + 2) lv (.ref (gS G j) :: rest) h Q) : Tr l G M d k u pc lv rest h Q := by
  intro p e R s m args below meth c H locs cells slots mc ms ls F
  exact va_ldcS F.1.1 F.1.2.1 F.1.2.2.2.1 (F.2.2.2.2.2.2.2.1 j _ hj).1 hd (k1 p e R s m args below meth c H locs cells slots mc ms ls F)

theorem am_ireturn {v : Int32} {ty : FieldType} (hd : decode M.2.1 pc = .ok (.ireturn, 1)) (hr : M.2.2.2 = some ty) (hn : narrow ty (.int v) = .int v) (hq : Q (some (.int v)) h) : Tr l G M d k u pc lv [.int v] h Q := by
  intro p e R s m args below meth c H locs cells slots mc ms ls F
  obtain ⟨⟨hx, hb, hml, hown, hts⟩, ⟨hret, hlk, hnm⟩, ⟨hd1, hd2, hc, hs, hk, hu⟩, hl, hR, hK, hS, hC⟩ := F
  refine W.widen (k := mc) (n := ms) (by omega) (by omega) ?_
  exact W.zret hx hb (hret.trans hr) hn (fun t ht hW => ⟨⟨some (.int v), h, rfl, hq, by rw [ht]; exact hR⟩, hS.F ht⟩) hS.2.2 hd hlk
theorem am_return (hd : decode M.2.1 pc = .ok (.return_, 1)) (hr : M.2.2.2 = none) (hq : Q none h) : Tr l G M d k u pc lv [] h Q := by
  intro p e R s m args below meth c H locs cells slots mc ms ls F
  obtain ⟨⟨hx, hb, hml, hown, hts⟩, ⟨hret, hlk, hnm⟩, ⟨hd1, hd2, hc, hs, hk, hu⟩, hl, hR, hK, hS, hC⟩ := F
  refine W.widen (k := mc) (n := ms) (by omega) (by omega) ?_
  exact W.vret hx hb (hret.trans hr) (fun t ht hW => ⟨⟨none, h, rfl, hq, by rw [ht]; exact hR⟩, hS.F ht⟩) hS.2.2 hd hlk
theorem am_areturn {a : Nat} {rt : FieldType} (hd : decode M.2.1 pc = .ok (.areturn, 1)) (hr : M.2.2.2 = some rt) (hrt : (∃ n, rt = .object n) ∨ ∃ t, rt = .array t) (hq : Q (some (.ref a)) h) : Tr l G M d k u pc lv [.ref a] h Q := by
  intro p e R s m args below meth c H locs cells slots mc ms ls F
  obtain ⟨⟨hx, hb, hml, hown, hts⟩, ⟨hret, hlk, hnm⟩, ⟨hd1, hd2, hc, hs, hk, hu⟩, hl, hR, hK, hS, hC⟩ := F
  refine W.widen (k := mc) (n := ms) (by omega) (by omega) ?_
  exact W.aret hx hb (hret.trans hr) hrt (Or.inr ⟨a, rfl⟩) (fun t ht hW => ⟨⟨some (.ref a), h, rfl, hq, by rw [ht]; exact hR⟩, hS.F ht⟩) hS.2.2 hd hlk
/-- what the tables say of an entry that names a field -/
def okF (own : String) (idx ci kf : Nat) (ty : FieldType) (fin : Bool) : Prop := ∃ (C : String) (T : u_T) (N : Nat) (t : Nat → FieldType), vwCl[ci]? = some (C, T, N) ∧ kf < N ∧ (∀ w ∈ u_ws C T N, w ∈ lw_g) ∧ Cond.fieldLink own idx (T kf).1 (T kf).2.1 (T kf).2.2.1 ∈ lw_g ∧ (∀ k, k < N → parseFieldDescriptor (T k).2.2.1 = some (t k)) ∧ (∀ a, a < N → ∀ b, b < N → a ≠ b → (T a).2.1 ≠ (T b).2.1) ∧ (T kf).2.2.2 = fin ∧ t kf = ty ∧ (fin = true → (T kf).1 = own)
/-- .. for a read -/
def okG (own : String) (idx ci kf : Nat) : Prop := ∃ (C : String) (T : u_T) (N : Nat), vwCl[ci]? = some (C, T, N) ∧ kf < N ∧ (∀ w ∈ u_ws C T N, w ∈ lw_g) ∧ Cond.fieldLink own idx (T kf).1 (T kf).2.1 (T kf).2.2.1 ∈ lw_g
theorem am_get {idx i ci kf : Nat} {fs : List Value} {v : Value} (hd : decode M.2.1 pc = .ok (.getfield idx, 3)) (hF : okG M.1.cls idx ci kf) (hh : h[i]? = some (.inr (ci, fs))) (hv : fs[kf]? = some v) (k1 : Tr l G M d k u (pc + 3) lv (v :: rest) h Q) : Tr l G M d k u pc lv (.ref (gz G + i) :: rest) h Q := by
  intro p e R s m args below meth c H locs cells slots mc ms ls F
  obtain ⟨C, T, N, f1, f2, f3, f4⟩ := hF
  have hts : ∀ w ∈ lw_g, w.before args s = true := fun w hw => F.1.2.2.2.2 w (List.mem_cons_of_mem _ hw)
  exact va_get F.1.1 F.1.2.1 (ref := (T kf).1) hts f3 F.1.2.2.2.1 F.2.2.2.2.2.1 F.2.2.2.2.1.1 i (wz_i hh) f1 kf f2 (hts _ f4) (fun _ q => q) hv hd (k1 p e R s m args below meth c H locs cells slots mc ms ls F)
theorem am_put {idx i ci kf : Nat} {ty : FieldType} {fs : List Value} {v : Value} (hd : decode M.2.1 pc = .ok (.putfield idx, 3)) (hF : okF M.1.cls idx ci kf ty false) (hh : h[i]? = some (.inr (ci, fs))) (hl : kf < fs.length) (hn : narrow ty v = v) (hfit : fits ty v = true) (k1 : Tr l G M d k u (pc + 3) lv rest (h.set i (.inr (ci, fs.set kf v))) Q) : Tr l G M d k u pc lv (v :: .ref (gz G + i) :: rest) h Q := by
  intro p e R s m args below meth c H locs cells slots mc ms ls F
  obtain ⟨C, T, N, t, f1, f2, f3, f4, f5, f6, f7, f8, -⟩ := hF
  obtain ⟨⟨hx, hb, hml, hown, hts0⟩, hM, hr, hls, hR, hK, hS, hC⟩ := F
  have hts : ∀ w ∈ lw_g, w.before args s = true := fun w hw => hts0 w (List.mem_cons_of_mem _ hw)
  have hap := va_apart (own := M.1.cls) hts f3 t f5 f6 hK f1
  obtain ⟨r, h1, cell, q1, q2, q3, q4⟩ := hR.1 i _ (wz_i hh)
  have hr' : r = (C, T, N) := Option.some.inj (h1.symm.trans f1)
  subst hr'
  obtain ⟨hSl, hfc, kC, hkC, hkind⟩ := hK.1 ci _ f1
  obtain ⟨cf, kk, fi, f, hi, hsl⟩ := hSl kf f2
  have hlay := hts _ (f3 _ (u_in_lay f2))
  unfold u_lay at hlay
  rw [if_neg (by rw [f7]; decide)] at hlay
  have hst := (u_facts hfc hkC (u_lays hts f3 f2) hi).1
  have h6 := u_store hfc hkC hkind hlay hi (f5 kf f2) (by rw [f8]; exact hn) (by rw [f8]; exact hfit)
  refine W.putK hx hb (f := f) ⟨hown, hts _ f4, ⟨_, _, _, hi⟩, hst⟩ (by rw [q2]; exact h6) q1 q3 (by rw [hsl]; exact k2_hasslot (q4 kf f2)) rfl rfl hd fun H' e1 e2 e3 => ?_
  rw [hsl] at e1 ⊢
  exact k1 p e R s m args below meth c H' _ cells slots mc ms ls ⟨⟨hx, hb, hml, hown, hts0⟩, hM, hr, hls, hR.put hh ⟨_, f1, t_OB.to (V := updV (vp_V fs) kf v) ⟨_, e1, q2, q3, t_set q4 hap f2 v⟩ (fun j _ => vp_updV_set hl v j)⟩ e2 e3, hK, hS.put e2 e3 (Nat.le_add_right _ _), hC⟩
theorem am_putF {idx i ci kf : Nat} {ty : FieldType} {fs : List Value} {v : Value} (hd : decode M.2.1 pc = .ok (.putfield idx, 3)) (hF : okF M.1.cls idx ci kf ty true) (hini : M.1.name = "<init>") (hh : h[i]? = some (.inr (ci, fs))) (hl : kf < fs.length) (hn : narrow ty v = v) (hfit : fits ty v = true) (k1 : Tr l G M d k u (pc + 3) lv rest (h.set i (.inr (ci, fs.set kf v))) Q) : Tr l G M d k u pc lv (v :: .ref (gz G + i) :: rest) h Q := by
  intro p e R s m args below meth c H locs cells slots mc ms ls F
  obtain ⟨C, T, N, t, f1, f2, f3, f4, f5, f6, f7, f8, f9⟩ := hF
  obtain ⟨⟨hx, hb, hml, hown, hts0⟩, hM, hr, hls, hR, hK, hS, hC⟩ := F
  have hts : ∀ w ∈ lw_g, w.before args s = true := fun w hw => hts0 w (List.mem_cons_of_mem _ hw)
  have hap := va_apart (own := M.1.cls) hts f3 t f5 f6 hK f1
  obtain ⟨r, h1, cell, q1, q2, q3, q4⟩ := hR.1 i _ (wz_i hh)
  have hr' : r = (C, T, N) := Option.some.inj (h1.symm.trans f1)
  subst hr'
  obtain ⟨hSl, hfc, kC, hkC, hkind⟩ := hK.1 ci _ f1
  obtain ⟨cf, kk, fi, f, hi, hsl⟩ := hSl kf f2
  have hlay := hts _ (f3 _ (u_in_lay f2))
  unfold u_lay at hlay
  rw [if_pos f7] at hlay
  have hst := (u_facts hfc hkC (u_lays hts f3 f2) hi).1
  have hcf : m.cls = cf := by
    obtain ⟨_, _, c', _, _, _, -, -, hf', -, -, -, hown2, -⟩ := Cond.laysFinal_spec hlay
    have e1 : c' = cf := by have := hi.symm.trans hf'; simp at this; exact this.1.symm
    rw [f9 rfl] at hown2
    rw [← e1]; exact Option.some.inj (hown.symm.trans hown2)
  have h6 := u_fits hfc hkC hkind (Or.inr hlay) hi (f5 kf f2) (by rw [f8]; exact hn) (by rw [f8]; exact hfit)
  refine W.putFinK hx hb hown (hts _ f4) hi hst hcf (hM.2.2.trans hini) (by rw [q2]; exact h6) q1 q3 (by rw [hsl]; exact k2_hasslot (q4 kf f2)) rfl rfl hd fun H' e1 e2 e3 => ?_
  rw [hsl] at e1 ⊢
  exact k1 p e R s m args below meth c H' _ cells slots mc ms ls ⟨⟨hx, hb, hml, hown, hts0⟩, hM, hr, hls, hR.put hh ⟨_, f1, t_OB.to (V := updV (vp_V fs) kf v) ⟨_, e1, q2, q3, t_set q4 hap f2 v⟩ (fun j _ => vp_updV_set hl v j)⟩ e2 e3, hK, hS.put e2 e3 (Nat.le_add_right _ _), hC⟩
theorem am_iald {i n : Nat} {f : Nat → Int32} {x : Int32} (hd : decode M.2.1 pc = .ok (.iaload, 1)) (hh : h[i]? = some (.inl (0, n, .inl f))) (hin : vp_in x n) (k1 : Tr l G M d k u (pc + 1) lv (.int (f x.toNatClampNeg) :: rest) h Q) : Tr l G M d k u pc lv (.int x :: .ref (gz G + i) :: rest) h Q := by
  intro p e R s m args below meth c H locs cells slots mc ms ls F
  exact va_iald F.1.1 F.1.2.1 F.2.2.2.2.2.1 F.2.2.2.2.1.1 i 0 (cA := gc G 0) (wz_i hh) rfl hin hd (k1 p e R s m args below meth c H locs cells slots mc ms ls F)
theorem am_bald {i n : Nat} {f : Nat → Int32} {x : Int32} (hd : decode M.2.1 pc = .ok (.baload, 1)) (hh : h[i]? = some (.inl (1, n, .inl f))) (hin : vp_in x n) (k1 : Tr l G M d k u (pc + 1) lv (.int (f x.toNatClampNeg) :: rest) h Q) : Tr l G M d k u pc lv (.int x :: .ref (gz G + i) :: rest) h Q := by
  intro p e R s m args below meth c H locs cells slots mc ms ls F
  exact va_bald F.1.1 F.1.2.1 F.2.2.2.2.2.1 F.2.2.2.2.1.1 i 1 (cA := gc G 1) (wz_i hh) rfl hin hd (k1 p e R s m args below meth c H locs cells slots mc ms ls F)
theorem am_lald {i n : Nat} {f : Nat → Int64} {x : Int32} (hd : decode M.2.1 pc = .ok (.laload, 1)) (hh : h[i]? = some (.inl (2, n, .inr (.inl f)))) (hin : vp_in x n) (k1 : Tr l G M d k u (pc + 1) lv (.long (f x.toNatClampNeg) :: rest) h Q) : Tr l G M d k u pc lv (.int x :: .ref (gz G + i) :: rest) h Q := by
  intro p e R s m args below meth c H locs cells slots mc ms ls F
  exact va_lald F.1.1 F.1.2.1 F.2.2.2.2.2.1 F.2.2.2.2.1.1 i 2 (cA := gc G 2) (wz_i hh) rfl hin hd (k1 p e R s m args below meth c H locs cells slots mc ms ls F)
theorem am_aald {i n : Nat} {f : Nat → Option Nat} {x : Int32} (hd : decode M.2.1 pc = .ok (.aaload, 1)) (hh : h[i]? = some (.inl (3, n, .inr (.inr (.inr (.inr f)))))) (hin : vp_in x n) (k1 : Tr l G M d k u (pc + 1) lv (va_rf (f x.toNatClampNeg) :: rest) h Q) : Tr l G M d k u pc lv (.int x :: .ref (gz G + i) :: rest) h Q := by
  intro p e R s m args below meth c H locs cells slots mc ms ls F
  exact va_aldq F.1.1 F.1.2.1 F.2.2.2.2.2.1 F.2.2.2.2.1.1 i 3 (cA := gc G 3) (C := RX5) (wz_i hh) rfl hin hd (k1 p e R s m args below meth c H locs cells slots mc ms ls F)
theorem am_alen {i kk : Nat} {x : vp_A} {ty : FieldType} {v : Int32} (hd : decode M.2.1 pc = .ok (.arraylength, 1)) (hh : h[i]? = some (.inl (kk, x))) (hkk : (tysOf (gc G))[kk]? = some (gc G kk, ty)) (hv : Int32.ofNat x.1 = v) (k1 : Tr l G M d k u (pc + 1) lv (.int v :: rest) h Q) : Tr l G M d k u pc lv (.ref (gz G + i) :: rest) h Q := by
  intro p e R s m args below meth c H locs cells slots mc ms ls F
  exact va_alen F.1.1 F.1.2.1 F.2.2.2.2.2.1 F.2.2.2.2.1.1 i kk (cA := gc G kk) (wz_i hh) hkk hv hd (k1 p e R s m args below meth c H locs cells slots mc ms ls F)
theorem am_iast {i n : Nat} {f : Nat → Int32} {x : Int32} {y : Int32} (hd : decode M.2.1 pc = .ok (.iastore, 1)) (hh : h[i]? = some (.inl (0, n, .inl f))) (hin : vp_in x n) (k1 : Tr l G M d k u (pc + 1) lv rest (h.set i (.inl (0, n, .inl (upd f x.toNatClampNeg y)))) Q) : Tr l G M d k u pc lv (.int y :: .int x :: .ref (gz G + i) :: rest) h Q := by
  intro p e R s m args below meth c H locs cells slots mc ms ls F
  obtain ⟨hF, hM, hr, hls, hR, hK, hS, hC⟩ := F
  have ha := wz_i (G := G) hh
  refine W.iast hF.1 hF.2.1 (hR.1 i _ ha) ((hK.2 0 _ rfl).1 n (fun j => .int (f j))) (fun q => by cases q) (by show ¬ (x < 0 ∨ (arrV _ _ _).slots.size ≤ _); rw [arrV_size]; exact hin) rfl rfl hd fun H1 e1 z oq => ?_
  refine k1 p e R s m args below meth c H1 _ cells slots mc ms ls ⟨hF, hM, hr, hls, hR.put hh ?_ z oq, hK, hS.put z oq (Nat.le_add_right _ _), hC⟩
  show H1[gz G + i]? = some (vp_cell _ _)
  rw [e1]
  rw [show cvE (gc G) (.inl (0, n, .inl f)) = .inl (gc G 0, n, .inl f) from rfl] at *
  show some ((vp_cell (gc G 0) (n, .inl f)).setSlot _ _) = some (vp_cell (gc G 0) (n, .inl (upd f x.toNatClampNeg y)))
  rw [vp_cell_i, vp_cell_i, arrV_store]
  congr 2
  funext q
  by_cases hq : q = x.toNatClampNeg
  · subst hq
    simp [updV, upd]
  · simp [updV, upd, hq]
theorem am_bast {i n : Nat} {f : Nat → Int32} {x : Int32} {y : Int32} (hd : decode M.2.1 pc = .ok (.bastore, 1)) (hh : h[i]? = some (.inl (1, n, .inl f))) (hin : vp_in x n) (k1 : Tr l G M d k u (pc + 1) lv rest (h.set i (.inl (1, n, .inl (upd f x.toNatClampNeg y.toInt8.toInt32)))) Q) : Tr l G M d k u pc lv (.int y :: .int x :: .ref (gz G + i) :: rest) h Q := by
  intro p e R s m args below meth c H locs cells slots mc ms ls F
  obtain ⟨hF, hM, hr, hls, hR, hK, hS, hC⟩ := F
  have ha := wz_i (G := G) hh
  refine W.bast hF.1 hF.2.1 (hR.1 i _ ha) ((hK.2 1 _ rfl).1 n (fun j => .int (f j))) (fun q => by cases q) (by show ¬ (x < 0 ∨ (arrV _ _ _).slots.size ≤ _); rw [arrV_size]; exact hin) rfl rfl hd fun H1 e1 z oq => ?_
  refine k1 p e R s m args below meth c H1 _ cells slots mc ms ls ⟨hF, hM, hr, hls, hR.put hh ?_ z oq, hK, hS.put z oq (Nat.le_add_right _ _), hC⟩
  show H1[gz G + i]? = some (vp_cell _ _)
  rw [e1]
  rw [show cvE (gc G) (.inl (1, n, .inl f)) = .inl (gc G 1, n, .inl f) from rfl] at *
  show some ((vp_cell (gc G 1) (n, .inl f)).setSlot _ _) = some (vp_cell (gc G 1) (n, .inl (upd f x.toNatClampNeg y.toInt8.toInt32)))
  rw [vp_cell_i, vp_cell_i, arrV_store]
  congr 2
  funext q
  by_cases hq : q = x.toNatClampNeg
  · subst hq
    simp [updV, upd]
    rfl
  · simp [updV, upd, hq]
theorem am_last {i n : Nat} {f : Nat → Int64} {x : Int32} {y : Int64} (hd : decode M.2.1 pc = .ok (.lastore, 1)) (hh : h[i]? = some (.inl (2, n, .inr (.inl f)))) (hin : vp_in x n) (k1 : Tr l G M d k u (pc + 1) lv rest (h.set i (.inl (2, n, .inr (.inl (vp_updL f x.toNatClampNeg y))))) Q) : Tr l G M d k u pc lv (.long y :: .int x :: .ref (gz G + i) :: rest) h Q := by
  intro p e R s m args below meth c H locs cells slots mc ms ls F
  obtain ⟨hF, hM, hr, hls, hR, hK, hS, hC⟩ := F
  have ha := wz_i (G := G) hh
  refine W.last hF.1 hF.2.1 (hR.1 i _ ha) ((hK.2 2 _ rfl).1 n (fun j => .long (f j))) (fun q => by cases q) (by show ¬ (x < 0 ∨ (arrV _ _ _).slots.size ≤ _); rw [arrV_size]; exact hin) rfl rfl hd fun H1 e1 z oq => ?_
  refine k1 p e R s m args below meth c H1 _ cells slots mc ms ls ⟨hF, hM, hr, hls, hR.put hh ?_ z oq, hK, hS.put z oq (Nat.le_add_right _ _), hC⟩
  show H1[gz G + i]? = some (vp_cell _ _)
  rw [e1]
  rw [show cvE (gc G) (.inl (2, n, .inr (.inl f))) = .inl (gc G 2, n, .inr (.inl f)) from rfl] at *
  show some ((vp_cell (gc G 2) (n, .inr (.inl f))).setSlot _ _) = some (vp_cell (gc G 2) (n, .inr (.inl (vp_updL f x.toNatClampNeg y))))
  rw [vp_cell_l, vp_cell_l, arrV_store]
  congr 2
  funext q
  by_cases hq : q = x.toNatClampNeg
  · subst hq
    simp [updV, vp_updL]
  · simp [updV, vp_updL, hq]
end TRW
